/-! ProofKernel.rule: substitution, and rule itself. By wip/whole/m_k6.py -/
theorem rpl_pol {v : Nat} {C : List Nat} (hv : kPt v = 0) (hC : Pol 1 C) : ∀ {row : List Nat} {n : Nat}, Pol n row → Pol n (rpl v C row)
  | [], n, h => h
  | t :: row, n, h => by
    obtain ⟨m, rfl, h2⟩ := Pol_cons h
    have ih := rpl_pol hv hC h2
    show Pol (m + 1) ((if t = v then C else [t]) ++ rpl v C row)
    by_cases e : t = v
    · rw [if_pos e]
      subst e
      rw [hv, Nat.add_zero] at ih
      rw [Nat.add_comm m 1]
      exact Pol_app hC ih
    · rw [if_neg e]
      exact ih
theorem rpl_mem {v x : Nat} {C : List Nat} : ∀ {row : List Nat}, x ∈ rpl v C row → x ∈ row ∨ x ∈ C
  | [], h => by simp [rpl] at h
  | t :: row, h => by
    rcases List.mem_append.mp (show x ∈ _ ++ _ from h) with e | e
    · split at e
      · exact Or.inr e
      · rw [List.mem_singleton.mp e]
        exact Or.inl List.mem_cons_self
    · exact (rpl_mem e).imp (List.mem_cons_of_mem _) id
theorem TmOk.keep {Ty : List (Nat × Nat)} {Tm : List (List Nat)} {d : List Nat} (ok : TmOk Ty Tm) (h : d.length ≤ 30 → RowOk Ty d) (hl : Tm.length ≤ 60) : TmOk Ty (sKeep Tm d).2 := by
  by_cases e : (sKeep Tm d).1 = -4
  · rw [sKeep_m4 e hl]; exact ok
  · obtain ⟨t, -, -, -, -, h30, -, -, -, hc⟩ := sKeep_nI e hl
    rcases hc with hc | hc
    · rw [hc]; exact ok
    · rw [hc]
      intro z row hz
      by_cases c : z < Tm.length
      · rw [List.getElem?_append_left c] at hz
        exact ok z row hz
      · rw [List.getElem?_append_right (by omega)] at hz
        have hq : z - Tm.length < 1 := (List.getElem?_eq_some_iff.mp hz).1
        rw [show z - Tm.length = 0 by omega] at hz
        have : d = row := by simpa using hz
        rw [← this]
        exact h h30
/-- the hypotheses, one after the other, with the variable v replaced -/
def sSH (h v : Nat) (C : List Nat) : Nat → Nat → List (List Nat) → Nat → Option (List (List Nat) × Nat)
  | 0, _, Tm, ac => some (Tm, ac)
  | m + 1, t, Tm, ac => if h.testBit t = true then (if (sKeep Tm (rpl v C (Tm.getD t []))).1 = -4 then none else sSH h v C m (t + 1) (sKeep Tm (rpl v C (Tm.getD t []))).2 (ac ||| 2 ^ (sKeep Tm (rpl v C (Tm.getD t []))).1.toNatClampNeg)) else sSH h v C m (t + 1) Tm ac
def sHv (s : Option (List (List Nat) × Nat)) : Int64 := match s with
  | some p => lN p.2
  | none => -4
theorem getD_at {Tm : List (List Nat)} {t : Nat} {row : List Nat} (h : Tm[t]? = some row) : Tm.getD t [] = row := by rw [List.getD_eq_getElem?_getD, h]; rfl
def sRb13 (Ty : List (Nat × Nat)) (Tm : List (List Nat)) (Th : List Thm) (x y hx : Nat) (A B C : List Nat) : pR3 := if tgR B = 0 ∧ tyR B = tyR C then (if Th.length = 40 then (-4, Ty, Tm, Th) else match sSH hx (hdt B) C 60 0 Tm 0 with
  | some p => sFin Ty Tm Th 13 x y p.2 Ty p.1 (rpl (hdt B) C A)
  | none => (-4, Ty, Tm, Th)) else (-2, Ty, Tm, Th)
def sR13 (Ty : List (Nat × Nat)) (Tm : List (List Nat)) (Th : List Thm) (x y : Int32) : pR3 := if ixB x Th.length && prB y Tm.length then sRb13 Ty Tm Th x.toNatClampNeg y.toNatClampNeg (thG Th x).2.2.2.1 (rcT Tm Th x) (Tm.getD (y.toNatClampNeg / 64) []) (Tm.getD (y.toNatClampNeg % 64) []) else (-1, Ty, Tm, Th)
set_option maxRecDepth 100000 in
set_option maxHeartbeats 4000000 in
theorem c_K_substitutedHypotheses {τ : Nat × Nat} {a : Nat → Nat} {i : Nat → Int32} {r : Nat → Nat → Int32} {L : Nat → Int64} {wr : pW} {Ty : List (Nat × Nat)} {Tm : List (List Nat)} {Th : List Thm} {d : List Nat} (x q h : Nat) (B C : List Nat) (hI : XI Ty Tm Th d i r L) (ok : TmOk Ty Tm) (hx : x < 40) (hq : q < 2 ^ 31) (hh : L x = lN h) (hbits : ∀ t : Nat, h.testBit t = true → t < Tm.length) (hB0 : Tm[q / 64]? = some B) (hC0 : Tm[q % 64]? = some C) (hBv : tgR B = 0) : pC m_K_substitutedHypotheses τ [.ref (a 0), .int (nI x), .int (nI q)] (wX a i r L ++ wr) ((fun rr w2 => ∃ i2 r2 d2 Tm2, rr = some (.long (sHv (sSH h (hdt B) C 60 0 Tm 0))) ∧ w2 = wX a i2 r2 L ++ wr ∧ XI Ty Tm2 Th d2 i2 r2 L ∧ (∀ (z : Nat) (row : List Nat), Tm[z]? = some row → Tm2[z]? = some row) ∧ ∀ p, sSH h (hdt B) C 60 0 Tm 0 = some p → p.1 = Tm2 ∧ TmOk Ty Tm2 ∧ p.2 < 2 ^ 60)) := by
  have b2 := hI.b.2.1
  have h60 : h < 2 ^ 60 := bits60 (fun t ht => by have := hbits t ht; omega)
  have hv0 : kPt (hdt B) = 0 := kPt_0 (by show tgR B < 3; rw [hBv]; decide)
  have key : ∀ (m t : Nat) (Tm1 : List (List Nat)) (mk : Nat) (d1 : List Nat) (i1 : Nat → Int32) (r1 : Nat → Nat → Int32), 60 - t = m → t ≤ 60 → XI Ty Tm1 Th d1 i1 r1 L → TmOk Ty Tm1 → (∀ (z : Nat) (row : List Nat), Tm[z]? = some row → Tm1[z]? = some row) → mk < 2 ^ 60 → sSH h (hdt B) C m t Tm1 mk = sSH h (hdt B) C 60 0 Tm 0 → pG m_K_substitutedHypotheses τ (fun rr w2 => ∃ i2 r2 d2 Tm2, rr = some (.long (sHv (sSH h (hdt B) C 60 0 Tm 0))) ∧ w2 = wX a i2 r2 L ++ wr ∧ XI Ty Tm2 Th d2 i2 r2 L ∧ (∀ (z : Nat) (row : List Nat), Tm[z]? = some row → Tm2[z]? = some row) ∧ ∀ p, sSH h (hdt B) C 60 0 Tm 0 = some p → p.1 = Tm2 ∧ TmOk Ty Tm2 ∧ p.2 < 2 ^ 60) 0 0 15 [(7, .int (nI t)), (5, .long (lN mk)), (3, .long (lN h)), (0, .ref (a 0)), (1, .int (nI x)), (2, .int (nI q))] [] (wX a i1 r1 L ++ wr) := by
    intro m
    induction m with
    | zero =>
      intro t Tm1 mk d1 i1 r1 hm ht hI1 ok1 hp1 hmk hS
      refine g_iload (pc := 15) d_K_substitutedHypotheses_15 rfl ?_
      refine g_bipush (pc := 17) (v := nI 60) d_K_substitutedHypotheses_17 (by decide) ?_
      refine g_nicmp_ge (pc := 19) (tgt := 91) d_K_substitutedHypotheses_19 (by decide) (by omega) (by omega) (fun h19 => ?_) (fun h => absurd h (by omega))
      refine g_lload (pc := 91) d_K_substitutedHypotheses_91 rfl ?_
      refine g_lret (pc := 93) d_K_substitutedHypotheses_93 rfl (Nat.le_refl _) (Nat.le_refl _) ?_
      exact ⟨i1, r1, d1, Tm1, by rw [← hS]; rfl, rfl, hI1, hp1, fun p hp => by
        rw [← hS] at hp
        have e := Option.some.inj hp
        subst e
        exact ⟨rfl, ok1, hmk⟩⟩
    | succ m ih =>
      intro t Tm1 mk d1 i1 r1 hm ht hI1 ok1 hp1 hmk hS
      have b21 := hI1.b.2.1
      refine g_iload (pc := 15) d_K_substitutedHypotheses_15 rfl ?_
      refine g_bipush (pc := 17) (v := nI 60) d_K_substitutedHypotheses_17 (by decide) ?_
      refine g_nicmp_ge (pc := 19) (tgt := 91) d_K_substitutedHypotheses_19 (by decide) (by omega) (by omega) (fun h => absurd h (by omega)) (fun h19 => ?_)
      refine g_lload_n (pc := 22) d_K_substitutedHypotheses_22 rfl ?_
      refine g_iload (pc := 23) d_K_substitutedHypotheses_23 rfl ?_
      refine g_callS (M' := m_K_isIn) (pc := 25) d_K_substitutedHypotheses_25 lm_K_194 (c_K_isIn h t (by omega) (by omega)) v_K_isIn rfl (by decide) rfl (Nat.le_of_ble_eq_true rfl) ?_
      rintro _ _ ⟨rfl, rfl⟩
      show pG m_K_substitutedHypotheses τ _ 0 0 28 _ (.int _ :: _) _
      refine g_ifb_eq (pc := 28) (tgt := 85) d_K_substitutedHypotheses_28 (by decide) (fun h28 => ?_) (fun h28 => ?_)
      · refine g_niinc (pc := 85) (d := 1) [(7, _), (5, _), (3, _), (0, _), (1, _), (2, _)] d_K_substitutedHypotheses_85 rfl (by decide) rfl ?_
        refine g_goto (pc := 88) (tgt := 15) d_K_substitutedHypotheses_88 (by decide) ?_
        refine g_pick [0, 1, 2, 3, 4, 5] [(7, _), (5, _), (3, _), (0, _), (1, _), (2, _)] rfl ?_
        exact ih (t + 1) Tm1 mk d1 i1 r1 (by omega) (by omega) hI1 ok1 hp1 hmk (by
          rw [← hS, sSH, if_neg (by rw [h28]; decide)])
      · obtain ⟨row, hrow⟩ := get_of (hbits t h28)
        have hrow1 := hp1 _ _ hrow
        have hR := hI1.2.1.pa ok1 hrow1
        have hB := hI1.2.1.pa ok1 (hp1 _ _ hB0)
        have hC := hI1.2.1.pa ok1 (hp1 _ _ hC0)
        have hg := getD_at hrow1
        have okr : (rpl (hdt B) C row).length ≤ 30 → RowOk Ty (rpl (hdt B) C row) := fun hl => ⟨rpl_pol hv0 hC.2.1 hR.2.1, hl, fun x hx => (rpl_mem hx).elim ((ok1 _ _ hrow1).2.2 x) ((ok1 _ _ (hp1 _ _ hC0)).2.2 x)⟩
        refine g_aload_n (pc := 31) d_K_substitutedHypotheses_31 rfl ?_
        refine gx_K_draft (pc := 32) d_K_substitutedHypotheses_32 lf_K_28 ?_
        refine g_callV (M' := m_D_clear) (pc := 35) (q := 3) d_K_substitutedHypotheses_35 lm_K_47 (c_D_clear) v_D_clear rfl rfl rfl (by decide) rfl (Nat.le_of_ble_eq_true rfl) ?_
        rintro _ _ ⟨rfl, rfl⟩
        have hI2 := hI1.cl
        show pG m_K_substitutedHypotheses τ _ 0 0 38 _ _ _
        refine g_aload_n (pc := 38) d_K_substitutedHypotheses_38 rfl ?_
        refine g_aload_n (pc := 39) d_K_substitutedHypotheses_39 rfl ?_
        refine gx_K_shelf (pc := 40) d_K_substitutedHypotheses_40 lf_K_19 ?_
        refine g_iload (pc := 43) d_K_substitutedHypotheses_43 rfl ?_
        refine g_callV (M' := m_S_start) (pc := 45) (q := 2) d_K_substitutedHypotheses_45 lm_K_69 (c_S_start t) v_S_start rfl rfl rfl (by decide) rfl (Nat.le_of_ble_eq_true rfl) ?_
        rintro _ _ ⟨rfl, rfl⟩
        show pG m_K_substitutedHypotheses τ _ 0 0 48 _ (.int _ :: _) _
        refine g_iload_n (pc := 48) d_K_substitutedHypotheses_48 rfl ?_
        refine g_callV (M' := m_K_draftSubstituted) (pc := 49) (q := 0) d_K_substitutedHypotheses_49 lm_K_215 (c_K_draftSubstituted [] (30 * t) q row B C hq hI2.2.2.1 hR hB hC (by simp)) v_K_draftSubstituted rfl rfl rfl (by decide) rfl (Nat.le_of_ble_eq_true rfl) ?_
        rintro _ _ ⟨i3, r3, rfl, rfl, hx3, hk3⟩
        have hx3 : XD (rpl (hdt B) C row) i3 r3 := hx3
        have hI3 := hI2.dw hk3.w hx3
        show pG m_K_substitutedHypotheses τ _ 0 0 52 _ _ _
        refine g_aload_n (pc := 52) d_K_substitutedHypotheses_52 rfl ?_
        refine gx_K_shelf (pc := 53) d_K_substitutedHypotheses_53 lf_K_19 ?_
        refine g_aload_n (pc := 56) d_K_substitutedHypotheses_56 rfl ?_
        refine gx_K_draft (pc := 57) d_K_substitutedHypotheses_57 lf_K_28 ?_
        refine g_callV (M' := m_S_keep) (pc := 60) (q := 2) d_K_substitutedHypotheses_60 lm_K_60 (c_S_keep Tm1 (rpl (hdt B) C row) hI3.2.1 hI3.2.2.1 (rpl_lt hC.lt hR.lt) (by have := @rpl_len (hdt B) C hC.2.2.2 row; have := hR.2.2.2; omega)) v_S_keep rfl rfl rfl (by decide) rfl (Nat.le_of_ble_eq_true rfl) ?_
        rintro _ _ ⟨i9, r9, rfl, rfl, hS9, hk9⟩
        show pG m_K_substitutedHypotheses τ _ 0 0 63 _ (.int _ :: _) _
        refine g_istore (pc := 63) [(8, _), (7, _), (5, _), (3, _), (0, _), (1, _), (2, _)] d_K_substitutedHypotheses_63 (by decide) rfl ?_
        refine g_iload (pc := 65) d_K_substitutedHypotheses_65 rfl ?_
        refine g_bipush (pc := 67) (v := -4) d_K_substitutedHypotheses_67 (by decide) ?_
        refine g_icmp_ne (pc := 69) (tgt := 76) d_K_substitutedHypotheses_69 (by decide) (fun h69 => ?_) (fun h69 => ?_)
        · have hI9 := hI3.kp hk9 hS9
          obtain ⟨c, hc1, hc2, he, -, -, hp9, -⟩ := sKeep_nI h69 b21
          refine g_lload (pc := 76) d_K_substitutedHypotheses_76 rfl ?_
          refine g_lconst (pc := 78) (v := lN 1) d_K_substitutedHypotheses_78 (by decide) ?_
          refine g_iload (pc := 79) d_K_substitutedHypotheses_79 rfl ?_
          rw [he]
          refine g_lshl (pc := 81) d_K_substitutedHypotheses_81 ?_
          rw [lb_1 c (by omega)]
          refine g_lor (pc := 82) d_K_substitutedHypotheses_82 ?_
          refine g_topl (lN (mk ||| 2 ^ c)) (wb_or (by omega) (wb_lt2 (by omega))) ?_
          refine g_lstore (pc := 83) [(5, _), (8, _), (7, _), (3, _), (0, _), (1, _), (2, _)] d_K_substitutedHypotheses_83 (by decide) rfl ?_
          refine g_niinc (pc := 85) (d := 1) [(7, _), (5, _), (8, _), (3, _), (0, _), (1, _), (2, _)] d_K_substitutedHypotheses_85 rfl (by decide) rfl ?_
          refine g_goto (pc := 88) (tgt := 15) d_K_substitutedHypotheses_88 (by decide) ?_
          refine g_pick [0, 1, 3, 4, 5, 6] [(7, _), (5, _), (3, _), (0, _), (1, _), (2, _)] rfl ?_
          exact ih (t + 1) _ _ _ i9 r9 (by omega) (by omega) hI9 (ok1.keep okr b21) (fun z ro hz => hp9 z ro (hp1 z ro hz)) (Nat.or_lt_two_pow hmk (wb_lt2 hc1)) (by
            rw [← hS, sSH, if_pos h28, hg, if_neg h69, he, nI_clamp (by omega)])
        · refine g_ldc2 (pc := 72) d_K_substitutedHypotheses_72 lk_K_206 ?_
          refine g_lret (pc := 75) d_K_substitutedHypotheses_75 rfl (Nat.le_refl _) (Nat.le_refl _) ?_
          have hN : sSH h (hdt B) C 60 0 Tm 0 = none := by rw [← hS, sSH, if_pos h28, hg, if_pos h69]
          exact ⟨i9, r9, _, _, by rw [hN]; rfl, rfl, hI3.kp hk9 hS9, fun z ro hz => by rw [sKeep_m4 h69 b21]; exact hp1 z ro hz, fun p hp => by rw [hN] at hp; cases hp⟩
  refine pC.of rfl (Nat.le_of_ble_eq_true rfl) ?_
  show pG m_K_substitutedHypotheses τ _ 0 0 0 [(0, _), (1, _), (2, _)] [] _
  refine g_aload_n (pc := 0) d_K_substitutedHypotheses_0 rfl ?_
  refine gx_K_book (pc := 1) d_K_substitutedHypotheses_1 lf_K_35 ?_
  refine g_iload_n (pc := 4) d_K_substitutedHypotheses_4 rfl ?_
  refine g_callV (M' := m_B_hypothesesOf) (pc := 5) (q := 4) d_K_substitutedHypotheses_5 lm_K_152 (c_B_hypothesesOf x hx) v_B_hypothesesOf rfl rfl rfl (by decide) rfl (Nat.le_of_ble_eq_true rfl) ?_
  rintro _ _ ⟨rfl, rfl⟩
  show pG m_K_substitutedHypotheses τ _ 0 0 8 _ (.long _ :: _) _
  rw [hh]
  refine g_lstore_n (pc := 8) [(3, _), (0, _), (1, _), (2, _)] d_K_substitutedHypotheses_8 (by decide) rfl ?_
  refine g_lconst (pc := 9) (v := lN 0) d_K_substitutedHypotheses_9 (by decide) ?_
  refine g_lstore (pc := 10) [(5, _), (3, _), (0, _), (1, _), (2, _)] d_K_substitutedHypotheses_10 (by decide) rfl ?_
  refine g_iconst (pc := 12) (v := nI 0) d_K_substitutedHypotheses_12 (by decide) ?_
  refine g_istore (pc := 13) [(7, _), (5, _), (3, _), (0, _), (1, _), (2, _)] d_K_substitutedHypotheses_13 (by decide) rfl ?_
  refine g_pick [0, 1, 2, 3, 4, 5] [(7, _), (5, _), (3, _), (0, _), (1, _), (2, _)] rfl ?_
  exact key _ 0 Tm 0 d i r rfl (by decide) hI ok (fun _ _ h => h) (by decide) rfl
set_option maxRecDepth 100000 in
set_option maxHeartbeats 4000000 in
theorem c_K_derive_13 {τ : Nat × Nat} {a : Nat → Nat} {i : Nat → Int32} {r : Nat → Nat → Int32} {L : Nat → Int64} {wr : pW} {Ty : List (Nat × Nat)} {Tm : List (List Nat)} {Th : List Thm} {d : List Nat} (x ux vx zx hx cx : Nat) (A : List Nat) (tx : Th[x]? = some (ux, vx, zx, hx, cx)) (hA0 : Tm[cx]? = some A) (y : Nat) (hyq : y < 2 ^ 31) (B C : List Nat) (hB0 : Tm[y / 64]? = some B) (hC0 : Tm[y % 64]? = some C) (hI : XI Ty Tm Th d i r L) (ok : TmOk Ty Tm) (okT : ThOk Tm Th) (hf : Th.length ≠ 40) (hBv : tgR B = 0) : pC m_K_derive τ [.ref (a 0), .int (nI 13), .int (nI x), .int (nI y)] (wX a i r L ++ wr) ((fun rr w2 => ∃ i2 r2 L2 d2, rr = some (.int ((match sSH hx (hdt B) C 60 0 Tm 0 with | some p => sFin Ty Tm Th 13 x y p.2 Ty p.1 (rpl (hdt B) C A) | none => ((-4, Ty, Tm, Th) : pR3)).1)) ∧ w2 = wX a i2 r2 L2 ++ wr ∧ XI ((match sSH hx (hdt B) C 60 0 Tm 0 with | some p => sFin Ty Tm Th 13 x y p.2 Ty p.1 (rpl (hdt B) C A) | none => ((-4, Ty, Tm, Th) : pR3)).2.1) ((match sSH hx (hdt B) C 60 0 Tm 0 with | some p => sFin Ty Tm Th 13 x y p.2 Ty p.1 (rpl (hdt B) C A) | none => ((-4, Ty, Tm, Th) : pR3)).2.2.1) ((match sSH hx (hdt B) C 60 0 Tm 0 with | some p => sFin Ty Tm Th 13 x y p.2 Ty p.1 (rpl (hdt B) C A) | none => ((-4, Ty, Tm, Th) : pR3)).2.2.2) d2 i2 r2 L2)) := by
  refine pC.of rfl (Nat.le_of_ble_eq_true rfl) ?_
  show pG m_K_derive τ _ 0 0 0 [(0, _), (1, _), (2, _), (3, _)] [] _
  obtain ⟨b1, b2, b3, b4, b5, b6⟩ := hI.b
  obtain ⟨hx4, hxT, hx6, hxh⟩ := hI.th tx
  have hxB := (okT _ _ _ _ _ _ tx).2
  refine g_aload_n (pc := 0) d_K_derive_0 rfl ?_
  refine gx_K_shelf (pc := 1) d_K_derive_1 lf_K_19 ?_
  refine g_callV (M' := m_S_count) (pc := 4) (q := 2) d_K_derive_4 lm_K_131 (c_S_count) v_S_count rfl rfl rfl (by decide) rfl (Nat.le_of_ble_eq_true rfl) ?_
  rintro _ _ ⟨rfl, rfl⟩
  show pG m_K_derive τ _ 0 0 7 _ (.int _ :: _) _
  refine g_istore (pc := 7) [(4, _), (0, _), (1, _), (2, _), (3, _)] d_K_derive_7 (by decide) rfl ?_
  refine g_aload_n (pc := 9) d_K_derive_9 rfl ?_
  refine gx_K_types (pc := 10) d_K_derive_10 lf_K_10 ?_
  refine g_callV (M' := m_T_count) (pc := 13) (q := 1) d_K_derive_13 lm_K_86 (c_T_count) v_T_count rfl rfl rfl (by decide) rfl (Nat.le_of_ble_eq_true rfl) ?_
  rintro _ _ ⟨rfl, rfl⟩
  show pG m_K_derive τ _ 0 0 16 _ (.int _ :: _) _
  refine g_istore (pc := 16) [(5, _), (4, _), (0, _), (1, _), (2, _), (3, _)] d_K_derive_16 (by decide) rfl ?_
  refine g_iload_n (pc := 18) d_K_derive_18 rfl ?_
  refine g_bipush (pc := 19) (v := nI 13) d_K_derive_19 (by decide) ?_
  refine g_nicmp_ne (pc := 21) (tgt := 33) d_K_derive_21 (by decide) (by omega) (by omega) (fun h => absurd h (by decide)) (fun h21 => ?_)
  refine g_aload_n (pc := 24) d_K_derive_24 rfl ?_
  refine g_iload_n (pc := 25) d_K_derive_25 rfl ?_
  refine g_iload_n (pc := 26) d_K_derive_26 rfl ?_
  refine g_callV (M' := m_K_substitutedHypotheses) (pc := 27) (q := 0) d_K_derive_27 lm_K_198 (c_K_substitutedHypotheses x y hx B C hI ok hx4 hyq hxh hxB hB0 hC0 hBv) v_K_substitutedHypotheses rfl rfl rfl (by decide) rfl (Nat.le_of_ble_eq_true rfl) ?_
  rintro _ _ ⟨i1, r1, d1, Tm1, rfl, rfl, hI0, hp0, hcs⟩
  generalize hSS : sSH hx (hdt B) C 60 0 Tm 0 = S at hcs ⊢
  show pG m_K_derive τ _ 0 0 30 _ (.long _ :: _) _
  refine g_goto (pc := 30) (tgt := 40) d_K_derive_30 (by decide) ?_
  refine g_lstore (pc := 40) [(6, _), (5, _), (4, _), (0, _), (1, _), (2, _), (3, _)] d_K_derive_40 (by decide) rfl ?_
  refine g_bipush (pc := 42) (v := -4) d_K_derive_42 (by decide) ?_
  refine g_istore (pc := 44) [(8, _), (6, _), (5, _), (4, _), (0, _), (1, _), (2, _), (3, _)] d_K_derive_44 (by decide) rfl ?_
  refine g_lload (pc := 46) d_K_derive_46 rfl ?_
  refine g_ldc2 (pc := 48) d_K_derive_48 lk_K_206 ?_
  refine g_lcmp (pc := 51) d_K_derive_51 ?_
  refine g_if_eq (pc := 52) (tgt := 82) d_K_derive_52 (by decide) (fun h52 => ?_) (fun h52 => ?_)
  · refine g_iload (pc := 82) d_K_derive_82 rfl ?_
    refine g_bipush (pc := 84) (v := -4) d_K_derive_84 (by decide) ?_
    refine g_icmp_ne (pc := 86) (tgt := 110) d_K_derive_86 (by decide) (fun h => absurd rfl h) (fun h86 => ?_)
    obtain rfl : S = none := by
      cases S with
      | none => rfl
      | some p => exact absurd h52 (lb_cmp4 (by have := (hcs p rfl).2.2; omega))
    refine g_aload_n (pc := 89) d_K_derive_89 rfl ?_
    refine gx_K_shelf (pc := 90) d_K_derive_90 lf_K_19 ?_
    refine g_iload (pc := 93) d_K_derive_93 rfl ?_
    refine g_callV (M' := m_S_cutTo) (pc := 95) (q := 2) d_K_derive_95 lm_K_211 (c_S_cutTo _) v_S_cutTo rfl rfl rfl (by decide) rfl (Nat.le_of_ble_eq_true rfl) ?_
    rintro _ _ ⟨rfl, rfl⟩
    show pG m_K_derive τ _ 0 0 98 _ _ _
    refine g_aload_n (pc := 98) d_K_derive_98 rfl ?_
    refine gx_K_types (pc := 99) d_K_derive_99 lf_K_10 ?_
    refine g_iload (pc := 102) d_K_derive_102 rfl ?_
    refine g_callV (M' := m_T_cutTo) (pc := 104) (q := 1) d_K_derive_104 lm_K_100 (c_T_cutTo _) v_T_cutTo rfl rfl rfl (by decide) rfl (Nat.le_of_ble_eq_true rfl) ?_
    rintro _ _ ⟨rfl, rfl⟩
    show pG m_K_derive τ _ 0 0 107 _ _ _
    refine g_bipush (pc := 107) (v := -4) d_K_derive_107 (by decide) ?_
    refine g_iret (pc := 109) d_K_derive_109 rfl (Nat.le_refl _) (Nat.le_refl _) ?_
    exact ⟨_, _, L, _, rfl, rfl, hI0.scut (fun _ _ h => h) b1 hp0 b2 b4 b5⟩
  · obtain ⟨⟨TmS, mk⟩, rfl⟩ : ∃ p, S = some p := by
      cases S with
      | none => exact absurd lb_cmp44 h52
      | some p => exact ⟨p, rfl⟩
    obtain ⟨hTS, ok1, hmk⟩ := hcs _ rfl
    have hTS : TmS = Tm1 := hTS
    subst hTS
    have b21 := hI0.b.2.1
    have hA1 := hI0.2.1.pa ok1 (hp0 _ _ hA0)
    have hB1 := hI0.2.1.pa ok1 (hp0 _ _ hB0)
    have hC1 := hI0.2.1.pa ok1 (hp0 _ _ hC0)
    obtain ⟨-, -, hr6, -⟩ := hI0.th tx
    refine g_aload_n (pc := 55) d_K_derive_55 rfl ?_
    refine gx_K_draft (pc := 56) d_K_derive_56 lf_K_28 ?_
    refine g_callV (M' := m_D_clear) (pc := 59) (q := 3) d_K_derive_59 lm_K_47 (c_D_clear) v_D_clear rfl rfl rfl (by decide) rfl (Nat.le_of_ble_eq_true rfl) ?_
    rintro _ _ ⟨rfl, rfl⟩
    have hI1 := hI0.cl
    show pG m_K_derive τ _ 0 0 62 _ _ _
    refine g_aload_n (pc := 62) d_K_derive_62 rfl ?_
    refine g_iload_n (pc := 63) d_K_derive_63 rfl ?_
    refine g_iload_n (pc := 64) d_K_derive_64 rfl ?_
    refine g_iload_n (pc := 65) d_K_derive_65 rfl ?_
    refine g_callV (M' := m_K_draftConclusion) (pc := 66) (q := 0) d_K_derive_66 lm_K_208 (c_K_conc_13 x cx hx4 hr6 y hyq A hA1 B hB1 C hC1 hI1.2.2.1) v_K_draftConclusion rfl rfl rfl (by decide) rfl (Nat.le_of_ble_eq_true rfl) ?_
    rintro _ _ ⟨i3, r3, rfl, rfl, hx3, hk3⟩
    have hI2 := hI1.dw hk3 hx3
    show pG m_K_derive τ _ 0 0 69 _ _ _
    refine g_aload_n (pc := 69) d_K_derive_69 rfl ?_
    refine gx_K_shelf (pc := 70) d_K_derive_70 lf_K_19 ?_
    refine g_aload_n (pc := 73) d_K_derive_73 rfl ?_
    refine gx_K_draft (pc := 74) d_K_derive_74 lf_K_28 ?_
    refine g_callV (M' := m_S_keep) (pc := 77) (q := 2) d_K_derive_77 lm_K_60 (c_S_keep TmS _ hI2.2.1 hI2.2.2.1 (rpl_lt hC1.lt hA1.lt) (by have := @rpl_len (hdt B) C hC1.2.2.2 A; have := hA1.2.2.2; omega)) v_S_keep rfl rfl rfl (by decide) rfl (Nat.le_of_ble_eq_true rfl) ?_
    rintro _ _ ⟨i9, r9, rfl, rfl, hS9, hk9⟩
    show pG m_K_derive τ _ 0 0 80 _ (.int _ :: _) _
    refine g_istore (pc := 80) [(8, _), (6, _), (5, _), (4, _), (0, _), (1, _), (2, _), (3, _)] d_K_derive_80 (by decide) rfl ?_
    refine g_iload (pc := 82) d_K_derive_82 rfl ?_
    refine g_bipush (pc := 84) (v := -4) d_K_derive_84 (by decide) ?_
    refine g_icmp_ne (pc := 86) (tgt := 110) d_K_derive_86 (by decide) (fun h86 => ?_) (fun h86 => ?_)
    · have hI9 := hI2.kp hk9 hS9
      obtain ⟨c, hc1, hc2, he, -⟩ := sKeep_nI h86 b21
      refine g_aload_n (pc := 110) d_K_derive_110 rfl ?_
      refine gx_K_book (pc := 111) d_K_derive_111 lf_K_35 ?_
      refine g_iload_n (pc := 114) d_K_derive_114 rfl ?_
      refine g_iload_n (pc := 115) d_K_derive_115 rfl ?_
      refine g_iload_n (pc := 116) d_K_derive_116 rfl ?_
      refine g_lload (pc := 117) d_K_derive_117 rfl ?_
      refine g_iload (pc := 119) d_K_derive_119 rfl ?_
      rw [he]
      refine g_callV (M' := m_B_add) (pc := 121) (q := 4) d_K_derive_121 lm_K_212 (c_B_add Th 13 x y mk c _ _ hI9.2.2.2 hf (by decide) (fun _ => ⟨rfl, by omega⟩) (fun e => absurd e (by decide))) v_B_add rfl rfl rfl (by decide) rfl (Nat.le_of_ble_eq_true rfl) ?_
      rintro _ _ ⟨i8, r8, L8, rfl, rfl, hB8, hk8⟩
      show pG m_K_derive τ _ 0 0 124 _ (.int _ :: _) _
      refine g_iret (pc := 124) d_K_derive_124 rfl (Nat.le_refl _) (Nat.le_refl _) ?_
      exact ⟨i8, r8, L8, _, by show some _ = some (Value.int (sFin Ty Tm Th 13 x y mk Ty TmS (rpl (hdt B) C A)).1); rw [sFin, if_neg h86], rfl, by
        show XI (sFin Ty Tm Th 13 x y mk Ty TmS (rpl (hdt B) C A)).2.1 (sFin Ty Tm Th 13 x y mk Ty TmS (rpl (hdt B) C A)).2.2.1 (sFin Ty Tm Th 13 x y mk Ty TmS (rpl (hdt B) C A)).2.2.2 _ _ _ _
        rw [sFin, if_neg h86, he, nI_clamp (by omega)]
        exact hI9.bk hk8 hB8⟩
    · have hk4 := h86
      have hXS := hS9
      rw [sKeep_m4 hk4 b21] at hXS
      have hI9 := hI2.kp hk9 hXS
      refine g_aload_n (pc := 89) d_K_derive_89 rfl ?_
      refine gx_K_shelf (pc := 90) d_K_derive_90 lf_K_19 ?_
      refine g_iload (pc := 93) d_K_derive_93 rfl ?_
      refine g_callV (M' := m_S_cutTo) (pc := 95) (q := 2) d_K_derive_95 lm_K_211 (c_S_cutTo _) v_S_cutTo rfl rfl rfl (by decide) rfl (Nat.le_of_ble_eq_true rfl) ?_
      rintro _ _ ⟨rfl, rfl⟩
      show pG m_K_derive τ _ 0 0 98 _ _ _
      refine g_aload_n (pc := 98) d_K_derive_98 rfl ?_
      refine gx_K_types (pc := 99) d_K_derive_99 lf_K_10 ?_
      refine g_iload (pc := 102) d_K_derive_102 rfl ?_
      refine g_callV (M' := m_T_cutTo) (pc := 104) (q := 1) d_K_derive_104 lm_K_100 (c_T_cutTo _) v_T_cutTo rfl rfl rfl (by decide) rfl (Nat.le_of_ble_eq_true rfl) ?_
      rintro _ _ ⟨rfl, rfl⟩
      show pG m_K_derive τ _ 0 0 107 _ _ _
      refine g_bipush (pc := 107) (v := -4) d_K_derive_107 (by decide) ?_
      refine g_iret (pc := 109) d_K_derive_109 rfl (Nat.le_refl _) (Nat.le_refl _) ?_
      exact ⟨_, _, L, _, by show some _ = some (Value.int (sFin Ty Tm Th 13 x y mk Ty TmS (rpl (hdt B) C A)).1); rw [sFin, if_pos hk4], rfl, by
        show XI (sFin Ty Tm Th 13 x y mk Ty TmS (rpl (hdt B) C A)).2.1 (sFin Ty Tm Th 13 x y mk Ty TmS (rpl (hdt B) C A)).2.2.1 (sFin Ty Tm Th 13 x y mk Ty TmS (rpl (hdt B) C A)).2.2.2 _ _ _ _
        rw [sFin, if_pos hk4]
        exact hI9.scut (fun _ _ h => h) b1 hp0 b2 b4 b5⟩
set_option maxRecDepth 100000 in
set_option maxHeartbeats 4000000 in
theorem c_K_rule_0 {τ : Nat × Nat} {a : Nat → Nat} {i : Nat → Int32} {r : Nat → Nat → Int32} {L : Nat → Int64} {wr : pW} {Ty : List (Nat × Nat)} {Tm : List (List Nat)} {Th : List Thm} {d : List Nat} (x y : Int32) (hI : XI Ty Tm Th d i r L) (ok : TmOk Ty Tm) (okT : ThOk Tm Th) : pC m_K_rule τ [.ref (a 0), .int (nI 0), .int x, .int y] (wX a i r L ++ wr) ((fun rr w2 => ∃ i2 r2 L2 d2, rr = some (.int ((sR0 Ty Tm Th x y).1)) ∧ w2 = wX a i2 r2 L2 ++ wr ∧ XI ((sR0 Ty Tm Th x y).2.1) ((sR0 Ty Tm Th x y).2.2.1) ((sR0 Ty Tm Th x y).2.2.2) d2 i2 r2 L2)) := by
  refine pC.of rfl (Nat.le_of_ble_eq_true rfl) ?_
  show pG m_K_rule τ _ 0 0 0 [(0, _), (1, _), (2, _), (3, _)] [] _
  obtain ⟨b1, b2, b3, b4, b5, b6⟩ := hI.b
  refine g_iload_n (pc := 0) d_K_rule_0 rfl ?_
  refine g_nif_lt (pc := 1) (tgt := 10) d_K_rule_1 (by decide) (by omega) ?_
  refine g_iload_n (pc := 4) d_K_rule_4 rfl ?_
  refine g_bipush (pc := 5) (v := nI 14) d_K_rule_5 (by decide) ?_
  refine g_nicmp_lt (pc := 7) (tgt := 12) d_K_rule_7 (by decide) (by omega) (by omega) (fun h7 => ?_) (fun h => absurd h (by decide))
  refine g_aload_n (pc := 12) d_K_rule_12 rfl ?_
  refine g_getsX (pc := 13) d_K_rule_13 lf_K_107 ?_
  refine g_iload_n (pc := 16) d_K_rule_16 rfl ?_
  refine g_saldX (pc := 17) (v := nI 1) d_K_rule_17 (vp_in_nI (by decide) (by decide)) (by decide) ?_
  refine g_iload_n (pc := 18) d_K_rule_18 rfl ?_
  refine g_callV (M' := m_K_isThere) (pc := 19) (q := 0) d_K_rule_19 lm_K_111 (c_K_isThere_1 Tm.length b5 (by omega) x) v_K_isThere rfl rfl rfl (by decide) rfl (Nat.le_of_ble_eq_true rfl) ?_
  rintro _ _ ⟨rfl, rfl⟩
  show pG m_K_rule τ _ 0 0 22 _ (.int _ :: _) _
  refine g_ifb_eq (pc := 22) (tgt := 38) d_K_rule_22 (by decide) (fun h22 => ?_) (fun h22 => ?_)
  · refine g_iconst (pc := 38) (v := -1) d_K_rule_38 (by decide) ?_
    refine g_iret (pc := 39) d_K_rule_39 rfl (Nat.le_refl _) (Nat.le_refl _) ?_
    have eZ : sR0 Ty Tm Th x y = (-1, Ty, Tm, Th) := by
      first | (rw [sR0, h22]; rfl)
    exact ⟨i, r, L, d, by rw [eZ], rfl, by rw [eZ]; exact hI⟩
  · refine g_aload_n (pc := 25) d_K_rule_25 rfl ?_
    refine g_getsY (pc := 26) d_K_rule_26 lf_K_114 ?_
    refine g_iload_n (pc := 29) d_K_rule_29 rfl ?_
    refine g_saldY (pc := 30) (v := nI 0) d_K_rule_30 (vp_in_nI (by decide) (by decide)) (by decide) ?_
    refine g_iload_n (pc := 31) d_K_rule_31 rfl ?_
    refine g_callV (M' := m_K_isThere) (pc := 32) (q := 0) d_K_rule_32 lm_K_111 (c_K_isThere_0 y) v_K_isThere rfl rfl rfl (by decide) rfl (Nat.le_of_ble_eq_true rfl) ?_
    rintro _ _ ⟨rfl, rfl⟩
    show pG m_K_rule τ _ 0 0 35 _ (.int _ :: _) _
    refine g_ifb_ne (pc := 35) (tgt := 40) d_K_rule_35 (by decide) (fun h35 => ?_) (fun h => Bool.noConfusion h)
    obtain ⟨x0, hx0, rfl⟩ := ixB_of h22 (by omega)
    obtain ⟨A, hA0_⟩ := get_of hx0
    have hA := hI.2.1.pa ok hA0_
    have eA := rwT_at hA0_ b2
    have exc : (nI x0).toNatClampNeg = x0 := nI_clamp (by omega)
    have eS : sR0 Ty Tm Th (nI x0) y = sRb0 Ty Tm Th x0 y.toNatClampNeg 0 0 A [] := by rw [sR0, h22, exc, eA]; rfl
    refine g_aload_n (pc := 40) d_K_rule_40 rfl ?_
    refine g_iload_n (pc := 41) d_K_rule_41 rfl ?_
    refine g_iload_n (pc := 42) d_K_rule_42 rfl ?_
    refine g_iload_n (pc := 43) d_K_rule_43 rfl ?_
    refine g_callV (M' := m_K_isAsTheRuleSays) (pc := 44) (q := 0) d_K_rule_44 lm_K_117 (c_K_isAs_0 x0 y A hA) v_K_isAsTheRuleSays rfl rfl rfl (by decide) rfl (Nat.le_of_ble_eq_true rfl) ?_
    rintro _ _ ⟨rfl, rfl⟩
    show pG m_K_rule τ _ 0 0 47 _ (.int _ :: _) _
    refine g_ifb_ne (pc := 47) (tgt := 53) d_K_rule_47 (by decide) (fun h47 => ?_) (fun h47 => ?_)
    · refine g_aload_n (pc := 53) d_K_rule_53 rfl ?_
      refine g_iload_n (pc := 54) d_K_rule_54 rfl ?_
      refine g_iload_n (pc := 55) d_K_rule_55 rfl ?_
      refine g_iload_n (pc := 56) d_K_rule_56 rfl ?_
      refine g_callV (M' := m_K_bindsWhatIsAssumed) (pc := 57) (q := 0) d_K_rule_57 lm_K_121 (c_K_binds_0 _ _) v_K_bindsWhatIsAssumed rfl rfl rfl (by decide) rfl (Nat.le_of_ble_eq_true rfl) ?_
      rintro _ _ ⟨rfl, rfl⟩
      show pG m_K_rule τ _ 0 0 60 _ (.int _ :: _) _
      refine g_ifb_eq (pc := 60) (tgt := 66) d_K_rule_60 (by decide) (fun h60 => ?_) (fun h => Bool.noConfusion h)
      refine g_aload_n (pc := 66) d_K_rule_66 rfl ?_
      refine gx_K_book (pc := 67) d_K_rule_67 lf_K_35 ?_
      refine g_callV (M' := m_B_isFull) (pc := 70) (q := 4) d_K_rule_70 lm_K_124 (c_B_isFull Th.length b6 (by omega)) v_B_isFull rfl rfl rfl (by decide) rfl (Nat.le_of_ble_eq_true rfl) ?_
      rintro _ _ ⟨rfl, rfl⟩
      show pG m_K_rule τ _ 0 0 73 _ (.int _ :: _) _
      refine g_ifb_eq (pc := 73) (tgt := 79) d_K_rule_73 (by decide) (fun h73 => ?_) (fun h73 => ?_)
      · refine g_aload_n (pc := 79) d_K_rule_79 rfl ?_
        refine g_iload_n (pc := 80) d_K_rule_80 rfl ?_
        refine g_iload_n (pc := 81) d_K_rule_81 rfl ?_
        refine g_iload_n (pc := 82) d_K_rule_82 rfl ?_
        refine g_callV (M' := m_K_derive) (pc := 83) (q := 0) d_K_rule_83 lm_K_128 (c_K_derive_0 x0 A hA0_ y hI ok okT (of_decide_eq_false h73) ) v_K_derive rfl rfl rfl (by decide) rfl (Nat.le_of_ble_eq_true rfl) ?_
        rintro _ _ ⟨i2, r2, L2, d2, rfl, rfl, hI2⟩
        show pG m_K_rule τ _ 0 0 86 _ (.int _ :: _) _
        refine g_iret (pc := 86) d_K_rule_86 rfl (Nat.le_refl _) (Nat.le_refl _) ?_
        have eZ := eS
        rw [sRb0, if_pos (of_decide_eq_true h47), if_neg (of_decide_eq_false h73)] at eZ
        exact ⟨i2, r2, L2, d2, by rw [eZ], rfl, by rw [eZ]; exact hI2⟩
      · refine g_bipush (pc := 76) (v := -4) d_K_rule_76 (by decide) ?_
        refine g_iret (pc := 78) d_K_rule_78 rfl (Nat.le_refl _) (Nat.le_refl _) ?_
        have eZ : sR0 Ty Tm Th (nI x0) y = (-4, Ty, Tm, Th) := by rw [eS, sRb0, if_pos (of_decide_eq_true h47), if_pos (of_decide_eq_true h73)]
        exact ⟨i, r, L, d, by rw [eZ], rfl, by rw [eZ]; exact hI⟩
    · refine g_bipush (pc := 50) (v := -2) d_K_rule_50 (by decide) ?_
      refine g_iret (pc := 52) d_K_rule_52 rfl (Nat.le_refl _) (Nat.le_refl _) ?_
      have eZ : sR0 Ty Tm Th (nI x0) y = (-2, Ty, Tm, Th) := by rw [eS, sRb0, if_neg (of_decide_eq_false h47)]
      exact ⟨i, r, L, d, by rw [eZ], rfl, by rw [eZ]; exact hI⟩
set_option maxRecDepth 100000 in
set_option maxHeartbeats 4000000 in
theorem c_K_rule_1 {τ : Nat × Nat} {a : Nat → Nat} {i : Nat → Int32} {r : Nat → Nat → Int32} {L : Nat → Int64} {wr : pW} {Ty : List (Nat × Nat)} {Tm : List (List Nat)} {Th : List Thm} {d : List Nat} (x y : Int32) (hI : XI Ty Tm Th d i r L) (ok : TmOk Ty Tm) (okT : ThOk Tm Th) : pC m_K_rule τ [.ref (a 0), .int (nI 1), .int x, .int y] (wX a i r L ++ wr) ((fun rr w2 => ∃ i2 r2 L2 d2, rr = some (.int ((sR1 Ty Tm Th x y).1)) ∧ w2 = wX a i2 r2 L2 ++ wr ∧ XI ((sR1 Ty Tm Th x y).2.1) ((sR1 Ty Tm Th x y).2.2.1) ((sR1 Ty Tm Th x y).2.2.2) d2 i2 r2 L2)) := by
  refine pC.of rfl (Nat.le_of_ble_eq_true rfl) ?_
  show pG m_K_rule τ _ 0 0 0 [(0, _), (1, _), (2, _), (3, _)] [] _
  obtain ⟨b1, b2, b3, b4, b5, b6⟩ := hI.b
  refine g_iload_n (pc := 0) d_K_rule_0 rfl ?_
  refine g_nif_lt (pc := 1) (tgt := 10) d_K_rule_1 (by decide) (by omega) ?_
  refine g_iload_n (pc := 4) d_K_rule_4 rfl ?_
  refine g_bipush (pc := 5) (v := nI 14) d_K_rule_5 (by decide) ?_
  refine g_nicmp_lt (pc := 7) (tgt := 12) d_K_rule_7 (by decide) (by omega) (by omega) (fun h7 => ?_) (fun h => absurd h (by decide))
  refine g_aload_n (pc := 12) d_K_rule_12 rfl ?_
  refine g_getsX (pc := 13) d_K_rule_13 lf_K_107 ?_
  refine g_iload_n (pc := 16) d_K_rule_16 rfl ?_
  refine g_saldX (pc := 17) (v := nI 1) d_K_rule_17 (vp_in_nI (by decide) (by decide)) (by decide) ?_
  refine g_iload_n (pc := 18) d_K_rule_18 rfl ?_
  refine g_callV (M' := m_K_isThere) (pc := 19) (q := 0) d_K_rule_19 lm_K_111 (c_K_isThere_1 Tm.length b5 (by omega) x) v_K_isThere rfl rfl rfl (by decide) rfl (Nat.le_of_ble_eq_true rfl) ?_
  rintro _ _ ⟨rfl, rfl⟩
  show pG m_K_rule τ _ 0 0 22 _ (.int _ :: _) _
  refine g_ifb_eq (pc := 22) (tgt := 38) d_K_rule_22 (by decide) (fun h22 => ?_) (fun h22 => ?_)
  · refine g_iconst (pc := 38) (v := -1) d_K_rule_38 (by decide) ?_
    refine g_iret (pc := 39) d_K_rule_39 rfl (Nat.le_refl _) (Nat.le_refl _) ?_
    have eZ : sR1 Ty Tm Th x y = (-1, Ty, Tm, Th) := by
      first | (rw [sR1, h22]; rfl)
    exact ⟨i, r, L, d, by rw [eZ], rfl, by rw [eZ]; exact hI⟩
  · refine g_aload_n (pc := 25) d_K_rule_25 rfl ?_
    refine g_getsY (pc := 26) d_K_rule_26 lf_K_114 ?_
    refine g_iload_n (pc := 29) d_K_rule_29 rfl ?_
    refine g_saldY (pc := 30) (v := nI 0) d_K_rule_30 (vp_in_nI (by decide) (by decide)) (by decide) ?_
    refine g_iload_n (pc := 31) d_K_rule_31 rfl ?_
    refine g_callV (M' := m_K_isThere) (pc := 32) (q := 0) d_K_rule_32 lm_K_111 (c_K_isThere_0 y) v_K_isThere rfl rfl rfl (by decide) rfl (Nat.le_of_ble_eq_true rfl) ?_
    rintro _ _ ⟨rfl, rfl⟩
    show pG m_K_rule τ _ 0 0 35 _ (.int _ :: _) _
    refine g_ifb_ne (pc := 35) (tgt := 40) d_K_rule_35 (by decide) (fun h35 => ?_) (fun h => Bool.noConfusion h)
    obtain ⟨x0, hx0, rfl⟩ := ixB_of h22 (by omega)
    obtain ⟨A, hA0_⟩ := get_of hx0
    have hA := hI.2.1.pa ok hA0_
    have eA := rwT_at hA0_ b2
    have exc : (nI x0).toNatClampNeg = x0 := nI_clamp (by omega)
    have eS : sR1 Ty Tm Th (nI x0) y = sRb1 Ty Tm Th x0 y.toNatClampNeg 0 0 A [] := by rw [sR1, h22, exc, eA]; rfl
    refine g_aload_n (pc := 40) d_K_rule_40 rfl ?_
    refine g_iload_n (pc := 41) d_K_rule_41 rfl ?_
    refine g_iload_n (pc := 42) d_K_rule_42 rfl ?_
    refine g_iload_n (pc := 43) d_K_rule_43 rfl ?_
    refine g_callV (M' := m_K_isAsTheRuleSays) (pc := 44) (q := 0) d_K_rule_44 lm_K_117 (c_K_isAs_1 x0 y A hA) v_K_isAsTheRuleSays rfl rfl rfl (by decide) rfl (Nat.le_of_ble_eq_true rfl) ?_
    rintro _ _ ⟨rfl, rfl⟩
    show pG m_K_rule τ _ 0 0 47 _ (.int _ :: _) _
    refine g_ifb_ne (pc := 47) (tgt := 53) d_K_rule_47 (by decide) (fun h47 => ?_) (fun h47 => ?_)
    · refine g_aload_n (pc := 53) d_K_rule_53 rfl ?_
      refine g_iload_n (pc := 54) d_K_rule_54 rfl ?_
      refine g_iload_n (pc := 55) d_K_rule_55 rfl ?_
      refine g_iload_n (pc := 56) d_K_rule_56 rfl ?_
      refine g_callV (M' := m_K_bindsWhatIsAssumed) (pc := 57) (q := 0) d_K_rule_57 lm_K_121 (c_K_binds_1 _ _) v_K_bindsWhatIsAssumed rfl rfl rfl (by decide) rfl (Nat.le_of_ble_eq_true rfl) ?_
      rintro _ _ ⟨rfl, rfl⟩
      show pG m_K_rule τ _ 0 0 60 _ (.int _ :: _) _
      refine g_ifb_eq (pc := 60) (tgt := 66) d_K_rule_60 (by decide) (fun h60 => ?_) (fun h => Bool.noConfusion h)
      refine g_aload_n (pc := 66) d_K_rule_66 rfl ?_
      refine gx_K_book (pc := 67) d_K_rule_67 lf_K_35 ?_
      refine g_callV (M' := m_B_isFull) (pc := 70) (q := 4) d_K_rule_70 lm_K_124 (c_B_isFull Th.length b6 (by omega)) v_B_isFull rfl rfl rfl (by decide) rfl (Nat.le_of_ble_eq_true rfl) ?_
      rintro _ _ ⟨rfl, rfl⟩
      show pG m_K_rule τ _ 0 0 73 _ (.int _ :: _) _
      refine g_ifb_eq (pc := 73) (tgt := 79) d_K_rule_73 (by decide) (fun h73 => ?_) (fun h73 => ?_)
      · refine g_aload_n (pc := 79) d_K_rule_79 rfl ?_
        refine g_iload_n (pc := 80) d_K_rule_80 rfl ?_
        refine g_iload_n (pc := 81) d_K_rule_81 rfl ?_
        refine g_iload_n (pc := 82) d_K_rule_82 rfl ?_
        refine g_callV (M' := m_K_derive) (pc := 83) (q := 0) d_K_rule_83 lm_K_128 (c_K_derive_1 x0 A hA0_ y hI ok okT (of_decide_eq_false h73) ) v_K_derive rfl rfl rfl (by decide) rfl (Nat.le_of_ble_eq_true rfl) ?_
        rintro _ _ ⟨i2, r2, L2, d2, rfl, rfl, hI2⟩
        show pG m_K_rule τ _ 0 0 86 _ (.int _ :: _) _
        refine g_iret (pc := 86) d_K_rule_86 rfl (Nat.le_refl _) (Nat.le_refl _) ?_
        have eZ := eS
        rw [sRb1, if_pos (of_decide_eq_true h47), if_neg (of_decide_eq_false h73)] at eZ
        exact ⟨i2, r2, L2, d2, by rw [eZ], rfl, by rw [eZ]; exact hI2⟩
      · refine g_bipush (pc := 76) (v := -4) d_K_rule_76 (by decide) ?_
        refine g_iret (pc := 78) d_K_rule_78 rfl (Nat.le_refl _) (Nat.le_refl _) ?_
        have eZ : sR1 Ty Tm Th (nI x0) y = (-4, Ty, Tm, Th) := by rw [eS, sRb1, if_pos (of_decide_eq_true h47), if_pos (of_decide_eq_true h73)]
        exact ⟨i, r, L, d, by rw [eZ], rfl, by rw [eZ]; exact hI⟩
    · refine g_bipush (pc := 50) (v := -2) d_K_rule_50 (by decide) ?_
      refine g_iret (pc := 52) d_K_rule_52 rfl (Nat.le_refl _) (Nat.le_refl _) ?_
      have eZ : sR1 Ty Tm Th (nI x0) y = (-2, Ty, Tm, Th) := by rw [eS, sRb1, if_neg (of_decide_eq_false h47)]
      exact ⟨i, r, L, d, by rw [eZ], rfl, by rw [eZ]; exact hI⟩
set_option maxRecDepth 100000 in
set_option maxHeartbeats 4000000 in
theorem c_K_rule_2 {τ : Nat × Nat} {a : Nat → Nat} {i : Nat → Int32} {r : Nat → Nat → Int32} {L : Nat → Int64} {wr : pW} {Ty : List (Nat × Nat)} {Tm : List (List Nat)} {Th : List Thm} {d : List Nat} (x y : Int32) (hI : XI Ty Tm Th d i r L) (ok : TmOk Ty Tm) (okT : ThOk Tm Th) : pC m_K_rule τ [.ref (a 0), .int (nI 2), .int x, .int y] (wX a i r L ++ wr) ((fun rr w2 => ∃ i2 r2 L2 d2, rr = some (.int ((sR2 Ty Tm Th x y).1)) ∧ w2 = wX a i2 r2 L2 ++ wr ∧ XI ((sR2 Ty Tm Th x y).2.1) ((sR2 Ty Tm Th x y).2.2.1) ((sR2 Ty Tm Th x y).2.2.2) d2 i2 r2 L2)) := by
  refine pC.of rfl (Nat.le_of_ble_eq_true rfl) ?_
  show pG m_K_rule τ _ 0 0 0 [(0, _), (1, _), (2, _), (3, _)] [] _
  obtain ⟨b1, b2, b3, b4, b5, b6⟩ := hI.b
  refine g_iload_n (pc := 0) d_K_rule_0 rfl ?_
  refine g_nif_lt (pc := 1) (tgt := 10) d_K_rule_1 (by decide) (by omega) ?_
  refine g_iload_n (pc := 4) d_K_rule_4 rfl ?_
  refine g_bipush (pc := 5) (v := nI 14) d_K_rule_5 (by decide) ?_
  refine g_nicmp_lt (pc := 7) (tgt := 12) d_K_rule_7 (by decide) (by omega) (by omega) (fun h7 => ?_) (fun h => absurd h (by decide))
  refine g_aload_n (pc := 12) d_K_rule_12 rfl ?_
  refine g_getsX (pc := 13) d_K_rule_13 lf_K_107 ?_
  refine g_iload_n (pc := 16) d_K_rule_16 rfl ?_
  refine g_saldX (pc := 17) (v := nI 2) d_K_rule_17 (vp_in_nI (by decide) (by decide)) (by decide) ?_
  refine g_iload_n (pc := 18) d_K_rule_18 rfl ?_
  refine g_callV (M' := m_K_isThere) (pc := 19) (q := 0) d_K_rule_19 lm_K_111 (c_K_isThere_2 Th.length b6 (by omega) x) v_K_isThere rfl rfl rfl (by decide) rfl (Nat.le_of_ble_eq_true rfl) ?_
  rintro _ _ ⟨rfl, rfl⟩
  show pG m_K_rule τ _ 0 0 22 _ (.int _ :: _) _
  refine g_ifb_eq (pc := 22) (tgt := 38) d_K_rule_22 (by decide) (fun h22 => ?_) (fun h22 => ?_)
  · refine g_iconst (pc := 38) (v := -1) d_K_rule_38 (by decide) ?_
    refine g_iret (pc := 39) d_K_rule_39 rfl (Nat.le_refl _) (Nat.le_refl _) ?_
    have eZ : sR2 Ty Tm Th x y = (-1, Ty, Tm, Th) := by
      first | (rw [sR2, h22]; rfl) | (rw [sR2, h35, Bool.and_false]; rfl)
    exact ⟨i, r, L, d, by rw [eZ], rfl, by rw [eZ]; exact hI⟩
  · refine g_aload_n (pc := 25) d_K_rule_25 rfl ?_
    refine g_getsY (pc := 26) d_K_rule_26 lf_K_114 ?_
    refine g_iload_n (pc := 29) d_K_rule_29 rfl ?_
    refine g_saldY (pc := 30) (v := nI 1) d_K_rule_30 (vp_in_nI (by decide) (by decide)) (by decide) ?_
    refine g_iload_n (pc := 31) d_K_rule_31 rfl ?_
    refine g_callV (M' := m_K_isThere) (pc := 32) (q := 0) d_K_rule_32 lm_K_111 (c_K_isThere_1 Tm.length b5 (by omega) y) v_K_isThere rfl rfl rfl (by decide) rfl (Nat.le_of_ble_eq_true rfl) ?_
    rintro _ _ ⟨rfl, rfl⟩
    show pG m_K_rule τ _ 0 0 35 _ (.int _ :: _) _
    refine g_ifb_ne (pc := 35) (tgt := 40) d_K_rule_35 (by decide) (fun h35 => ?_) (fun h35 => ?_)
    · obtain ⟨x0, hx0, rfl⟩ := ixB_of h22 (by omega)
      obtain ⟨⟨ux, vx, zx, hx, cx⟩, tx⟩ := get_of hx0
      obtain ⟨kx1, kx2⟩ := okT _ _ _ _ _ _ tx
      obtain ⟨A, hA0_⟩ := get_of kx1
      have hA := hI.2.1.pa ok hA0_
      obtain ⟨hx4, hxT, hx6, hxh⟩ := hI.th tx
      have exc : (nI x0).toNatClampNeg = x0 := nI_clamp (by omega)
      have ext : thG Th (nI x0) = (ux, vx, zx, hx, cx) := by rw [thG, exc, List.getD_eq_getElem?_getD, tx]; rfl
      have eA : rcT Tm Th (nI x0) = A := by rw [rcT, ext]; exact getD_at hA0_
      obtain ⟨y0, hy0, rfl⟩ := ixB_of h35 (by omega)
      obtain ⟨B, hB0_⟩ := get_of hy0
      have hB := hI.2.1.pa ok hB0_
      have eB := rwT_at hB0_ b2
      have eyc : (nI y0).toNatClampNeg = y0 := nI_clamp (by omega)
      have eS : sR2 Ty Tm Th (nI x0) (nI y0) = sRb2 Ty Tm Th x0 y0 hx 0 A B := by rw [sR2, h22, h35, exc, eyc, ext, eA, eB]; rfl
      refine g_aload_n (pc := 40) d_K_rule_40 rfl ?_
      refine g_iload_n (pc := 41) d_K_rule_41 rfl ?_
      refine g_iload_n (pc := 42) d_K_rule_42 rfl ?_
      refine g_iload_n (pc := 43) d_K_rule_43 rfl ?_
      refine g_callV (M' := m_K_isAsTheRuleSays) (pc := 44) (q := 0) d_K_rule_44 lm_K_117 (c_K_isAs_2 x0 cx hx4 hx6 y0 A hA B hB) v_K_isAsTheRuleSays rfl rfl rfl (by decide) rfl (Nat.le_of_ble_eq_true rfl) ?_
      rintro _ _ ⟨rfl, rfl⟩
      show pG m_K_rule τ _ 0 0 47 _ (.int _ :: _) _
      refine g_ifb_ne (pc := 47) (tgt := 53) d_K_rule_47 (by decide) (fun h47 => ?_) (fun h47 => ?_)
      · refine g_aload_n (pc := 53) d_K_rule_53 rfl ?_
        refine g_iload_n (pc := 54) d_K_rule_54 rfl ?_
        refine g_iload_n (pc := 55) d_K_rule_55 rfl ?_
        refine g_iload_n (pc := 56) d_K_rule_56 rfl ?_
        refine g_callV (M' := m_K_bindsWhatIsAssumed) (pc := 57) (q := 0) d_K_rule_57 lm_K_121 (c_K_binds_2 _ _) v_K_bindsWhatIsAssumed rfl rfl rfl (by decide) rfl (Nat.le_of_ble_eq_true rfl) ?_
        rintro _ _ ⟨rfl, rfl⟩
        show pG m_K_rule τ _ 0 0 60 _ (.int _ :: _) _
        refine g_ifb_eq (pc := 60) (tgt := 66) d_K_rule_60 (by decide) (fun h60 => ?_) (fun h => Bool.noConfusion h)
        refine g_aload_n (pc := 66) d_K_rule_66 rfl ?_
        refine gx_K_book (pc := 67) d_K_rule_67 lf_K_35 ?_
        refine g_callV (M' := m_B_isFull) (pc := 70) (q := 4) d_K_rule_70 lm_K_124 (c_B_isFull Th.length b6 (by omega)) v_B_isFull rfl rfl rfl (by decide) rfl (Nat.le_of_ble_eq_true rfl) ?_
        rintro _ _ ⟨rfl, rfl⟩
        show pG m_K_rule τ _ 0 0 73 _ (.int _ :: _) _
        refine g_ifb_eq (pc := 73) (tgt := 79) d_K_rule_73 (by decide) (fun h73 => ?_) (fun h73 => ?_)
        · refine g_aload_n (pc := 79) d_K_rule_79 rfl ?_
          refine g_iload_n (pc := 80) d_K_rule_80 rfl ?_
          refine g_iload_n (pc := 81) d_K_rule_81 rfl ?_
          refine g_iload_n (pc := 82) d_K_rule_82 rfl ?_
          refine g_callV (M' := m_K_derive) (pc := 83) (q := 0) d_K_rule_83 lm_K_128 (c_K_derive_2 x0 ux vx zx hx cx A tx hA0_ y0 B hB0_ hI ok okT (of_decide_eq_false h73) ) v_K_derive rfl rfl rfl (by decide) rfl (Nat.le_of_ble_eq_true rfl) ?_
          rintro _ _ ⟨i2, r2, L2, d2, rfl, rfl, hI2⟩
          show pG m_K_rule τ _ 0 0 86 _ (.int _ :: _) _
          refine g_iret (pc := 86) d_K_rule_86 rfl (Nat.le_refl _) (Nat.le_refl _) ?_
          have eZ := eS
          rw [sRb2, if_pos (of_decide_eq_true h47), if_neg (of_decide_eq_false h73)] at eZ
          exact ⟨i2, r2, L2, d2, by rw [eZ], rfl, by rw [eZ]; exact hI2⟩
        · refine g_bipush (pc := 76) (v := -4) d_K_rule_76 (by decide) ?_
          refine g_iret (pc := 78) d_K_rule_78 rfl (Nat.le_refl _) (Nat.le_refl _) ?_
          have eZ : sR2 Ty Tm Th (nI x0) (nI y0) = (-4, Ty, Tm, Th) := by rw [eS, sRb2, if_pos (of_decide_eq_true h47), if_pos (of_decide_eq_true h73)]
          exact ⟨i, r, L, d, by rw [eZ], rfl, by rw [eZ]; exact hI⟩
      · refine g_bipush (pc := 50) (v := -2) d_K_rule_50 (by decide) ?_
        refine g_iret (pc := 52) d_K_rule_52 rfl (Nat.le_refl _) (Nat.le_refl _) ?_
        have eZ : sR2 Ty Tm Th (nI x0) (nI y0) = (-2, Ty, Tm, Th) := by rw [eS, sRb2, if_neg (of_decide_eq_false h47)]
        exact ⟨i, r, L, d, by rw [eZ], rfl, by rw [eZ]; exact hI⟩
    · refine g_iconst (pc := 38) (v := -1) d_K_rule_38 (by decide) ?_
      refine g_iret (pc := 39) d_K_rule_39 rfl (Nat.le_refl _) (Nat.le_refl _) ?_
      have eZ : sR2 Ty Tm Th x y = (-1, Ty, Tm, Th) := by
        first | (rw [sR2, h22]; rfl) | (rw [sR2, h35, Bool.and_false]; rfl)
      exact ⟨i, r, L, d, by rw [eZ], rfl, by rw [eZ]; exact hI⟩
set_option maxRecDepth 100000 in
set_option maxHeartbeats 4000000 in
theorem c_K_rule_3 {τ : Nat × Nat} {a : Nat → Nat} {i : Nat → Int32} {r : Nat → Nat → Int32} {L : Nat → Int64} {wr : pW} {Ty : List (Nat × Nat)} {Tm : List (List Nat)} {Th : List Thm} {d : List Nat} (x y : Int32) (hI : XI Ty Tm Th d i r L) (ok : TmOk Ty Tm) (okT : ThOk Tm Th) : pC m_K_rule τ [.ref (a 0), .int (nI 3), .int x, .int y] (wX a i r L ++ wr) ((fun rr w2 => ∃ i2 r2 L2 d2, rr = some (.int ((sR3 Ty Tm Th x y).1)) ∧ w2 = wX a i2 r2 L2 ++ wr ∧ XI ((sR3 Ty Tm Th x y).2.1) ((sR3 Ty Tm Th x y).2.2.1) ((sR3 Ty Tm Th x y).2.2.2) d2 i2 r2 L2)) := by
  refine pC.of rfl (Nat.le_of_ble_eq_true rfl) ?_
  show pG m_K_rule τ _ 0 0 0 [(0, _), (1, _), (2, _), (3, _)] [] _
  obtain ⟨b1, b2, b3, b4, b5, b6⟩ := hI.b
  refine g_iload_n (pc := 0) d_K_rule_0 rfl ?_
  refine g_nif_lt (pc := 1) (tgt := 10) d_K_rule_1 (by decide) (by omega) ?_
  refine g_iload_n (pc := 4) d_K_rule_4 rfl ?_
  refine g_bipush (pc := 5) (v := nI 14) d_K_rule_5 (by decide) ?_
  refine g_nicmp_lt (pc := 7) (tgt := 12) d_K_rule_7 (by decide) (by omega) (by omega) (fun h7 => ?_) (fun h => absurd h (by decide))
  refine g_aload_n (pc := 12) d_K_rule_12 rfl ?_
  refine g_getsX (pc := 13) d_K_rule_13 lf_K_107 ?_
  refine g_iload_n (pc := 16) d_K_rule_16 rfl ?_
  refine g_saldX (pc := 17) (v := nI 2) d_K_rule_17 (vp_in_nI (by decide) (by decide)) (by decide) ?_
  refine g_iload_n (pc := 18) d_K_rule_18 rfl ?_
  refine g_callV (M' := m_K_isThere) (pc := 19) (q := 0) d_K_rule_19 lm_K_111 (c_K_isThere_2 Th.length b6 (by omega) x) v_K_isThere rfl rfl rfl (by decide) rfl (Nat.le_of_ble_eq_true rfl) ?_
  rintro _ _ ⟨rfl, rfl⟩
  show pG m_K_rule τ _ 0 0 22 _ (.int _ :: _) _
  refine g_ifb_eq (pc := 22) (tgt := 38) d_K_rule_22 (by decide) (fun h22 => ?_) (fun h22 => ?_)
  · refine g_iconst (pc := 38) (v := -1) d_K_rule_38 (by decide) ?_
    refine g_iret (pc := 39) d_K_rule_39 rfl (Nat.le_refl _) (Nat.le_refl _) ?_
    have eZ : sR3 Ty Tm Th x y = (-1, Ty, Tm, Th) := by
      first | (rw [sR3, h22]; rfl) | (rw [sR3, h35, Bool.and_false]; rfl)
    exact ⟨i, r, L, d, by rw [eZ], rfl, by rw [eZ]; exact hI⟩
  · refine g_aload_n (pc := 25) d_K_rule_25 rfl ?_
    refine g_getsY (pc := 26) d_K_rule_26 lf_K_114 ?_
    refine g_iload_n (pc := 29) d_K_rule_29 rfl ?_
    refine g_saldY (pc := 30) (v := nI 2) d_K_rule_30 (vp_in_nI (by decide) (by decide)) (by decide) ?_
    refine g_iload_n (pc := 31) d_K_rule_31 rfl ?_
    refine g_callV (M' := m_K_isThere) (pc := 32) (q := 0) d_K_rule_32 lm_K_111 (c_K_isThere_2 Th.length b6 (by omega) y) v_K_isThere rfl rfl rfl (by decide) rfl (Nat.le_of_ble_eq_true rfl) ?_
    rintro _ _ ⟨rfl, rfl⟩
    show pG m_K_rule τ _ 0 0 35 _ (.int _ :: _) _
    refine g_ifb_ne (pc := 35) (tgt := 40) d_K_rule_35 (by decide) (fun h35 => ?_) (fun h35 => ?_)
    · obtain ⟨x0, hx0, rfl⟩ := ixB_of h22 (by omega)
      obtain ⟨⟨ux, vx, zx, hx, cx⟩, tx⟩ := get_of hx0
      obtain ⟨kx1, kx2⟩ := okT _ _ _ _ _ _ tx
      obtain ⟨A, hA0_⟩ := get_of kx1
      have hA := hI.2.1.pa ok hA0_
      obtain ⟨hx4, hxT, hx6, hxh⟩ := hI.th tx
      have exc : (nI x0).toNatClampNeg = x0 := nI_clamp (by omega)
      have ext : thG Th (nI x0) = (ux, vx, zx, hx, cx) := by rw [thG, exc, List.getD_eq_getElem?_getD, tx]; rfl
      have eA : rcT Tm Th (nI x0) = A := by rw [rcT, ext]; exact getD_at hA0_
      obtain ⟨y0, hy0, rfl⟩ := ixB_of h35 (by omega)
      obtain ⟨⟨uy, vy, zy, hy, cy⟩, ty⟩ := get_of hy0
      obtain ⟨ky1, ky2⟩ := okT _ _ _ _ _ _ ty
      obtain ⟨B, hB0_⟩ := get_of ky1
      have hB := hI.2.1.pa ok hB0_
      obtain ⟨hy4, hyT, hy6, hyh⟩ := hI.th ty
      have eyc : (nI y0).toNatClampNeg = y0 := nI_clamp (by omega)
      have eyt : thG Th (nI y0) = (uy, vy, zy, hy, cy) := by rw [thG, eyc, List.getD_eq_getElem?_getD, ty]; rfl
      have eB : rcT Tm Th (nI y0) = B := by rw [rcT, eyt]; exact getD_at hB0_
      have eS : sR3 Ty Tm Th (nI x0) (nI y0) = sRb3 Ty Tm Th x0 y0 hx hy A B := by rw [sR3, h22, h35, exc, eyc, ext, eyt, eA, eB]; rfl
      refine g_aload_n (pc := 40) d_K_rule_40 rfl ?_
      refine g_iload_n (pc := 41) d_K_rule_41 rfl ?_
      refine g_iload_n (pc := 42) d_K_rule_42 rfl ?_
      refine g_iload_n (pc := 43) d_K_rule_43 rfl ?_
      refine g_callV (M' := m_K_isAsTheRuleSays) (pc := 44) (q := 0) d_K_rule_44 lm_K_117 (c_K_isAs_3 x0 cx hx4 hx6 y0 cy hy4 hy6 A hA B hB) v_K_isAsTheRuleSays rfl rfl rfl (by decide) rfl (Nat.le_of_ble_eq_true rfl) ?_
      rintro _ _ ⟨rfl, rfl⟩
      show pG m_K_rule τ _ 0 0 47 _ (.int _ :: _) _
      refine g_ifb_ne (pc := 47) (tgt := 53) d_K_rule_47 (by decide) (fun h47 => ?_) (fun h47 => ?_)
      · refine g_aload_n (pc := 53) d_K_rule_53 rfl ?_
        refine g_iload_n (pc := 54) d_K_rule_54 rfl ?_
        refine g_iload_n (pc := 55) d_K_rule_55 rfl ?_
        refine g_iload_n (pc := 56) d_K_rule_56 rfl ?_
        refine g_callV (M' := m_K_bindsWhatIsAssumed) (pc := 57) (q := 0) d_K_rule_57 lm_K_121 (c_K_binds_3 _ _) v_K_bindsWhatIsAssumed rfl rfl rfl (by decide) rfl (Nat.le_of_ble_eq_true rfl) ?_
        rintro _ _ ⟨rfl, rfl⟩
        show pG m_K_rule τ _ 0 0 60 _ (.int _ :: _) _
        refine g_ifb_eq (pc := 60) (tgt := 66) d_K_rule_60 (by decide) (fun h60 => ?_) (fun h => Bool.noConfusion h)
        refine g_aload_n (pc := 66) d_K_rule_66 rfl ?_
        refine gx_K_book (pc := 67) d_K_rule_67 lf_K_35 ?_
        refine g_callV (M' := m_B_isFull) (pc := 70) (q := 4) d_K_rule_70 lm_K_124 (c_B_isFull Th.length b6 (by omega)) v_B_isFull rfl rfl rfl (by decide) rfl (Nat.le_of_ble_eq_true rfl) ?_
        rintro _ _ ⟨rfl, rfl⟩
        show pG m_K_rule τ _ 0 0 73 _ (.int _ :: _) _
        refine g_ifb_eq (pc := 73) (tgt := 79) d_K_rule_73 (by decide) (fun h73 => ?_) (fun h73 => ?_)
        · refine g_aload_n (pc := 79) d_K_rule_79 rfl ?_
          refine g_iload_n (pc := 80) d_K_rule_80 rfl ?_
          refine g_iload_n (pc := 81) d_K_rule_81 rfl ?_
          refine g_iload_n (pc := 82) d_K_rule_82 rfl ?_
          refine g_callV (M' := m_K_derive) (pc := 83) (q := 0) d_K_rule_83 lm_K_128 (c_K_derive_3 x0 ux vx zx hx cx A tx hA0_ y0 uy vy zy hy cy B ty hB0_ hI ok okT (of_decide_eq_false h73) (of_decide_eq_true h47).1) v_K_derive rfl rfl rfl (by decide) rfl (Nat.le_of_ble_eq_true rfl) ?_
          rintro _ _ ⟨i2, r2, L2, d2, rfl, rfl, hI2⟩
          show pG m_K_rule τ _ 0 0 86 _ (.int _ :: _) _
          refine g_iret (pc := 86) d_K_rule_86 rfl (Nat.le_refl _) (Nat.le_refl _) ?_
          have eZ := eS
          rw [sRb3, if_pos (of_decide_eq_true h47), if_neg (of_decide_eq_false h73)] at eZ
          exact ⟨i2, r2, L2, d2, by rw [eZ], rfl, by rw [eZ]; exact hI2⟩
        · refine g_bipush (pc := 76) (v := -4) d_K_rule_76 (by decide) ?_
          refine g_iret (pc := 78) d_K_rule_78 rfl (Nat.le_refl _) (Nat.le_refl _) ?_
          have eZ : sR3 Ty Tm Th (nI x0) (nI y0) = (-4, Ty, Tm, Th) := by rw [eS, sRb3, if_pos (of_decide_eq_true h47), if_pos (of_decide_eq_true h73)]
          exact ⟨i, r, L, d, by rw [eZ], rfl, by rw [eZ]; exact hI⟩
      · refine g_bipush (pc := 50) (v := -2) d_K_rule_50 (by decide) ?_
        refine g_iret (pc := 52) d_K_rule_52 rfl (Nat.le_refl _) (Nat.le_refl _) ?_
        have eZ : sR3 Ty Tm Th (nI x0) (nI y0) = (-2, Ty, Tm, Th) := by rw [eS, sRb3, if_neg (of_decide_eq_false h47)]
        exact ⟨i, r, L, d, by rw [eZ], rfl, by rw [eZ]; exact hI⟩
    · refine g_iconst (pc := 38) (v := -1) d_K_rule_38 (by decide) ?_
      refine g_iret (pc := 39) d_K_rule_39 rfl (Nat.le_refl _) (Nat.le_refl _) ?_
      have eZ : sR3 Ty Tm Th x y = (-1, Ty, Tm, Th) := by
        first | (rw [sR3, h22]; rfl) | (rw [sR3, h35, Bool.and_false]; rfl)
      exact ⟨i, r, L, d, by rw [eZ], rfl, by rw [eZ]; exact hI⟩
set_option maxRecDepth 100000 in
set_option maxHeartbeats 4000000 in
theorem c_K_rule_4 {τ : Nat × Nat} {a : Nat → Nat} {i : Nat → Int32} {r : Nat → Nat → Int32} {L : Nat → Int64} {wr : pW} {Ty : List (Nat × Nat)} {Tm : List (List Nat)} {Th : List Thm} {d : List Nat} (x y : Int32) (hI : XI Ty Tm Th d i r L) (ok : TmOk Ty Tm) (okT : ThOk Tm Th) : pC m_K_rule τ [.ref (a 0), .int (nI 4), .int x, .int y] (wX a i r L ++ wr) ((fun rr w2 => ∃ i2 r2 L2 d2, rr = some (.int ((sR4 Ty Tm Th x y).1)) ∧ w2 = wX a i2 r2 L2 ++ wr ∧ XI ((sR4 Ty Tm Th x y).2.1) ((sR4 Ty Tm Th x y).2.2.1) ((sR4 Ty Tm Th x y).2.2.2) d2 i2 r2 L2)) := by
  refine pC.of rfl (Nat.le_of_ble_eq_true rfl) ?_
  show pG m_K_rule τ _ 0 0 0 [(0, _), (1, _), (2, _), (3, _)] [] _
  obtain ⟨b1, b2, b3, b4, b5, b6⟩ := hI.b
  refine g_iload_n (pc := 0) d_K_rule_0 rfl ?_
  refine g_nif_lt (pc := 1) (tgt := 10) d_K_rule_1 (by decide) (by omega) ?_
  refine g_iload_n (pc := 4) d_K_rule_4 rfl ?_
  refine g_bipush (pc := 5) (v := nI 14) d_K_rule_5 (by decide) ?_
  refine g_nicmp_lt (pc := 7) (tgt := 12) d_K_rule_7 (by decide) (by omega) (by omega) (fun h7 => ?_) (fun h => absurd h (by decide))
  refine g_aload_n (pc := 12) d_K_rule_12 rfl ?_
  refine g_getsX (pc := 13) d_K_rule_13 lf_K_107 ?_
  refine g_iload_n (pc := 16) d_K_rule_16 rfl ?_
  refine g_saldX (pc := 17) (v := nI 2) d_K_rule_17 (vp_in_nI (by decide) (by decide)) (by decide) ?_
  refine g_iload_n (pc := 18) d_K_rule_18 rfl ?_
  refine g_callV (M' := m_K_isThere) (pc := 19) (q := 0) d_K_rule_19 lm_K_111 (c_K_isThere_2 Th.length b6 (by omega) x) v_K_isThere rfl rfl rfl (by decide) rfl (Nat.le_of_ble_eq_true rfl) ?_
  rintro _ _ ⟨rfl, rfl⟩
  show pG m_K_rule τ _ 0 0 22 _ (.int _ :: _) _
  refine g_ifb_eq (pc := 22) (tgt := 38) d_K_rule_22 (by decide) (fun h22 => ?_) (fun h22 => ?_)
  · refine g_iconst (pc := 38) (v := -1) d_K_rule_38 (by decide) ?_
    refine g_iret (pc := 39) d_K_rule_39 rfl (Nat.le_refl _) (Nat.le_refl _) ?_
    have eZ : sR4 Ty Tm Th x y = (-1, Ty, Tm, Th) := by
      first | (rw [sR4, h22]; rfl) | (rw [sR4, h35, Bool.and_false]; rfl)
    exact ⟨i, r, L, d, by rw [eZ], rfl, by rw [eZ]; exact hI⟩
  · refine g_aload_n (pc := 25) d_K_rule_25 rfl ?_
    refine g_getsY (pc := 26) d_K_rule_26 lf_K_114 ?_
    refine g_iload_n (pc := 29) d_K_rule_29 rfl ?_
    refine g_saldY (pc := 30) (v := nI 1) d_K_rule_30 (vp_in_nI (by decide) (by decide)) (by decide) ?_
    refine g_iload_n (pc := 31) d_K_rule_31 rfl ?_
    refine g_callV (M' := m_K_isThere) (pc := 32) (q := 0) d_K_rule_32 lm_K_111 (c_K_isThere_1 Tm.length b5 (by omega) y) v_K_isThere rfl rfl rfl (by decide) rfl (Nat.le_of_ble_eq_true rfl) ?_
    rintro _ _ ⟨rfl, rfl⟩
    show pG m_K_rule τ _ 0 0 35 _ (.int _ :: _) _
    refine g_ifb_ne (pc := 35) (tgt := 40) d_K_rule_35 (by decide) (fun h35 => ?_) (fun h35 => ?_)
    · obtain ⟨x0, hx0, rfl⟩ := ixB_of h22 (by omega)
      obtain ⟨⟨ux, vx, zx, hx, cx⟩, tx⟩ := get_of hx0
      obtain ⟨kx1, kx2⟩ := okT _ _ _ _ _ _ tx
      obtain ⟨A, hA0_⟩ := get_of kx1
      have hA := hI.2.1.pa ok hA0_
      obtain ⟨hx4, hxT, hx6, hxh⟩ := hI.th tx
      have exc : (nI x0).toNatClampNeg = x0 := nI_clamp (by omega)
      have ext : thG Th (nI x0) = (ux, vx, zx, hx, cx) := by rw [thG, exc, List.getD_eq_getElem?_getD, tx]; rfl
      have eA : rcT Tm Th (nI x0) = A := by rw [rcT, ext]; exact getD_at hA0_
      obtain ⟨y0, hy0, rfl⟩ := ixB_of h35 (by omega)
      obtain ⟨B, hB0_⟩ := get_of hy0
      have hB := hI.2.1.pa ok hB0_
      have eB := rwT_at hB0_ b2
      have eyc : (nI y0).toNatClampNeg = y0 := nI_clamp (by omega)
      have eS : sR4 Ty Tm Th (nI x0) (nI y0) = sRb4 Ty Tm Th x0 y0 hx 0 A B := by rw [sR4, h22, h35, exc, eyc, ext, eA, eB]; rfl
      refine g_aload_n (pc := 40) d_K_rule_40 rfl ?_
      refine g_iload_n (pc := 41) d_K_rule_41 rfl ?_
      refine g_iload_n (pc := 42) d_K_rule_42 rfl ?_
      refine g_iload_n (pc := 43) d_K_rule_43 rfl ?_
      refine g_callV (M' := m_K_isAsTheRuleSays) (pc := 44) (q := 0) d_K_rule_44 lm_K_117 (c_K_isAs_4 x0 cx hx4 hx6 y0 A hA B hB) v_K_isAsTheRuleSays rfl rfl rfl (by decide) rfl (Nat.le_of_ble_eq_true rfl) ?_
      rintro _ _ ⟨rfl, rfl⟩
      show pG m_K_rule τ _ 0 0 47 _ (.int _ :: _) _
      refine g_ifb_ne (pc := 47) (tgt := 53) d_K_rule_47 (by decide) (fun h47 => ?_) (fun h47 => ?_)
      · refine g_aload_n (pc := 53) d_K_rule_53 rfl ?_
        refine g_iload_n (pc := 54) d_K_rule_54 rfl ?_
        refine g_iload_n (pc := 55) d_K_rule_55 rfl ?_
        refine g_iload_n (pc := 56) d_K_rule_56 rfl ?_
        refine g_callV (M' := m_K_bindsWhatIsAssumed) (pc := 57) (q := 0) d_K_rule_57 lm_K_121 (c_K_binds_4 Ty Tm x0 y0 hx B hI.2.1 ok hB hx4 hxh (okT.b b2 tx).2) v_K_bindsWhatIsAssumed rfl rfl rfl (by decide) rfl (Nat.le_of_ble_eq_true rfl) ?_
        rintro _ _ ⟨rfl, rfl⟩
        show pG m_K_rule τ _ 0 0 60 _ (.int _ :: _) _
        refine g_ifb_eq (pc := 60) (tgt := 66) d_K_rule_60 (by decide) (fun h60 => ?_) (fun h60 => ?_)
        · refine g_aload_n (pc := 66) d_K_rule_66 rfl ?_
          refine gx_K_book (pc := 67) d_K_rule_67 lf_K_35 ?_
          refine g_callV (M' := m_B_isFull) (pc := 70) (q := 4) d_K_rule_70 lm_K_124 (c_B_isFull Th.length b6 (by omega)) v_B_isFull rfl rfl rfl (by decide) rfl (Nat.le_of_ble_eq_true rfl) ?_
          rintro _ _ ⟨rfl, rfl⟩
          show pG m_K_rule τ _ 0 0 73 _ (.int _ :: _) _
          refine g_ifb_eq (pc := 73) (tgt := 79) d_K_rule_73 (by decide) (fun h73 => ?_) (fun h73 => ?_)
          · refine g_aload_n (pc := 79) d_K_rule_79 rfl ?_
            refine g_iload_n (pc := 80) d_K_rule_80 rfl ?_
            refine g_iload_n (pc := 81) d_K_rule_81 rfl ?_
            refine g_iload_n (pc := 82) d_K_rule_82 rfl ?_
            refine g_callV (M' := m_K_derive) (pc := 83) (q := 0) d_K_rule_83 lm_K_128 (c_K_derive_4 x0 ux vx zx hx cx A tx hA0_ y0 B hB0_ hI ok okT (of_decide_eq_false h73) ) v_K_derive rfl rfl rfl (by decide) rfl (Nat.le_of_ble_eq_true rfl) ?_
            rintro _ _ ⟨i2, r2, L2, d2, rfl, rfl, hI2⟩
            show pG m_K_rule τ _ 0 0 86 _ (.int _ :: _) _
            refine g_iret (pc := 86) d_K_rule_86 rfl (Nat.le_refl _) (Nat.le_refl _) ?_
            have eZ := eS
            rw [sRb4, if_pos (of_decide_eq_true h47), if_neg (by rw [h60]; decide), if_neg (of_decide_eq_false h73)] at eZ
            exact ⟨i2, r2, L2, d2, by rw [eZ], rfl, by rw [eZ]; exact hI2⟩
          · refine g_bipush (pc := 76) (v := -4) d_K_rule_76 (by decide) ?_
            refine g_iret (pc := 78) d_K_rule_78 rfl (Nat.le_refl _) (Nat.le_refl _) ?_
            have eZ : sR4 Ty Tm Th (nI x0) (nI y0) = (-4, Ty, Tm, Th) := by rw [eS, sRb4, if_pos (of_decide_eq_true h47), if_neg (by rw [h60]; decide), if_pos (of_decide_eq_true h73)]
            exact ⟨i, r, L, d, by rw [eZ], rfl, by rw [eZ]; exact hI⟩
        · refine g_bipush (pc := 63) (v := -3) d_K_rule_63 (by decide) ?_
          refine g_iret (pc := 65) d_K_rule_65 rfl (Nat.le_refl _) (Nat.le_refl _) ?_
          have eZ : sR4 Ty Tm Th (nI x0) (nI y0) = (-3, Ty, Tm, Th) := by rw [eS, sRb4, if_pos (of_decide_eq_true h47), if_pos h60]
          exact ⟨i, r, L, d, by rw [eZ], rfl, by rw [eZ]; exact hI⟩
      · refine g_bipush (pc := 50) (v := -2) d_K_rule_50 (by decide) ?_
        refine g_iret (pc := 52) d_K_rule_52 rfl (Nat.le_refl _) (Nat.le_refl _) ?_
        have eZ : sR4 Ty Tm Th (nI x0) (nI y0) = (-2, Ty, Tm, Th) := by rw [eS, sRb4, if_neg (of_decide_eq_false h47)]
        exact ⟨i, r, L, d, by rw [eZ], rfl, by rw [eZ]; exact hI⟩
    · refine g_iconst (pc := 38) (v := -1) d_K_rule_38 (by decide) ?_
      refine g_iret (pc := 39) d_K_rule_39 rfl (Nat.le_refl _) (Nat.le_refl _) ?_
      have eZ : sR4 Ty Tm Th x y = (-1, Ty, Tm, Th) := by
        first | (rw [sR4, h22]; rfl) | (rw [sR4, h35, Bool.and_false]; rfl)
      exact ⟨i, r, L, d, by rw [eZ], rfl, by rw [eZ]; exact hI⟩
set_option maxRecDepth 100000 in
set_option maxHeartbeats 4000000 in
theorem c_K_rule_5 {τ : Nat × Nat} {a : Nat → Nat} {i : Nat → Int32} {r : Nat → Nat → Int32} {L : Nat → Int64} {wr : pW} {Ty : List (Nat × Nat)} {Tm : List (List Nat)} {Th : List Thm} {d : List Nat} (x y : Int32) (hI : XI Ty Tm Th d i r L) (ok : TmOk Ty Tm) (okT : ThOk Tm Th) : pC m_K_rule τ [.ref (a 0), .int (nI 5), .int x, .int y] (wX a i r L ++ wr) ((fun rr w2 => ∃ i2 r2 L2 d2, rr = some (.int ((sR5 Ty Tm Th x y).1)) ∧ w2 = wX a i2 r2 L2 ++ wr ∧ XI ((sR5 Ty Tm Th x y).2.1) ((sR5 Ty Tm Th x y).2.2.1) ((sR5 Ty Tm Th x y).2.2.2) d2 i2 r2 L2)) := by
  refine pC.of rfl (Nat.le_of_ble_eq_true rfl) ?_
  show pG m_K_rule τ _ 0 0 0 [(0, _), (1, _), (2, _), (3, _)] [] _
  obtain ⟨b1, b2, b3, b4, b5, b6⟩ := hI.b
  refine g_iload_n (pc := 0) d_K_rule_0 rfl ?_
  refine g_nif_lt (pc := 1) (tgt := 10) d_K_rule_1 (by decide) (by omega) ?_
  refine g_iload_n (pc := 4) d_K_rule_4 rfl ?_
  refine g_bipush (pc := 5) (v := nI 14) d_K_rule_5 (by decide) ?_
  refine g_nicmp_lt (pc := 7) (tgt := 12) d_K_rule_7 (by decide) (by omega) (by omega) (fun h7 => ?_) (fun h => absurd h (by decide))
  refine g_aload_n (pc := 12) d_K_rule_12 rfl ?_
  refine g_getsX (pc := 13) d_K_rule_13 lf_K_107 ?_
  refine g_iload_n (pc := 16) d_K_rule_16 rfl ?_
  refine g_saldX (pc := 17) (v := nI 2) d_K_rule_17 (vp_in_nI (by decide) (by decide)) (by decide) ?_
  refine g_iload_n (pc := 18) d_K_rule_18 rfl ?_
  refine g_callV (M' := m_K_isThere) (pc := 19) (q := 0) d_K_rule_19 lm_K_111 (c_K_isThere_2 Th.length b6 (by omega) x) v_K_isThere rfl rfl rfl (by decide) rfl (Nat.le_of_ble_eq_true rfl) ?_
  rintro _ _ ⟨rfl, rfl⟩
  show pG m_K_rule τ _ 0 0 22 _ (.int _ :: _) _
  refine g_ifb_eq (pc := 22) (tgt := 38) d_K_rule_22 (by decide) (fun h22 => ?_) (fun h22 => ?_)
  · refine g_iconst (pc := 38) (v := -1) d_K_rule_38 (by decide) ?_
    refine g_iret (pc := 39) d_K_rule_39 rfl (Nat.le_refl _) (Nat.le_refl _) ?_
    have eZ : sR5 Ty Tm Th x y = (-1, Ty, Tm, Th) := by
      first | (rw [sR5, h22]; rfl) | (rw [sR5, h35, Bool.and_false]; rfl)
    exact ⟨i, r, L, d, by rw [eZ], rfl, by rw [eZ]; exact hI⟩
  · refine g_aload_n (pc := 25) d_K_rule_25 rfl ?_
    refine g_getsY (pc := 26) d_K_rule_26 lf_K_114 ?_
    refine g_iload_n (pc := 29) d_K_rule_29 rfl ?_
    refine g_saldY (pc := 30) (v := nI 1) d_K_rule_30 (vp_in_nI (by decide) (by decide)) (by decide) ?_
    refine g_iload_n (pc := 31) d_K_rule_31 rfl ?_
    refine g_callV (M' := m_K_isThere) (pc := 32) (q := 0) d_K_rule_32 lm_K_111 (c_K_isThere_1 Tm.length b5 (by omega) y) v_K_isThere rfl rfl rfl (by decide) rfl (Nat.le_of_ble_eq_true rfl) ?_
    rintro _ _ ⟨rfl, rfl⟩
    show pG m_K_rule τ _ 0 0 35 _ (.int _ :: _) _
    refine g_ifb_ne (pc := 35) (tgt := 40) d_K_rule_35 (by decide) (fun h35 => ?_) (fun h35 => ?_)
    · obtain ⟨x0, hx0, rfl⟩ := ixB_of h22 (by omega)
      obtain ⟨⟨ux, vx, zx, hx, cx⟩, tx⟩ := get_of hx0
      obtain ⟨kx1, kx2⟩ := okT _ _ _ _ _ _ tx
      obtain ⟨A, hA0_⟩ := get_of kx1
      have hA := hI.2.1.pa ok hA0_
      obtain ⟨hx4, hxT, hx6, hxh⟩ := hI.th tx
      have exc : (nI x0).toNatClampNeg = x0 := nI_clamp (by omega)
      have ext : thG Th (nI x0) = (ux, vx, zx, hx, cx) := by rw [thG, exc, List.getD_eq_getElem?_getD, tx]; rfl
      have eA : rcT Tm Th (nI x0) = A := by rw [rcT, ext]; exact getD_at hA0_
      obtain ⟨y0, hy0, rfl⟩ := ixB_of h35 (by omega)
      obtain ⟨B, hB0_⟩ := get_of hy0
      have hB := hI.2.1.pa ok hB0_
      have eB := rwT_at hB0_ b2
      have eyc : (nI y0).toNatClampNeg = y0 := nI_clamp (by omega)
      have eS : sR5 Ty Tm Th (nI x0) (nI y0) = sRb5 Ty Tm Th x0 y0 hx 0 A B := by rw [sR5, h22, h35, exc, eyc, ext, eA, eB]; rfl
      refine g_aload_n (pc := 40) d_K_rule_40 rfl ?_
      refine g_iload_n (pc := 41) d_K_rule_41 rfl ?_
      refine g_iload_n (pc := 42) d_K_rule_42 rfl ?_
      refine g_iload_n (pc := 43) d_K_rule_43 rfl ?_
      refine g_callV (M' := m_K_isAsTheRuleSays) (pc := 44) (q := 0) d_K_rule_44 lm_K_117 (c_K_isAs_5 x0 cx hx4 hx6 y0 A hA B hB) v_K_isAsTheRuleSays rfl rfl rfl (by decide) rfl (Nat.le_of_ble_eq_true rfl) ?_
      rintro _ _ ⟨rfl, rfl⟩
      show pG m_K_rule τ _ 0 0 47 _ (.int _ :: _) _
      refine g_ifb_ne (pc := 47) (tgt := 53) d_K_rule_47 (by decide) (fun h47 => ?_) (fun h47 => ?_)
      · refine g_aload_n (pc := 53) d_K_rule_53 rfl ?_
        refine g_iload_n (pc := 54) d_K_rule_54 rfl ?_
        refine g_iload_n (pc := 55) d_K_rule_55 rfl ?_
        refine g_iload_n (pc := 56) d_K_rule_56 rfl ?_
        refine g_callV (M' := m_K_bindsWhatIsAssumed) (pc := 57) (q := 0) d_K_rule_57 lm_K_121 (c_K_binds_5 _ _) v_K_bindsWhatIsAssumed rfl rfl rfl (by decide) rfl (Nat.le_of_ble_eq_true rfl) ?_
        rintro _ _ ⟨rfl, rfl⟩
        show pG m_K_rule τ _ 0 0 60 _ (.int _ :: _) _
        refine g_ifb_eq (pc := 60) (tgt := 66) d_K_rule_60 (by decide) (fun h60 => ?_) (fun h => Bool.noConfusion h)
        refine g_aload_n (pc := 66) d_K_rule_66 rfl ?_
        refine gx_K_book (pc := 67) d_K_rule_67 lf_K_35 ?_
        refine g_callV (M' := m_B_isFull) (pc := 70) (q := 4) d_K_rule_70 lm_K_124 (c_B_isFull Th.length b6 (by omega)) v_B_isFull rfl rfl rfl (by decide) rfl (Nat.le_of_ble_eq_true rfl) ?_
        rintro _ _ ⟨rfl, rfl⟩
        show pG m_K_rule τ _ 0 0 73 _ (.int _ :: _) _
        refine g_ifb_eq (pc := 73) (tgt := 79) d_K_rule_73 (by decide) (fun h73 => ?_) (fun h73 => ?_)
        · refine g_aload_n (pc := 79) d_K_rule_79 rfl ?_
          refine g_iload_n (pc := 80) d_K_rule_80 rfl ?_
          refine g_iload_n (pc := 81) d_K_rule_81 rfl ?_
          refine g_iload_n (pc := 82) d_K_rule_82 rfl ?_
          refine g_callV (M' := m_K_derive) (pc := 83) (q := 0) d_K_rule_83 lm_K_128 (c_K_derive_5 x0 ux vx zx hx cx A tx hA0_ y0 B hB0_ hI ok okT (of_decide_eq_false h73) (of_decide_eq_true h47).1) v_K_derive rfl rfl rfl (by decide) rfl (Nat.le_of_ble_eq_true rfl) ?_
          rintro _ _ ⟨i2, r2, L2, d2, rfl, rfl, hI2⟩
          show pG m_K_rule τ _ 0 0 86 _ (.int _ :: _) _
          refine g_iret (pc := 86) d_K_rule_86 rfl (Nat.le_refl _) (Nat.le_refl _) ?_
          have eZ := eS
          rw [sRb5, if_pos (of_decide_eq_true h47), if_neg (of_decide_eq_false h73)] at eZ
          exact ⟨i2, r2, L2, d2, by rw [eZ], rfl, by rw [eZ]; exact hI2⟩
        · refine g_bipush (pc := 76) (v := -4) d_K_rule_76 (by decide) ?_
          refine g_iret (pc := 78) d_K_rule_78 rfl (Nat.le_refl _) (Nat.le_refl _) ?_
          have eZ : sR5 Ty Tm Th (nI x0) (nI y0) = (-4, Ty, Tm, Th) := by rw [eS, sRb5, if_pos (of_decide_eq_true h47), if_pos (of_decide_eq_true h73)]
          exact ⟨i, r, L, d, by rw [eZ], rfl, by rw [eZ]; exact hI⟩
      · refine g_bipush (pc := 50) (v := -2) d_K_rule_50 (by decide) ?_
        refine g_iret (pc := 52) d_K_rule_52 rfl (Nat.le_refl _) (Nat.le_refl _) ?_
        have eZ : sR5 Ty Tm Th (nI x0) (nI y0) = (-2, Ty, Tm, Th) := by rw [eS, sRb5, if_neg (of_decide_eq_false h47)]
        exact ⟨i, r, L, d, by rw [eZ], rfl, by rw [eZ]; exact hI⟩
    · refine g_iconst (pc := 38) (v := -1) d_K_rule_38 (by decide) ?_
      refine g_iret (pc := 39) d_K_rule_39 rfl (Nat.le_refl _) (Nat.le_refl _) ?_
      have eZ : sR5 Ty Tm Th x y = (-1, Ty, Tm, Th) := by
        first | (rw [sR5, h22]; rfl) | (rw [sR5, h35, Bool.and_false]; rfl)
      exact ⟨i, r, L, d, by rw [eZ], rfl, by rw [eZ]; exact hI⟩
set_option maxRecDepth 100000 in
set_option maxHeartbeats 4000000 in
theorem c_K_rule_6 {τ : Nat × Nat} {a : Nat → Nat} {i : Nat → Int32} {r : Nat → Nat → Int32} {L : Nat → Int64} {wr : pW} {Ty : List (Nat × Nat)} {Tm : List (List Nat)} {Th : List Thm} {d : List Nat} (x y : Int32) (hI : XI Ty Tm Th d i r L) (ok : TmOk Ty Tm) (okT : ThOk Tm Th) : pC m_K_rule τ [.ref (a 0), .int (nI 6), .int x, .int y] (wX a i r L ++ wr) ((fun rr w2 => ∃ i2 r2 L2 d2, rr = some (.int ((sR6 Ty Tm Th x y).1)) ∧ w2 = wX a i2 r2 L2 ++ wr ∧ XI ((sR6 Ty Tm Th x y).2.1) ((sR6 Ty Tm Th x y).2.2.1) ((sR6 Ty Tm Th x y).2.2.2) d2 i2 r2 L2)) := by
  refine pC.of rfl (Nat.le_of_ble_eq_true rfl) ?_
  show pG m_K_rule τ _ 0 0 0 [(0, _), (1, _), (2, _), (3, _)] [] _
  obtain ⟨b1, b2, b3, b4, b5, b6⟩ := hI.b
  refine g_iload_n (pc := 0) d_K_rule_0 rfl ?_
  refine g_nif_lt (pc := 1) (tgt := 10) d_K_rule_1 (by decide) (by omega) ?_
  refine g_iload_n (pc := 4) d_K_rule_4 rfl ?_
  refine g_bipush (pc := 5) (v := nI 14) d_K_rule_5 (by decide) ?_
  refine g_nicmp_lt (pc := 7) (tgt := 12) d_K_rule_7 (by decide) (by omega) (by omega) (fun h7 => ?_) (fun h => absurd h (by decide))
  refine g_aload_n (pc := 12) d_K_rule_12 rfl ?_
  refine g_getsX (pc := 13) d_K_rule_13 lf_K_107 ?_
  refine g_iload_n (pc := 16) d_K_rule_16 rfl ?_
  refine g_saldX (pc := 17) (v := nI 1) d_K_rule_17 (vp_in_nI (by decide) (by decide)) (by decide) ?_
  refine g_iload_n (pc := 18) d_K_rule_18 rfl ?_
  refine g_callV (M' := m_K_isThere) (pc := 19) (q := 0) d_K_rule_19 lm_K_111 (c_K_isThere_1 Tm.length b5 (by omega) x) v_K_isThere rfl rfl rfl (by decide) rfl (Nat.le_of_ble_eq_true rfl) ?_
  rintro _ _ ⟨rfl, rfl⟩
  show pG m_K_rule τ _ 0 0 22 _ (.int _ :: _) _
  refine g_ifb_eq (pc := 22) (tgt := 38) d_K_rule_22 (by decide) (fun h22 => ?_) (fun h22 => ?_)
  · refine g_iconst (pc := 38) (v := -1) d_K_rule_38 (by decide) ?_
    refine g_iret (pc := 39) d_K_rule_39 rfl (Nat.le_refl _) (Nat.le_refl _) ?_
    have eZ : sR6 Ty Tm Th x y = (-1, Ty, Tm, Th) := by
      first | (rw [sR6, h22]; rfl)
    exact ⟨i, r, L, d, by rw [eZ], rfl, by rw [eZ]; exact hI⟩
  · refine g_aload_n (pc := 25) d_K_rule_25 rfl ?_
    refine g_getsY (pc := 26) d_K_rule_26 lf_K_114 ?_
    refine g_iload_n (pc := 29) d_K_rule_29 rfl ?_
    refine g_saldY (pc := 30) (v := nI 0) d_K_rule_30 (vp_in_nI (by decide) (by decide)) (by decide) ?_
    refine g_iload_n (pc := 31) d_K_rule_31 rfl ?_
    refine g_callV (M' := m_K_isThere) (pc := 32) (q := 0) d_K_rule_32 lm_K_111 (c_K_isThere_0 y) v_K_isThere rfl rfl rfl (by decide) rfl (Nat.le_of_ble_eq_true rfl) ?_
    rintro _ _ ⟨rfl, rfl⟩
    show pG m_K_rule τ _ 0 0 35 _ (.int _ :: _) _
    refine g_ifb_ne (pc := 35) (tgt := 40) d_K_rule_35 (by decide) (fun h35 => ?_) (fun h => Bool.noConfusion h)
    obtain ⟨x0, hx0, rfl⟩ := ixB_of h22 (by omega)
    obtain ⟨A, hA0_⟩ := get_of hx0
    have hA := hI.2.1.pa ok hA0_
    have eA := rwT_at hA0_ b2
    have exc : (nI x0).toNatClampNeg = x0 := nI_clamp (by omega)
    have eS : sR6 Ty Tm Th (nI x0) y = sRb6 Ty Tm Th x0 y.toNatClampNeg 0 0 A [] := by rw [sR6, h22, exc, eA]; rfl
    refine g_aload_n (pc := 40) d_K_rule_40 rfl ?_
    refine g_iload_n (pc := 41) d_K_rule_41 rfl ?_
    refine g_iload_n (pc := 42) d_K_rule_42 rfl ?_
    refine g_iload_n (pc := 43) d_K_rule_43 rfl ?_
    refine g_callV (M' := m_K_isAsTheRuleSays) (pc := 44) (q := 0) d_K_rule_44 lm_K_117 (c_K_isAs_6 x0 y A hA) v_K_isAsTheRuleSays rfl rfl rfl (by decide) rfl (Nat.le_of_ble_eq_true rfl) ?_
    rintro _ _ ⟨rfl, rfl⟩
    show pG m_K_rule τ _ 0 0 47 _ (.int _ :: _) _
    refine g_ifb_ne (pc := 47) (tgt := 53) d_K_rule_47 (by decide) (fun h47 => ?_) (fun h => absurd h (by decide))
    refine g_aload_n (pc := 53) d_K_rule_53 rfl ?_
    refine g_iload_n (pc := 54) d_K_rule_54 rfl ?_
    refine g_iload_n (pc := 55) d_K_rule_55 rfl ?_
    refine g_iload_n (pc := 56) d_K_rule_56 rfl ?_
    refine g_callV (M' := m_K_bindsWhatIsAssumed) (pc := 57) (q := 0) d_K_rule_57 lm_K_121 (c_K_binds_6 _ _) v_K_bindsWhatIsAssumed rfl rfl rfl (by decide) rfl (Nat.le_of_ble_eq_true rfl) ?_
    rintro _ _ ⟨rfl, rfl⟩
    show pG m_K_rule τ _ 0 0 60 _ (.int _ :: _) _
    refine g_ifb_eq (pc := 60) (tgt := 66) d_K_rule_60 (by decide) (fun h60 => ?_) (fun h => Bool.noConfusion h)
    refine g_aload_n (pc := 66) d_K_rule_66 rfl ?_
    refine gx_K_book (pc := 67) d_K_rule_67 lf_K_35 ?_
    refine g_callV (M' := m_B_isFull) (pc := 70) (q := 4) d_K_rule_70 lm_K_124 (c_B_isFull Th.length b6 (by omega)) v_B_isFull rfl rfl rfl (by decide) rfl (Nat.le_of_ble_eq_true rfl) ?_
    rintro _ _ ⟨rfl, rfl⟩
    show pG m_K_rule τ _ 0 0 73 _ (.int _ :: _) _
    refine g_ifb_eq (pc := 73) (tgt := 79) d_K_rule_73 (by decide) (fun h73 => ?_) (fun h73 => ?_)
    · refine g_aload_n (pc := 79) d_K_rule_79 rfl ?_
      refine g_iload_n (pc := 80) d_K_rule_80 rfl ?_
      refine g_iload_n (pc := 81) d_K_rule_81 rfl ?_
      refine g_iload_n (pc := 82) d_K_rule_82 rfl ?_
      refine g_callV (M' := m_K_derive) (pc := 83) (q := 0) d_K_rule_83 lm_K_128 (c_K_derive_6 x0 A hA0_ y hI ok okT (of_decide_eq_false h73) ) v_K_derive rfl rfl rfl (by decide) rfl (Nat.le_of_ble_eq_true rfl) ?_
      rintro _ _ ⟨i2, r2, L2, d2, rfl, rfl, hI2⟩
      show pG m_K_rule τ _ 0 0 86 _ (.int _ :: _) _
      refine g_iret (pc := 86) d_K_rule_86 rfl (Nat.le_refl _) (Nat.le_refl _) ?_
      have eZ := eS
      rw [sRb6, if_pos trivial, if_neg (of_decide_eq_false h73)] at eZ
      exact ⟨i2, r2, L2, d2, by rw [eZ], rfl, by rw [eZ]; exact hI2⟩
    · refine g_bipush (pc := 76) (v := -4) d_K_rule_76 (by decide) ?_
      refine g_iret (pc := 78) d_K_rule_78 rfl (Nat.le_refl _) (Nat.le_refl _) ?_
      have eZ : sR6 Ty Tm Th (nI x0) y = (-4, Ty, Tm, Th) := by rw [eS, sRb6, if_pos trivial, if_pos (of_decide_eq_true h73)]
      exact ⟨i, r, L, d, by rw [eZ], rfl, by rw [eZ]; exact hI⟩
set_option maxRecDepth 100000 in
set_option maxHeartbeats 4000000 in
theorem c_K_rule_7 {τ : Nat × Nat} {a : Nat → Nat} {i : Nat → Int32} {r : Nat → Nat → Int32} {L : Nat → Int64} {wr : pW} {Ty : List (Nat × Nat)} {Tm : List (List Nat)} {Th : List Thm} {d : List Nat} (x y : Int32) (hI : XI Ty Tm Th d i r L) (ok : TmOk Ty Tm) (okT : ThOk Tm Th) : pC m_K_rule τ [.ref (a 0), .int (nI 7), .int x, .int y] (wX a i r L ++ wr) ((fun rr w2 => ∃ i2 r2 L2 d2, rr = some (.int ((sR7 Ty Tm Th x y).1)) ∧ w2 = wX a i2 r2 L2 ++ wr ∧ XI ((sR7 Ty Tm Th x y).2.1) ((sR7 Ty Tm Th x y).2.2.1) ((sR7 Ty Tm Th x y).2.2.2) d2 i2 r2 L2)) := by
  refine pC.of rfl (Nat.le_of_ble_eq_true rfl) ?_
  show pG m_K_rule τ _ 0 0 0 [(0, _), (1, _), (2, _), (3, _)] [] _
  obtain ⟨b1, b2, b3, b4, b5, b6⟩ := hI.b
  refine g_iload_n (pc := 0) d_K_rule_0 rfl ?_
  refine g_nif_lt (pc := 1) (tgt := 10) d_K_rule_1 (by decide) (by omega) ?_
  refine g_iload_n (pc := 4) d_K_rule_4 rfl ?_
  refine g_bipush (pc := 5) (v := nI 14) d_K_rule_5 (by decide) ?_
  refine g_nicmp_lt (pc := 7) (tgt := 12) d_K_rule_7 (by decide) (by omega) (by omega) (fun h7 => ?_) (fun h => absurd h (by decide))
  refine g_aload_n (pc := 12) d_K_rule_12 rfl ?_
  refine g_getsX (pc := 13) d_K_rule_13 lf_K_107 ?_
  refine g_iload_n (pc := 16) d_K_rule_16 rfl ?_
  refine g_saldX (pc := 17) (v := nI 2) d_K_rule_17 (vp_in_nI (by decide) (by decide)) (by decide) ?_
  refine g_iload_n (pc := 18) d_K_rule_18 rfl ?_
  refine g_callV (M' := m_K_isThere) (pc := 19) (q := 0) d_K_rule_19 lm_K_111 (c_K_isThere_2 Th.length b6 (by omega) x) v_K_isThere rfl rfl rfl (by decide) rfl (Nat.le_of_ble_eq_true rfl) ?_
  rintro _ _ ⟨rfl, rfl⟩
  show pG m_K_rule τ _ 0 0 22 _ (.int _ :: _) _
  refine g_ifb_eq (pc := 22) (tgt := 38) d_K_rule_22 (by decide) (fun h22 => ?_) (fun h22 => ?_)
  · refine g_iconst (pc := 38) (v := -1) d_K_rule_38 (by decide) ?_
    refine g_iret (pc := 39) d_K_rule_39 rfl (Nat.le_refl _) (Nat.le_refl _) ?_
    have eZ : sR7 Ty Tm Th x y = (-1, Ty, Tm, Th) := by
      first | (rw [sR7, h22]; rfl)
    exact ⟨i, r, L, d, by rw [eZ], rfl, by rw [eZ]; exact hI⟩
  · refine g_aload_n (pc := 25) d_K_rule_25 rfl ?_
    refine g_getsY (pc := 26) d_K_rule_26 lf_K_114 ?_
    refine g_iload_n (pc := 29) d_K_rule_29 rfl ?_
    refine g_saldY (pc := 30) (v := nI 0) d_K_rule_30 (vp_in_nI (by decide) (by decide)) (by decide) ?_
    refine g_iload_n (pc := 31) d_K_rule_31 rfl ?_
    refine g_callV (M' := m_K_isThere) (pc := 32) (q := 0) d_K_rule_32 lm_K_111 (c_K_isThere_0 y) v_K_isThere rfl rfl rfl (by decide) rfl (Nat.le_of_ble_eq_true rfl) ?_
    rintro _ _ ⟨rfl, rfl⟩
    show pG m_K_rule τ _ 0 0 35 _ (.int _ :: _) _
    refine g_ifb_ne (pc := 35) (tgt := 40) d_K_rule_35 (by decide) (fun h35 => ?_) (fun h => Bool.noConfusion h)
    obtain ⟨x0, hx0, rfl⟩ := ixB_of h22 (by omega)
    obtain ⟨⟨ux, vx, zx, hx, cx⟩, tx⟩ := get_of hx0
    obtain ⟨kx1, kx2⟩ := okT _ _ _ _ _ _ tx
    obtain ⟨A, hA0_⟩ := get_of kx1
    have hA := hI.2.1.pa ok hA0_
    obtain ⟨hx4, hxT, hx6, hxh⟩ := hI.th tx
    have exc : (nI x0).toNatClampNeg = x0 := nI_clamp (by omega)
    have ext : thG Th (nI x0) = (ux, vx, zx, hx, cx) := by rw [thG, exc, List.getD_eq_getElem?_getD, tx]; rfl
    have eA : rcT Tm Th (nI x0) = A := by rw [rcT, ext]; exact getD_at hA0_
    have eS : sR7 Ty Tm Th (nI x0) y = sRb7 Ty Tm Th x0 y.toNatClampNeg hx 0 A [] := by rw [sR7, h22, exc, ext, eA]; rfl
    refine g_aload_n (pc := 40) d_K_rule_40 rfl ?_
    refine g_iload_n (pc := 41) d_K_rule_41 rfl ?_
    refine g_iload_n (pc := 42) d_K_rule_42 rfl ?_
    refine g_iload_n (pc := 43) d_K_rule_43 rfl ?_
    refine g_callV (M' := m_K_isAsTheRuleSays) (pc := 44) (q := 0) d_K_rule_44 lm_K_117 (c_K_isAs_7 x0 cx hx4 hx6 y A hA) v_K_isAsTheRuleSays rfl rfl rfl (by decide) rfl (Nat.le_of_ble_eq_true rfl) ?_
    rintro _ _ ⟨rfl, rfl⟩
    show pG m_K_rule τ _ 0 0 47 _ (.int _ :: _) _
    refine g_ifb_ne (pc := 47) (tgt := 53) d_K_rule_47 (by decide) (fun h47 => ?_) (fun h47 => ?_)
    · refine g_aload_n (pc := 53) d_K_rule_53 rfl ?_
      refine g_iload_n (pc := 54) d_K_rule_54 rfl ?_
      refine g_iload_n (pc := 55) d_K_rule_55 rfl ?_
      refine g_iload_n (pc := 56) d_K_rule_56 rfl ?_
      refine g_callV (M' := m_K_bindsWhatIsAssumed) (pc := 57) (q := 0) d_K_rule_57 lm_K_121 (c_K_binds_7 _ _) v_K_bindsWhatIsAssumed rfl rfl rfl (by decide) rfl (Nat.le_of_ble_eq_true rfl) ?_
      rintro _ _ ⟨rfl, rfl⟩
      show pG m_K_rule τ _ 0 0 60 _ (.int _ :: _) _
      refine g_ifb_eq (pc := 60) (tgt := 66) d_K_rule_60 (by decide) (fun h60 => ?_) (fun h => Bool.noConfusion h)
      refine g_aload_n (pc := 66) d_K_rule_66 rfl ?_
      refine gx_K_book (pc := 67) d_K_rule_67 lf_K_35 ?_
      refine g_callV (M' := m_B_isFull) (pc := 70) (q := 4) d_K_rule_70 lm_K_124 (c_B_isFull Th.length b6 (by omega)) v_B_isFull rfl rfl rfl (by decide) rfl (Nat.le_of_ble_eq_true rfl) ?_
      rintro _ _ ⟨rfl, rfl⟩
      show pG m_K_rule τ _ 0 0 73 _ (.int _ :: _) _
      refine g_ifb_eq (pc := 73) (tgt := 79) d_K_rule_73 (by decide) (fun h73 => ?_) (fun h73 => ?_)
      · refine g_aload_n (pc := 79) d_K_rule_79 rfl ?_
        refine g_iload_n (pc := 80) d_K_rule_80 rfl ?_
        refine g_iload_n (pc := 81) d_K_rule_81 rfl ?_
        refine g_iload_n (pc := 82) d_K_rule_82 rfl ?_
        refine g_callV (M' := m_K_derive) (pc := 83) (q := 0) d_K_rule_83 lm_K_128 (c_K_derive_7 x0 ux vx zx hx cx A tx hA0_ y hI ok okT (of_decide_eq_false h73) (of_decide_eq_true h47)) v_K_derive rfl rfl rfl (by decide) rfl (Nat.le_of_ble_eq_true rfl) ?_
        rintro _ _ ⟨i2, r2, L2, d2, rfl, rfl, hI2⟩
        show pG m_K_rule τ _ 0 0 86 _ (.int _ :: _) _
        refine g_iret (pc := 86) d_K_rule_86 rfl (Nat.le_refl _) (Nat.le_refl _) ?_
        have eZ := eS
        rw [sRb7, if_pos (of_decide_eq_true h47), if_neg (of_decide_eq_false h73)] at eZ
        exact ⟨i2, r2, L2, d2, by rw [eZ], rfl, by rw [eZ]; exact hI2⟩
      · refine g_bipush (pc := 76) (v := -4) d_K_rule_76 (by decide) ?_
        refine g_iret (pc := 78) d_K_rule_78 rfl (Nat.le_refl _) (Nat.le_refl _) ?_
        have eZ : sR7 Ty Tm Th (nI x0) y = (-4, Ty, Tm, Th) := by rw [eS, sRb7, if_pos (of_decide_eq_true h47), if_pos (of_decide_eq_true h73)]
        exact ⟨i, r, L, d, by rw [eZ], rfl, by rw [eZ]; exact hI⟩
    · refine g_bipush (pc := 50) (v := -2) d_K_rule_50 (by decide) ?_
      refine g_iret (pc := 52) d_K_rule_52 rfl (Nat.le_refl _) (Nat.le_refl _) ?_
      have eZ : sR7 Ty Tm Th (nI x0) y = (-2, Ty, Tm, Th) := by rw [eS, sRb7, if_neg (of_decide_eq_false h47)]
      exact ⟨i, r, L, d, by rw [eZ], rfl, by rw [eZ]; exact hI⟩
set_option maxRecDepth 100000 in
set_option maxHeartbeats 4000000 in
theorem c_K_rule_8 {τ : Nat × Nat} {a : Nat → Nat} {i : Nat → Int32} {r : Nat → Nat → Int32} {L : Nat → Int64} {wr : pW} {Ty : List (Nat × Nat)} {Tm : List (List Nat)} {Th : List Thm} {d : List Nat} (x y : Int32) (hI : XI Ty Tm Th d i r L) (ok : TmOk Ty Tm) (okT : ThOk Tm Th) : pC m_K_rule τ [.ref (a 0), .int (nI 8), .int x, .int y] (wX a i r L ++ wr) ((fun rr w2 => ∃ i2 r2 L2 d2, rr = some (.int ((sR8 Ty Tm Th x y).1)) ∧ w2 = wX a i2 r2 L2 ++ wr ∧ XI ((sR8 Ty Tm Th x y).2.1) ((sR8 Ty Tm Th x y).2.2.1) ((sR8 Ty Tm Th x y).2.2.2) d2 i2 r2 L2)) := by
  refine pC.of rfl (Nat.le_of_ble_eq_true rfl) ?_
  show pG m_K_rule τ _ 0 0 0 [(0, _), (1, _), (2, _), (3, _)] [] _
  obtain ⟨b1, b2, b3, b4, b5, b6⟩ := hI.b
  refine g_iload_n (pc := 0) d_K_rule_0 rfl ?_
  refine g_nif_lt (pc := 1) (tgt := 10) d_K_rule_1 (by decide) (by omega) ?_
  refine g_iload_n (pc := 4) d_K_rule_4 rfl ?_
  refine g_bipush (pc := 5) (v := nI 14) d_K_rule_5 (by decide) ?_
  refine g_nicmp_lt (pc := 7) (tgt := 12) d_K_rule_7 (by decide) (by omega) (by omega) (fun h7 => ?_) (fun h => absurd h (by decide))
  refine g_aload_n (pc := 12) d_K_rule_12 rfl ?_
  refine g_getsX (pc := 13) d_K_rule_13 lf_K_107 ?_
  refine g_iload_n (pc := 16) d_K_rule_16 rfl ?_
  refine g_saldX (pc := 17) (v := nI 2) d_K_rule_17 (vp_in_nI (by decide) (by decide)) (by decide) ?_
  refine g_iload_n (pc := 18) d_K_rule_18 rfl ?_
  refine g_callV (M' := m_K_isThere) (pc := 19) (q := 0) d_K_rule_19 lm_K_111 (c_K_isThere_2 Th.length b6 (by omega) x) v_K_isThere rfl rfl rfl (by decide) rfl (Nat.le_of_ble_eq_true rfl) ?_
  rintro _ _ ⟨rfl, rfl⟩
  show pG m_K_rule τ _ 0 0 22 _ (.int _ :: _) _
  refine g_ifb_eq (pc := 22) (tgt := 38) d_K_rule_22 (by decide) (fun h22 => ?_) (fun h22 => ?_)
  · refine g_iconst (pc := 38) (v := -1) d_K_rule_38 (by decide) ?_
    refine g_iret (pc := 39) d_K_rule_39 rfl (Nat.le_refl _) (Nat.le_refl _) ?_
    have eZ : sR8 Ty Tm Th x y = (-1, Ty, Tm, Th) := by
      first | (rw [sR8, h22]; rfl) | (rw [sR8, h35, Bool.and_false]; rfl)
    exact ⟨i, r, L, d, by rw [eZ], rfl, by rw [eZ]; exact hI⟩
  · refine g_aload_n (pc := 25) d_K_rule_25 rfl ?_
    refine g_getsY (pc := 26) d_K_rule_26 lf_K_114 ?_
    refine g_iload_n (pc := 29) d_K_rule_29 rfl ?_
    refine g_saldY (pc := 30) (v := nI 2) d_K_rule_30 (vp_in_nI (by decide) (by decide)) (by decide) ?_
    refine g_iload_n (pc := 31) d_K_rule_31 rfl ?_
    refine g_callV (M' := m_K_isThere) (pc := 32) (q := 0) d_K_rule_32 lm_K_111 (c_K_isThere_2 Th.length b6 (by omega) y) v_K_isThere rfl rfl rfl (by decide) rfl (Nat.le_of_ble_eq_true rfl) ?_
    rintro _ _ ⟨rfl, rfl⟩
    show pG m_K_rule τ _ 0 0 35 _ (.int _ :: _) _
    refine g_ifb_ne (pc := 35) (tgt := 40) d_K_rule_35 (by decide) (fun h35 => ?_) (fun h35 => ?_)
    · obtain ⟨x0, hx0, rfl⟩ := ixB_of h22 (by omega)
      obtain ⟨⟨ux, vx, zx, hx, cx⟩, tx⟩ := get_of hx0
      obtain ⟨kx1, kx2⟩ := okT _ _ _ _ _ _ tx
      obtain ⟨A, hA0_⟩ := get_of kx1
      have hA := hI.2.1.pa ok hA0_
      obtain ⟨hx4, hxT, hx6, hxh⟩ := hI.th tx
      have exc : (nI x0).toNatClampNeg = x0 := nI_clamp (by omega)
      have ext : thG Th (nI x0) = (ux, vx, zx, hx, cx) := by rw [thG, exc, List.getD_eq_getElem?_getD, tx]; rfl
      have eA : rcT Tm Th (nI x0) = A := by rw [rcT, ext]; exact getD_at hA0_
      obtain ⟨y0, hy0, rfl⟩ := ixB_of h35 (by omega)
      obtain ⟨⟨uy, vy, zy, hy, cy⟩, ty⟩ := get_of hy0
      obtain ⟨ky1, ky2⟩ := okT _ _ _ _ _ _ ty
      obtain ⟨B, hB0_⟩ := get_of ky1
      have hB := hI.2.1.pa ok hB0_
      obtain ⟨hy4, hyT, hy6, hyh⟩ := hI.th ty
      have eyc : (nI y0).toNatClampNeg = y0 := nI_clamp (by omega)
      have eyt : thG Th (nI y0) = (uy, vy, zy, hy, cy) := by rw [thG, eyc, List.getD_eq_getElem?_getD, ty]; rfl
      have eB : rcT Tm Th (nI y0) = B := by rw [rcT, eyt]; exact getD_at hB0_
      have eS : sR8 Ty Tm Th (nI x0) (nI y0) = sRb8 Ty Tm Th x0 y0 hx hy A B := by rw [sR8, h22, h35, exc, eyc, ext, eyt, eA, eB]; rfl
      refine g_aload_n (pc := 40) d_K_rule_40 rfl ?_
      refine g_iload_n (pc := 41) d_K_rule_41 rfl ?_
      refine g_iload_n (pc := 42) d_K_rule_42 rfl ?_
      refine g_iload_n (pc := 43) d_K_rule_43 rfl ?_
      refine g_callV (M' := m_K_isAsTheRuleSays) (pc := 44) (q := 0) d_K_rule_44 lm_K_117 (c_K_isAs_8 x0 cx hx4 hx6 y0 cy hy4 hy6 A hA B hB) v_K_isAsTheRuleSays rfl rfl rfl (by decide) rfl (Nat.le_of_ble_eq_true rfl) ?_
      rintro _ _ ⟨rfl, rfl⟩
      show pG m_K_rule τ _ 0 0 47 _ (.int _ :: _) _
      refine g_ifb_ne (pc := 47) (tgt := 53) d_K_rule_47 (by decide) (fun h47 => ?_) (fun h47 => ?_)
      · refine g_aload_n (pc := 53) d_K_rule_53 rfl ?_
        refine g_iload_n (pc := 54) d_K_rule_54 rfl ?_
        refine g_iload_n (pc := 55) d_K_rule_55 rfl ?_
        refine g_iload_n (pc := 56) d_K_rule_56 rfl ?_
        refine g_callV (M' := m_K_bindsWhatIsAssumed) (pc := 57) (q := 0) d_K_rule_57 lm_K_121 (c_K_binds_8 _ _) v_K_bindsWhatIsAssumed rfl rfl rfl (by decide) rfl (Nat.le_of_ble_eq_true rfl) ?_
        rintro _ _ ⟨rfl, rfl⟩
        show pG m_K_rule τ _ 0 0 60 _ (.int _ :: _) _
        refine g_ifb_eq (pc := 60) (tgt := 66) d_K_rule_60 (by decide) (fun h60 => ?_) (fun h => Bool.noConfusion h)
        refine g_aload_n (pc := 66) d_K_rule_66 rfl ?_
        refine gx_K_book (pc := 67) d_K_rule_67 lf_K_35 ?_
        refine g_callV (M' := m_B_isFull) (pc := 70) (q := 4) d_K_rule_70 lm_K_124 (c_B_isFull Th.length b6 (by omega)) v_B_isFull rfl rfl rfl (by decide) rfl (Nat.le_of_ble_eq_true rfl) ?_
        rintro _ _ ⟨rfl, rfl⟩
        show pG m_K_rule τ _ 0 0 73 _ (.int _ :: _) _
        refine g_ifb_eq (pc := 73) (tgt := 79) d_K_rule_73 (by decide) (fun h73 => ?_) (fun h73 => ?_)
        · refine g_aload_n (pc := 79) d_K_rule_79 rfl ?_
          refine g_iload_n (pc := 80) d_K_rule_80 rfl ?_
          refine g_iload_n (pc := 81) d_K_rule_81 rfl ?_
          refine g_iload_n (pc := 82) d_K_rule_82 rfl ?_
          refine g_callV (M' := m_K_derive) (pc := 83) (q := 0) d_K_rule_83 lm_K_128 (c_K_derive_8 x0 ux vx zx hx cx A tx hA0_ y0 uy vy zy hy cy B ty hB0_ hI ok okT (of_decide_eq_false h73) (of_decide_eq_true h47).1 (of_decide_eq_true h47).2.1) v_K_derive rfl rfl rfl (by decide) rfl (Nat.le_of_ble_eq_true rfl) ?_
          rintro _ _ ⟨i2, r2, L2, d2, rfl, rfl, hI2⟩
          show pG m_K_rule τ _ 0 0 86 _ (.int _ :: _) _
          refine g_iret (pc := 86) d_K_rule_86 rfl (Nat.le_refl _) (Nat.le_refl _) ?_
          have eZ := eS
          rw [sRb8, if_pos (of_decide_eq_true h47), if_neg (of_decide_eq_false h73)] at eZ
          exact ⟨i2, r2, L2, d2, by rw [eZ], rfl, by rw [eZ]; exact hI2⟩
        · refine g_bipush (pc := 76) (v := -4) d_K_rule_76 (by decide) ?_
          refine g_iret (pc := 78) d_K_rule_78 rfl (Nat.le_refl _) (Nat.le_refl _) ?_
          have eZ : sR8 Ty Tm Th (nI x0) (nI y0) = (-4, Ty, Tm, Th) := by rw [eS, sRb8, if_pos (of_decide_eq_true h47), if_pos (of_decide_eq_true h73)]
          exact ⟨i, r, L, d, by rw [eZ], rfl, by rw [eZ]; exact hI⟩
      · refine g_bipush (pc := 50) (v := -2) d_K_rule_50 (by decide) ?_
        refine g_iret (pc := 52) d_K_rule_52 rfl (Nat.le_refl _) (Nat.le_refl _) ?_
        have eZ : sR8 Ty Tm Th (nI x0) (nI y0) = (-2, Ty, Tm, Th) := by rw [eS, sRb8, if_neg (of_decide_eq_false h47)]
        exact ⟨i, r, L, d, by rw [eZ], rfl, by rw [eZ]; exact hI⟩
    · refine g_iconst (pc := 38) (v := -1) d_K_rule_38 (by decide) ?_
      refine g_iret (pc := 39) d_K_rule_39 rfl (Nat.le_refl _) (Nat.le_refl _) ?_
      have eZ : sR8 Ty Tm Th x y = (-1, Ty, Tm, Th) := by
        first | (rw [sR8, h22]; rfl) | (rw [sR8, h35, Bool.and_false]; rfl)
      exact ⟨i, r, L, d, by rw [eZ], rfl, by rw [eZ]; exact hI⟩
set_option maxRecDepth 100000 in
set_option maxHeartbeats 4000000 in
theorem c_K_rule_9 {τ : Nat × Nat} {a : Nat → Nat} {i : Nat → Int32} {r : Nat → Nat → Int32} {L : Nat → Int64} {wr : pW} {Ty : List (Nat × Nat)} {Tm : List (List Nat)} {Th : List Thm} {d : List Nat} (x y : Int32) (hI : XI Ty Tm Th d i r L) (ok : TmOk Ty Tm) (okT : ThOk Tm Th) (okE : ∀ (t : Nat) (row : List Nat), Tm[t]? = some row → tgR row = 7 → tyR (p2 row) = tyR (p1 row)) (okP : ∀ (t : Nat) (row : List Nat), Tm[t]? = some row → tyR (p1 row) < 3 + Ty.length) : pC m_K_rule τ [.ref (a 0), .int (nI 9), .int x, .int y] (wX a i r L ++ wr) ((fun rr w2 => ∃ i2 r2 L2 d2, rr = some (.int ((sR9 Ty Tm Th x y).1)) ∧ w2 = wX a i2 r2 L2 ++ wr ∧ XI ((sR9 Ty Tm Th x y).2.1) ((sR9 Ty Tm Th x y).2.2.1) ((sR9 Ty Tm Th x y).2.2.2) d2 i2 r2 L2)) := by
  refine pC.of rfl (Nat.le_of_ble_eq_true rfl) ?_
  show pG m_K_rule τ _ 0 0 0 [(0, _), (1, _), (2, _), (3, _)] [] _
  obtain ⟨b1, b2, b3, b4, b5, b6⟩ := hI.b
  refine g_iload_n (pc := 0) d_K_rule_0 rfl ?_
  refine g_nif_lt (pc := 1) (tgt := 10) d_K_rule_1 (by decide) (by omega) ?_
  refine g_iload_n (pc := 4) d_K_rule_4 rfl ?_
  refine g_bipush (pc := 5) (v := nI 14) d_K_rule_5 (by decide) ?_
  refine g_nicmp_lt (pc := 7) (tgt := 12) d_K_rule_7 (by decide) (by omega) (by omega) (fun h7 => ?_) (fun h => absurd h (by decide))
  refine g_aload_n (pc := 12) d_K_rule_12 rfl ?_
  refine g_getsX (pc := 13) d_K_rule_13 lf_K_107 ?_
  refine g_iload_n (pc := 16) d_K_rule_16 rfl ?_
  refine g_saldX (pc := 17) (v := nI 2) d_K_rule_17 (vp_in_nI (by decide) (by decide)) (by decide) ?_
  refine g_iload_n (pc := 18) d_K_rule_18 rfl ?_
  refine g_callV (M' := m_K_isThere) (pc := 19) (q := 0) d_K_rule_19 lm_K_111 (c_K_isThere_2 Th.length b6 (by omega) x) v_K_isThere rfl rfl rfl (by decide) rfl (Nat.le_of_ble_eq_true rfl) ?_
  rintro _ _ ⟨rfl, rfl⟩
  show pG m_K_rule τ _ 0 0 22 _ (.int _ :: _) _
  refine g_ifb_eq (pc := 22) (tgt := 38) d_K_rule_22 (by decide) (fun h22 => ?_) (fun h22 => ?_)
  · refine g_iconst (pc := 38) (v := -1) d_K_rule_38 (by decide) ?_
    refine g_iret (pc := 39) d_K_rule_39 rfl (Nat.le_refl _) (Nat.le_refl _) ?_
    have eZ : sR9 Ty Tm Th x y = (-1, Ty, Tm, Th) := by
      first | (rw [sR9, h22]; rfl) | (rw [sR9, h35, Bool.and_false]; rfl)
    exact ⟨i, r, L, d, by rw [eZ], rfl, by rw [eZ]; exact hI⟩
  · refine g_aload_n (pc := 25) d_K_rule_25 rfl ?_
    refine g_getsY (pc := 26) d_K_rule_26 lf_K_114 ?_
    refine g_iload_n (pc := 29) d_K_rule_29 rfl ?_
    refine g_saldY (pc := 30) (v := nI 2) d_K_rule_30 (vp_in_nI (by decide) (by decide)) (by decide) ?_
    refine g_iload_n (pc := 31) d_K_rule_31 rfl ?_
    refine g_callV (M' := m_K_isThere) (pc := 32) (q := 0) d_K_rule_32 lm_K_111 (c_K_isThere_2 Th.length b6 (by omega) y) v_K_isThere rfl rfl rfl (by decide) rfl (Nat.le_of_ble_eq_true rfl) ?_
    rintro _ _ ⟨rfl, rfl⟩
    show pG m_K_rule τ _ 0 0 35 _ (.int _ :: _) _
    refine g_ifb_ne (pc := 35) (tgt := 40) d_K_rule_35 (by decide) (fun h35 => ?_) (fun h35 => ?_)
    · obtain ⟨x0, hx0, rfl⟩ := ixB_of h22 (by omega)
      obtain ⟨⟨ux, vx, zx, hx, cx⟩, tx⟩ := get_of hx0
      obtain ⟨kx1, kx2⟩ := okT _ _ _ _ _ _ tx
      obtain ⟨A, hA0_⟩ := get_of kx1
      have hA := hI.2.1.pa ok hA0_
      obtain ⟨hx4, hxT, hx6, hxh⟩ := hI.th tx
      have exc : (nI x0).toNatClampNeg = x0 := nI_clamp (by omega)
      have ext : thG Th (nI x0) = (ux, vx, zx, hx, cx) := by rw [thG, exc, List.getD_eq_getElem?_getD, tx]; rfl
      have eA : rcT Tm Th (nI x0) = A := by rw [rcT, ext]; exact getD_at hA0_
      obtain ⟨y0, hy0, rfl⟩ := ixB_of h35 (by omega)
      obtain ⟨⟨uy, vy, zy, hy, cy⟩, ty⟩ := get_of hy0
      obtain ⟨ky1, ky2⟩ := okT _ _ _ _ _ _ ty
      obtain ⟨B, hB0_⟩ := get_of ky1
      have hB := hI.2.1.pa ok hB0_
      obtain ⟨hy4, hyT, hy6, hyh⟩ := hI.th ty
      have eyc : (nI y0).toNatClampNeg = y0 := nI_clamp (by omega)
      have eyt : thG Th (nI y0) = (uy, vy, zy, hy, cy) := by rw [thG, eyc, List.getD_eq_getElem?_getD, ty]; rfl
      have eB : rcT Tm Th (nI y0) = B := by rw [rcT, eyt]; exact getD_at hB0_
      have eS : sR9 Ty Tm Th (nI x0) (nI y0) = sRb9 Ty Tm Th x0 y0 hx hy A B := by rw [sR9, h22, h35, exc, eyc, ext, eyt, eA, eB]; rfl
      have hFt : tyR (p1 A) < 3 + Ty.length := okP _ _ hA0_
      refine g_aload_n (pc := 40) d_K_rule_40 rfl ?_
      refine g_iload_n (pc := 41) d_K_rule_41 rfl ?_
      refine g_iload_n (pc := 42) d_K_rule_42 rfl ?_
      refine g_iload_n (pc := 43) d_K_rule_43 rfl ?_
      refine g_callV (M' := m_K_isAsTheRuleSays) (pc := 44) (q := 0) d_K_rule_44 lm_K_117 (c_K_isAs_9 x0 cx hx4 hx6 y0 cy hy4 hy6 A hA B hB Ty hI.1 hFt) v_K_isAsTheRuleSays rfl rfl rfl (by decide) rfl (Nat.le_of_ble_eq_true rfl) ?_
      rintro _ _ ⟨rfl, rfl⟩
      show pG m_K_rule τ _ 0 0 47 _ (.int _ :: _) _
      refine g_ifb_ne (pc := 47) (tgt := 53) d_K_rule_47 (by decide) (fun h47 => ?_) (fun h47 => ?_)
      · refine g_aload_n (pc := 53) d_K_rule_53 rfl ?_
        refine g_iload_n (pc := 54) d_K_rule_54 rfl ?_
        refine g_iload_n (pc := 55) d_K_rule_55 rfl ?_
        refine g_iload_n (pc := 56) d_K_rule_56 rfl ?_
        refine g_callV (M' := m_K_bindsWhatIsAssumed) (pc := 57) (q := 0) d_K_rule_57 lm_K_121 (c_K_binds_9 _ _) v_K_bindsWhatIsAssumed rfl rfl rfl (by decide) rfl (Nat.le_of_ble_eq_true rfl) ?_
        rintro _ _ ⟨rfl, rfl⟩
        show pG m_K_rule τ _ 0 0 60 _ (.int _ :: _) _
        refine g_ifb_eq (pc := 60) (tgt := 66) d_K_rule_60 (by decide) (fun h60 => ?_) (fun h => Bool.noConfusion h)
        refine g_aload_n (pc := 66) d_K_rule_66 rfl ?_
        refine gx_K_book (pc := 67) d_K_rule_67 lf_K_35 ?_
        refine g_callV (M' := m_B_isFull) (pc := 70) (q := 4) d_K_rule_70 lm_K_124 (c_B_isFull Th.length b6 (by omega)) v_B_isFull rfl rfl rfl (by decide) rfl (Nat.le_of_ble_eq_true rfl) ?_
        rintro _ _ ⟨rfl, rfl⟩
        show pG m_K_rule τ _ 0 0 73 _ (.int _ :: _) _
        refine g_ifb_eq (pc := 73) (tgt := 79) d_K_rule_73 (by decide) (fun h73 => ?_) (fun h73 => ?_)
        · refine g_aload_n (pc := 79) d_K_rule_79 rfl ?_
          refine g_iload_n (pc := 80) d_K_rule_80 rfl ?_
          refine g_iload_n (pc := 81) d_K_rule_81 rfl ?_
          refine g_iload_n (pc := 82) d_K_rule_82 rfl ?_
          refine g_callV (M' := m_K_derive) (pc := 83) (q := 0) d_K_rule_83 lm_K_128 (c_K_derive_9 x0 ux vx zx hx cx A tx hA0_ y0 uy vy zy hy cy B ty hB0_ hI ok okT (of_decide_eq_false h73) (of_decide_eq_true h47).1 (of_decide_eq_true h47).2.1 (of_decide_eq_true h47).2.2 (okE _ _ hA0_ (of_decide_eq_true h47).1)) v_K_derive rfl rfl rfl (by decide) rfl (Nat.le_of_ble_eq_true rfl) ?_
          rintro _ _ ⟨i2, r2, L2, d2, rfl, rfl, hI2⟩
          show pG m_K_rule τ _ 0 0 86 _ (.int _ :: _) _
          refine g_iret (pc := 86) d_K_rule_86 rfl (Nat.le_refl _) (Nat.le_refl _) ?_
          have eZ := eS
          rw [sRb9, if_pos (of_decide_eq_true h47), if_neg (of_decide_eq_false h73)] at eZ
          exact ⟨i2, r2, L2, d2, by rw [eZ], rfl, by rw [eZ]; exact hI2⟩
        · refine g_bipush (pc := 76) (v := -4) d_K_rule_76 (by decide) ?_
          refine g_iret (pc := 78) d_K_rule_78 rfl (Nat.le_refl _) (Nat.le_refl _) ?_
          have eZ : sR9 Ty Tm Th (nI x0) (nI y0) = (-4, Ty, Tm, Th) := by rw [eS, sRb9, if_pos (of_decide_eq_true h47), if_pos (of_decide_eq_true h73)]
          exact ⟨i, r, L, d, by rw [eZ], rfl, by rw [eZ]; exact hI⟩
      · refine g_bipush (pc := 50) (v := -2) d_K_rule_50 (by decide) ?_
        refine g_iret (pc := 52) d_K_rule_52 rfl (Nat.le_refl _) (Nat.le_refl _) ?_
        have eZ : sR9 Ty Tm Th (nI x0) (nI y0) = (-2, Ty, Tm, Th) := by rw [eS, sRb9, if_neg (of_decide_eq_false h47)]
        exact ⟨i, r, L, d, by rw [eZ], rfl, by rw [eZ]; exact hI⟩
    · refine g_iconst (pc := 38) (v := -1) d_K_rule_38 (by decide) ?_
      refine g_iret (pc := 39) d_K_rule_39 rfl (Nat.le_refl _) (Nat.le_refl _) ?_
      have eZ : sR9 Ty Tm Th x y = (-1, Ty, Tm, Th) := by
        first | (rw [sR9, h22]; rfl) | (rw [sR9, h35, Bool.and_false]; rfl)
      exact ⟨i, r, L, d, by rw [eZ], rfl, by rw [eZ]; exact hI⟩
set_option maxRecDepth 100000 in
set_option maxHeartbeats 4000000 in
theorem c_K_rule_10 {τ : Nat × Nat} {a : Nat → Nat} {i : Nat → Int32} {r : Nat → Nat → Int32} {L : Nat → Int64} {wr : pW} {Ty : List (Nat × Nat)} {Tm : List (List Nat)} {Th : List Thm} {d : List Nat} (x y : Int32) (hI : XI Ty Tm Th d i r L) (ok : TmOk Ty Tm) (okT : ThOk Tm Th) : pC m_K_rule τ [.ref (a 0), .int (nI 10), .int x, .int y] (wX a i r L ++ wr) ((fun rr w2 => ∃ i2 r2 L2 d2, rr = some (.int ((sR10 Ty Tm Th x y).1)) ∧ w2 = wX a i2 r2 L2 ++ wr ∧ XI ((sR10 Ty Tm Th x y).2.1) ((sR10 Ty Tm Th x y).2.2.1) ((sR10 Ty Tm Th x y).2.2.2) d2 i2 r2 L2)) := by
  refine pC.of rfl (Nat.le_of_ble_eq_true rfl) ?_
  show pG m_K_rule τ _ 0 0 0 [(0, _), (1, _), (2, _), (3, _)] [] _
  obtain ⟨b1, b2, b3, b4, b5, b6⟩ := hI.b
  refine g_iload_n (pc := 0) d_K_rule_0 rfl ?_
  refine g_nif_lt (pc := 1) (tgt := 10) d_K_rule_1 (by decide) (by omega) ?_
  refine g_iload_n (pc := 4) d_K_rule_4 rfl ?_
  refine g_bipush (pc := 5) (v := nI 14) d_K_rule_5 (by decide) ?_
  refine g_nicmp_lt (pc := 7) (tgt := 12) d_K_rule_7 (by decide) (by omega) (by omega) (fun h7 => ?_) (fun h => absurd h (by decide))
  refine g_aload_n (pc := 12) d_K_rule_12 rfl ?_
  refine g_getsX (pc := 13) d_K_rule_13 lf_K_107 ?_
  refine g_iload_n (pc := 16) d_K_rule_16 rfl ?_
  refine g_saldX (pc := 17) (v := nI 2) d_K_rule_17 (vp_in_nI (by decide) (by decide)) (by decide) ?_
  refine g_iload_n (pc := 18) d_K_rule_18 rfl ?_
  refine g_callV (M' := m_K_isThere) (pc := 19) (q := 0) d_K_rule_19 lm_K_111 (c_K_isThere_2 Th.length b6 (by omega) x) v_K_isThere rfl rfl rfl (by decide) rfl (Nat.le_of_ble_eq_true rfl) ?_
  rintro _ _ ⟨rfl, rfl⟩
  show pG m_K_rule τ _ 0 0 22 _ (.int _ :: _) _
  refine g_ifb_eq (pc := 22) (tgt := 38) d_K_rule_22 (by decide) (fun h22 => ?_) (fun h22 => ?_)
  · refine g_iconst (pc := 38) (v := -1) d_K_rule_38 (by decide) ?_
    refine g_iret (pc := 39) d_K_rule_39 rfl (Nat.le_refl _) (Nat.le_refl _) ?_
    have eZ : sR10 Ty Tm Th x y = (-1, Ty, Tm, Th) := by
      first | (rw [sR10, h22]; rfl) | (rw [sR10, h35, Bool.and_false]; rfl)
    exact ⟨i, r, L, d, by rw [eZ], rfl, by rw [eZ]; exact hI⟩
  · refine g_aload_n (pc := 25) d_K_rule_25 rfl ?_
    refine g_getsY (pc := 26) d_K_rule_26 lf_K_114 ?_
    refine g_iload_n (pc := 29) d_K_rule_29 rfl ?_
    refine g_saldY (pc := 30) (v := nI 1) d_K_rule_30 (vp_in_nI (by decide) (by decide)) (by decide) ?_
    refine g_iload_n (pc := 31) d_K_rule_31 rfl ?_
    refine g_callV (M' := m_K_isThere) (pc := 32) (q := 0) d_K_rule_32 lm_K_111 (c_K_isThere_1 Tm.length b5 (by omega) y) v_K_isThere rfl rfl rfl (by decide) rfl (Nat.le_of_ble_eq_true rfl) ?_
    rintro _ _ ⟨rfl, rfl⟩
    show pG m_K_rule τ _ 0 0 35 _ (.int _ :: _) _
    refine g_ifb_ne (pc := 35) (tgt := 40) d_K_rule_35 (by decide) (fun h35 => ?_) (fun h35 => ?_)
    · obtain ⟨x0, hx0, rfl⟩ := ixB_of h22 (by omega)
      obtain ⟨⟨ux, vx, zx, hx, cx⟩, tx⟩ := get_of hx0
      obtain ⟨kx1, kx2⟩ := okT _ _ _ _ _ _ tx
      obtain ⟨A, hA0_⟩ := get_of kx1
      have hA := hI.2.1.pa ok hA0_
      obtain ⟨hx4, hxT, hx6, hxh⟩ := hI.th tx
      have exc : (nI x0).toNatClampNeg = x0 := nI_clamp (by omega)
      have ext : thG Th (nI x0) = (ux, vx, zx, hx, cx) := by rw [thG, exc, List.getD_eq_getElem?_getD, tx]; rfl
      have eA : rcT Tm Th (nI x0) = A := by rw [rcT, ext]; exact getD_at hA0_
      obtain ⟨y0, hy0, rfl⟩ := ixB_of h35 (by omega)
      obtain ⟨B, hB0_⟩ := get_of hy0
      have hB := hI.2.1.pa ok hB0_
      have eB := rwT_at hB0_ b2
      have eyc : (nI y0).toNatClampNeg = y0 := nI_clamp (by omega)
      have eS : sR10 Ty Tm Th (nI x0) (nI y0) = sRb10 Ty Tm Th x0 y0 hx 0 A B := by rw [sR10, h22, h35, exc, eyc, ext, eA, eB]; rfl
      refine g_aload_n (pc := 40) d_K_rule_40 rfl ?_
      refine g_iload_n (pc := 41) d_K_rule_41 rfl ?_
      refine g_iload_n (pc := 42) d_K_rule_42 rfl ?_
      refine g_iload_n (pc := 43) d_K_rule_43 rfl ?_
      refine g_callV (M' := m_K_isAsTheRuleSays) (pc := 44) (q := 0) d_K_rule_44 lm_K_117 (c_K_isAs_10 x0 cx hx4 hx6 y0 A hA B hB) v_K_isAsTheRuleSays rfl rfl rfl (by decide) rfl (Nat.le_of_ble_eq_true rfl) ?_
      rintro _ _ ⟨rfl, rfl⟩
      show pG m_K_rule τ _ 0 0 47 _ (.int _ :: _) _
      refine g_ifb_ne (pc := 47) (tgt := 53) d_K_rule_47 (by decide) (fun h47 => ?_) (fun h47 => ?_)
      · refine g_aload_n (pc := 53) d_K_rule_53 rfl ?_
        refine g_iload_n (pc := 54) d_K_rule_54 rfl ?_
        refine g_iload_n (pc := 55) d_K_rule_55 rfl ?_
        refine g_iload_n (pc := 56) d_K_rule_56 rfl ?_
        refine g_callV (M' := m_K_bindsWhatIsAssumed) (pc := 57) (q := 0) d_K_rule_57 lm_K_121 (c_K_binds_10 Ty Tm x0 y0 hx B hI.2.1 ok hB hx4 hxh (okT.b b2 tx).2) v_K_bindsWhatIsAssumed rfl rfl rfl (by decide) rfl (Nat.le_of_ble_eq_true rfl) ?_
        rintro _ _ ⟨rfl, rfl⟩
        show pG m_K_rule τ _ 0 0 60 _ (.int _ :: _) _
        refine g_ifb_eq (pc := 60) (tgt := 66) d_K_rule_60 (by decide) (fun h60 => ?_) (fun h60 => ?_)
        · refine g_aload_n (pc := 66) d_K_rule_66 rfl ?_
          refine gx_K_book (pc := 67) d_K_rule_67 lf_K_35 ?_
          refine g_callV (M' := m_B_isFull) (pc := 70) (q := 4) d_K_rule_70 lm_K_124 (c_B_isFull Th.length b6 (by omega)) v_B_isFull rfl rfl rfl (by decide) rfl (Nat.le_of_ble_eq_true rfl) ?_
          rintro _ _ ⟨rfl, rfl⟩
          show pG m_K_rule τ _ 0 0 73 _ (.int _ :: _) _
          refine g_ifb_eq (pc := 73) (tgt := 79) d_K_rule_73 (by decide) (fun h73 => ?_) (fun h73 => ?_)
          · refine g_aload_n (pc := 79) d_K_rule_79 rfl ?_
            refine g_iload_n (pc := 80) d_K_rule_80 rfl ?_
            refine g_iload_n (pc := 81) d_K_rule_81 rfl ?_
            refine g_iload_n (pc := 82) d_K_rule_82 rfl ?_
            refine g_callV (M' := m_K_derive) (pc := 83) (q := 0) d_K_rule_83 lm_K_128 (c_K_derive_10 x0 ux vx zx hx cx A tx hA0_ y0 B hB0_ hI ok okT (of_decide_eq_false h73) (of_decide_eq_true h47).1) v_K_derive rfl rfl rfl (by decide) rfl (Nat.le_of_ble_eq_true rfl) ?_
            rintro _ _ ⟨i2, r2, L2, d2, rfl, rfl, hI2⟩
            show pG m_K_rule τ _ 0 0 86 _ (.int _ :: _) _
            refine g_iret (pc := 86) d_K_rule_86 rfl (Nat.le_refl _) (Nat.le_refl _) ?_
            have eZ := eS
            rw [sRb10, if_pos (of_decide_eq_true h47), if_neg (by rw [h60]; decide), if_neg (of_decide_eq_false h73)] at eZ
            exact ⟨i2, r2, L2, d2, by rw [eZ], rfl, by rw [eZ]; exact hI2⟩
          · refine g_bipush (pc := 76) (v := -4) d_K_rule_76 (by decide) ?_
            refine g_iret (pc := 78) d_K_rule_78 rfl (Nat.le_refl _) (Nat.le_refl _) ?_
            have eZ : sR10 Ty Tm Th (nI x0) (nI y0) = (-4, Ty, Tm, Th) := by rw [eS, sRb10, if_pos (of_decide_eq_true h47), if_neg (by rw [h60]; decide), if_pos (of_decide_eq_true h73)]
            exact ⟨i, r, L, d, by rw [eZ], rfl, by rw [eZ]; exact hI⟩
        · refine g_bipush (pc := 63) (v := -3) d_K_rule_63 (by decide) ?_
          refine g_iret (pc := 65) d_K_rule_65 rfl (Nat.le_refl _) (Nat.le_refl _) ?_
          have eZ : sR10 Ty Tm Th (nI x0) (nI y0) = (-3, Ty, Tm, Th) := by rw [eS, sRb10, if_pos (of_decide_eq_true h47), if_pos h60]
          exact ⟨i, r, L, d, by rw [eZ], rfl, by rw [eZ]; exact hI⟩
      · refine g_bipush (pc := 50) (v := -2) d_K_rule_50 (by decide) ?_
        refine g_iret (pc := 52) d_K_rule_52 rfl (Nat.le_refl _) (Nat.le_refl _) ?_
        have eZ : sR10 Ty Tm Th (nI x0) (nI y0) = (-2, Ty, Tm, Th) := by rw [eS, sRb10, if_neg (of_decide_eq_false h47)]
        exact ⟨i, r, L, d, by rw [eZ], rfl, by rw [eZ]; exact hI⟩
    · refine g_iconst (pc := 38) (v := -1) d_K_rule_38 (by decide) ?_
      refine g_iret (pc := 39) d_K_rule_39 rfl (Nat.le_refl _) (Nat.le_refl _) ?_
      have eZ : sR10 Ty Tm Th x y = (-1, Ty, Tm, Th) := by
        first | (rw [sR10, h22]; rfl) | (rw [sR10, h35, Bool.and_false]; rfl)
      exact ⟨i, r, L, d, by rw [eZ], rfl, by rw [eZ]; exact hI⟩
set_option maxRecDepth 100000 in
set_option maxHeartbeats 4000000 in
theorem c_K_rule_11 {τ : Nat × Nat} {a : Nat → Nat} {i : Nat → Int32} {r : Nat → Nat → Int32} {L : Nat → Int64} {wr : pW} {Ty : List (Nat × Nat)} {Tm : List (List Nat)} {Th : List Thm} {d : List Nat} (x y : Int32) (hI : XI Ty Tm Th d i r L) (ok : TmOk Ty Tm) (okT : ThOk Tm Th) : pC m_K_rule τ [.ref (a 0), .int (nI 11), .int x, .int y] (wX a i r L ++ wr) ((fun rr w2 => ∃ i2 r2 L2 d2, rr = some (.int ((sR11 Ty Tm Th x y).1)) ∧ w2 = wX a i2 r2 L2 ++ wr ∧ XI ((sR11 Ty Tm Th x y).2.1) ((sR11 Ty Tm Th x y).2.2.1) ((sR11 Ty Tm Th x y).2.2.2) d2 i2 r2 L2)) := by
  refine pC.of rfl (Nat.le_of_ble_eq_true rfl) ?_
  show pG m_K_rule τ _ 0 0 0 [(0, _), (1, _), (2, _), (3, _)] [] _
  obtain ⟨b1, b2, b3, b4, b5, b6⟩ := hI.b
  refine g_iload_n (pc := 0) d_K_rule_0 rfl ?_
  refine g_nif_lt (pc := 1) (tgt := 10) d_K_rule_1 (by decide) (by omega) ?_
  refine g_iload_n (pc := 4) d_K_rule_4 rfl ?_
  refine g_bipush (pc := 5) (v := nI 14) d_K_rule_5 (by decide) ?_
  refine g_nicmp_lt (pc := 7) (tgt := 12) d_K_rule_7 (by decide) (by omega) (by omega) (fun h7 => ?_) (fun h => absurd h (by decide))
  refine g_aload_n (pc := 12) d_K_rule_12 rfl ?_
  refine g_getsX (pc := 13) d_K_rule_13 lf_K_107 ?_
  refine g_iload_n (pc := 16) d_K_rule_16 rfl ?_
  refine g_saldX (pc := 17) (v := nI 1) d_K_rule_17 (vp_in_nI (by decide) (by decide)) (by decide) ?_
  refine g_iload_n (pc := 18) d_K_rule_18 rfl ?_
  refine g_callV (M' := m_K_isThere) (pc := 19) (q := 0) d_K_rule_19 lm_K_111 (c_K_isThere_1 Tm.length b5 (by omega) x) v_K_isThere rfl rfl rfl (by decide) rfl (Nat.le_of_ble_eq_true rfl) ?_
  rintro _ _ ⟨rfl, rfl⟩
  show pG m_K_rule τ _ 0 0 22 _ (.int _ :: _) _
  refine g_ifb_eq (pc := 22) (tgt := 38) d_K_rule_22 (by decide) (fun h22 => ?_) (fun h22 => ?_)
  · refine g_iconst (pc := 38) (v := -1) d_K_rule_38 (by decide) ?_
    refine g_iret (pc := 39) d_K_rule_39 rfl (Nat.le_refl _) (Nat.le_refl _) ?_
    have eZ : sR11 Ty Tm Th x y = (-1, Ty, Tm, Th) := by
      first | (rw [sR11, h22]; rfl)
    exact ⟨i, r, L, d, by rw [eZ], rfl, by rw [eZ]; exact hI⟩
  · refine g_aload_n (pc := 25) d_K_rule_25 rfl ?_
    refine g_getsY (pc := 26) d_K_rule_26 lf_K_114 ?_
    refine g_iload_n (pc := 29) d_K_rule_29 rfl ?_
    refine g_saldY (pc := 30) (v := nI 0) d_K_rule_30 (vp_in_nI (by decide) (by decide)) (by decide) ?_
    refine g_iload_n (pc := 31) d_K_rule_31 rfl ?_
    refine g_callV (M' := m_K_isThere) (pc := 32) (q := 0) d_K_rule_32 lm_K_111 (c_K_isThere_0 y) v_K_isThere rfl rfl rfl (by decide) rfl (Nat.le_of_ble_eq_true rfl) ?_
    rintro _ _ ⟨rfl, rfl⟩
    show pG m_K_rule τ _ 0 0 35 _ (.int _ :: _) _
    refine g_ifb_ne (pc := 35) (tgt := 40) d_K_rule_35 (by decide) (fun h35 => ?_) (fun h => Bool.noConfusion h)
    obtain ⟨x0, hx0, rfl⟩ := ixB_of h22 (by omega)
    obtain ⟨A, hA0_⟩ := get_of hx0
    have hA := hI.2.1.pa ok hA0_
    have eA := rwT_at hA0_ b2
    have exc : (nI x0).toNatClampNeg = x0 := nI_clamp (by omega)
    have eS : sR11 Ty Tm Th (nI x0) y = sRb11 Ty Tm Th x0 y.toNatClampNeg 0 0 A [] := by rw [sR11, h22, exc, eA]; rfl
    refine g_aload_n (pc := 40) d_K_rule_40 rfl ?_
    refine g_iload_n (pc := 41) d_K_rule_41 rfl ?_
    refine g_iload_n (pc := 42) d_K_rule_42 rfl ?_
    refine g_iload_n (pc := 43) d_K_rule_43 rfl ?_
    refine g_callV (M' := m_K_isAsTheRuleSays) (pc := 44) (q := 0) d_K_rule_44 lm_K_117 (c_K_isAs_11 x0 y A hA) v_K_isAsTheRuleSays rfl rfl rfl (by decide) rfl (Nat.le_of_ble_eq_true rfl) ?_
    rintro _ _ ⟨rfl, rfl⟩
    show pG m_K_rule τ _ 0 0 47 _ (.int _ :: _) _
    refine g_ifb_ne (pc := 47) (tgt := 53) d_K_rule_47 (by decide) (fun h47 => ?_) (fun h47 => ?_)
    · refine g_aload_n (pc := 53) d_K_rule_53 rfl ?_
      refine g_iload_n (pc := 54) d_K_rule_54 rfl ?_
      refine g_iload_n (pc := 55) d_K_rule_55 rfl ?_
      refine g_iload_n (pc := 56) d_K_rule_56 rfl ?_
      refine g_callV (M' := m_K_bindsWhatIsAssumed) (pc := 57) (q := 0) d_K_rule_57 lm_K_121 (c_K_binds_11 _ _) v_K_bindsWhatIsAssumed rfl rfl rfl (by decide) rfl (Nat.le_of_ble_eq_true rfl) ?_
      rintro _ _ ⟨rfl, rfl⟩
      show pG m_K_rule τ _ 0 0 60 _ (.int _ :: _) _
      refine g_ifb_eq (pc := 60) (tgt := 66) d_K_rule_60 (by decide) (fun h60 => ?_) (fun h => Bool.noConfusion h)
      refine g_aload_n (pc := 66) d_K_rule_66 rfl ?_
      refine gx_K_book (pc := 67) d_K_rule_67 lf_K_35 ?_
      refine g_callV (M' := m_B_isFull) (pc := 70) (q := 4) d_K_rule_70 lm_K_124 (c_B_isFull Th.length b6 (by omega)) v_B_isFull rfl rfl rfl (by decide) rfl (Nat.le_of_ble_eq_true rfl) ?_
      rintro _ _ ⟨rfl, rfl⟩
      show pG m_K_rule τ _ 0 0 73 _ (.int _ :: _) _
      refine g_ifb_eq (pc := 73) (tgt := 79) d_K_rule_73 (by decide) (fun h73 => ?_) (fun h73 => ?_)
      · refine g_aload_n (pc := 79) d_K_rule_79 rfl ?_
        refine g_iload_n (pc := 80) d_K_rule_80 rfl ?_
        refine g_iload_n (pc := 81) d_K_rule_81 rfl ?_
        refine g_iload_n (pc := 82) d_K_rule_82 rfl ?_
        refine g_callV (M' := m_K_derive) (pc := 83) (q := 0) d_K_rule_83 lm_K_128 (c_K_derive_11 x0 A hA0_ y hI ok okT (of_decide_eq_false h73) (of_decide_eq_true h47).1 (of_decide_eq_true h47).2) v_K_derive rfl rfl rfl (by decide) rfl (Nat.le_of_ble_eq_true rfl) ?_
        rintro _ _ ⟨i2, r2, L2, d2, rfl, rfl, hI2⟩
        show pG m_K_rule τ _ 0 0 86 _ (.int _ :: _) _
        refine g_iret (pc := 86) d_K_rule_86 rfl (Nat.le_refl _) (Nat.le_refl _) ?_
        have eZ := eS
        rw [sRb11, if_pos (of_decide_eq_true h47), if_neg (of_decide_eq_false h73)] at eZ
        exact ⟨i2, r2, L2, d2, by rw [eZ], rfl, by rw [eZ]; exact hI2⟩
      · refine g_bipush (pc := 76) (v := -4) d_K_rule_76 (by decide) ?_
        refine g_iret (pc := 78) d_K_rule_78 rfl (Nat.le_refl _) (Nat.le_refl _) ?_
        have eZ : sR11 Ty Tm Th (nI x0) y = (-4, Ty, Tm, Th) := by rw [eS, sRb11, if_pos (of_decide_eq_true h47), if_pos (of_decide_eq_true h73)]
        exact ⟨i, r, L, d, by rw [eZ], rfl, by rw [eZ]; exact hI⟩
    · refine g_bipush (pc := 50) (v := -2) d_K_rule_50 (by decide) ?_
      refine g_iret (pc := 52) d_K_rule_52 rfl (Nat.le_refl _) (Nat.le_refl _) ?_
      have eZ : sR11 Ty Tm Th (nI x0) y = (-2, Ty, Tm, Th) := by rw [eS, sRb11, if_neg (of_decide_eq_false h47)]
      exact ⟨i, r, L, d, by rw [eZ], rfl, by rw [eZ]; exact hI⟩
set_option maxRecDepth 100000 in
set_option maxHeartbeats 4000000 in
theorem c_K_rule_12 {τ : Nat × Nat} {a : Nat → Nat} {i : Nat → Int32} {r : Nat → Nat → Int32} {L : Nat → Int64} {wr : pW} {Ty : List (Nat × Nat)} {Tm : List (List Nat)} {Th : List Thm} {d : List Nat} (x y : Int32) (hI : XI Ty Tm Th d i r L) (ok : TmOk Ty Tm) (okT : ThOk Tm Th) : pC m_K_rule τ [.ref (a 0), .int (nI 12), .int x, .int y] (wX a i r L ++ wr) ((fun rr w2 => ∃ i2 r2 L2 d2, rr = some (.int ((sR12 Ty Tm Th x y).1)) ∧ w2 = wX a i2 r2 L2 ++ wr ∧ XI ((sR12 Ty Tm Th x y).2.1) ((sR12 Ty Tm Th x y).2.2.1) ((sR12 Ty Tm Th x y).2.2.2) d2 i2 r2 L2)) := by
  refine pC.of rfl (Nat.le_of_ble_eq_true rfl) ?_
  show pG m_K_rule τ _ 0 0 0 [(0, _), (1, _), (2, _), (3, _)] [] _
  obtain ⟨b1, b2, b3, b4, b5, b6⟩ := hI.b
  refine g_iload_n (pc := 0) d_K_rule_0 rfl ?_
  refine g_nif_lt (pc := 1) (tgt := 10) d_K_rule_1 (by decide) (by omega) ?_
  refine g_iload_n (pc := 4) d_K_rule_4 rfl ?_
  refine g_bipush (pc := 5) (v := nI 14) d_K_rule_5 (by decide) ?_
  refine g_nicmp_lt (pc := 7) (tgt := 12) d_K_rule_7 (by decide) (by omega) (by omega) (fun h7 => ?_) (fun h => absurd h (by decide))
  refine g_aload_n (pc := 12) d_K_rule_12 rfl ?_
  refine g_getsX (pc := 13) d_K_rule_13 lf_K_107 ?_
  refine g_iload_n (pc := 16) d_K_rule_16 rfl ?_
  refine g_saldX (pc := 17) (v := nI 2) d_K_rule_17 (vp_in_nI (by decide) (by decide)) (by decide) ?_
  refine g_iload_n (pc := 18) d_K_rule_18 rfl ?_
  refine g_callV (M' := m_K_isThere) (pc := 19) (q := 0) d_K_rule_19 lm_K_111 (c_K_isThere_2 Th.length b6 (by omega) x) v_K_isThere rfl rfl rfl (by decide) rfl (Nat.le_of_ble_eq_true rfl) ?_
  rintro _ _ ⟨rfl, rfl⟩
  show pG m_K_rule τ _ 0 0 22 _ (.int _ :: _) _
  refine g_ifb_eq (pc := 22) (tgt := 38) d_K_rule_22 (by decide) (fun h22 => ?_) (fun h22 => ?_)
  · refine g_iconst (pc := 38) (v := -1) d_K_rule_38 (by decide) ?_
    refine g_iret (pc := 39) d_K_rule_39 rfl (Nat.le_refl _) (Nat.le_refl _) ?_
    have eZ : sR12 Ty Tm Th x y = (-1, Ty, Tm, Th) := by
      first | (rw [sR12, h22]; rfl) | (rw [sR12, h35, Bool.and_false]; rfl)
    exact ⟨i, r, L, d, by rw [eZ], rfl, by rw [eZ]; exact hI⟩
  · refine g_aload_n (pc := 25) d_K_rule_25 rfl ?_
    refine g_getsY (pc := 26) d_K_rule_26 lf_K_114 ?_
    refine g_iload_n (pc := 29) d_K_rule_29 rfl ?_
    refine g_saldY (pc := 30) (v := nI 2) d_K_rule_30 (vp_in_nI (by decide) (by decide)) (by decide) ?_
    refine g_iload_n (pc := 31) d_K_rule_31 rfl ?_
    refine g_callV (M' := m_K_isThere) (pc := 32) (q := 0) d_K_rule_32 lm_K_111 (c_K_isThere_2 Th.length b6 (by omega) y) v_K_isThere rfl rfl rfl (by decide) rfl (Nat.le_of_ble_eq_true rfl) ?_
    rintro _ _ ⟨rfl, rfl⟩
    show pG m_K_rule τ _ 0 0 35 _ (.int _ :: _) _
    refine g_ifb_ne (pc := 35) (tgt := 40) d_K_rule_35 (by decide) (fun h35 => ?_) (fun h35 => ?_)
    · obtain ⟨x0, hx0, rfl⟩ := ixB_of h22 (by omega)
      obtain ⟨⟨ux, vx, zx, hx, cx⟩, tx⟩ := get_of hx0
      obtain ⟨kx1, kx2⟩ := okT _ _ _ _ _ _ tx
      obtain ⟨A, hA0_⟩ := get_of kx1
      have hA := hI.2.1.pa ok hA0_
      obtain ⟨hx4, hxT, hx6, hxh⟩ := hI.th tx
      have exc : (nI x0).toNatClampNeg = x0 := nI_clamp (by omega)
      have ext : thG Th (nI x0) = (ux, vx, zx, hx, cx) := by rw [thG, exc, List.getD_eq_getElem?_getD, tx]; rfl
      have eA : rcT Tm Th (nI x0) = A := by rw [rcT, ext]; exact getD_at hA0_
      obtain ⟨y0, hy0, rfl⟩ := ixB_of h35 (by omega)
      obtain ⟨⟨uy, vy, zy, hy, cy⟩, ty⟩ := get_of hy0
      obtain ⟨ky1, ky2⟩ := okT _ _ _ _ _ _ ty
      obtain ⟨B, hB0_⟩ := get_of ky1
      have hB := hI.2.1.pa ok hB0_
      obtain ⟨hy4, hyT, hy6, hyh⟩ := hI.th ty
      have eyc : (nI y0).toNatClampNeg = y0 := nI_clamp (by omega)
      have eyt : thG Th (nI y0) = (uy, vy, zy, hy, cy) := by rw [thG, eyc, List.getD_eq_getElem?_getD, ty]; rfl
      have eB : rcT Tm Th (nI y0) = B := by rw [rcT, eyt]; exact getD_at hB0_
      have eS : sR12 Ty Tm Th (nI x0) (nI y0) = sRb12 Ty Tm Th x0 y0 hx hy A B := by rw [sR12, h22, h35, exc, eyc, ext, eyt, eA, eB]; rfl
      refine g_aload_n (pc := 40) d_K_rule_40 rfl ?_
      refine g_iload_n (pc := 41) d_K_rule_41 rfl ?_
      refine g_iload_n (pc := 42) d_K_rule_42 rfl ?_
      refine g_iload_n (pc := 43) d_K_rule_43 rfl ?_
      refine g_callV (M' := m_K_isAsTheRuleSays) (pc := 44) (q := 0) d_K_rule_44 lm_K_117 (c_K_isAs_12 x0 cx hx4 hx6 y0 cy hy4 hy6 A hA B hB) v_K_isAsTheRuleSays rfl rfl rfl (by decide) rfl (Nat.le_of_ble_eq_true rfl) ?_
      rintro _ _ ⟨rfl, rfl⟩
      show pG m_K_rule τ _ 0 0 47 _ (.int _ :: _) _
      refine g_ifb_ne (pc := 47) (tgt := 53) d_K_rule_47 (by decide) (fun h47 => ?_) (fun h47 => ?_)
      · refine g_aload_n (pc := 53) d_K_rule_53 rfl ?_
        refine g_iload_n (pc := 54) d_K_rule_54 rfl ?_
        refine g_iload_n (pc := 55) d_K_rule_55 rfl ?_
        refine g_iload_n (pc := 56) d_K_rule_56 rfl ?_
        refine g_callV (M' := m_K_bindsWhatIsAssumed) (pc := 57) (q := 0) d_K_rule_57 lm_K_121 (c_K_binds_12 _ _) v_K_bindsWhatIsAssumed rfl rfl rfl (by decide) rfl (Nat.le_of_ble_eq_true rfl) ?_
        rintro _ _ ⟨rfl, rfl⟩
        show pG m_K_rule τ _ 0 0 60 _ (.int _ :: _) _
        refine g_ifb_eq (pc := 60) (tgt := 66) d_K_rule_60 (by decide) (fun h60 => ?_) (fun h => Bool.noConfusion h)
        refine g_aload_n (pc := 66) d_K_rule_66 rfl ?_
        refine gx_K_book (pc := 67) d_K_rule_67 lf_K_35 ?_
        refine g_callV (M' := m_B_isFull) (pc := 70) (q := 4) d_K_rule_70 lm_K_124 (c_B_isFull Th.length b6 (by omega)) v_B_isFull rfl rfl rfl (by decide) rfl (Nat.le_of_ble_eq_true rfl) ?_
        rintro _ _ ⟨rfl, rfl⟩
        show pG m_K_rule τ _ 0 0 73 _ (.int _ :: _) _
        refine g_ifb_eq (pc := 73) (tgt := 79) d_K_rule_73 (by decide) (fun h73 => ?_) (fun h73 => ?_)
        · refine g_aload_n (pc := 79) d_K_rule_79 rfl ?_
          refine g_iload_n (pc := 80) d_K_rule_80 rfl ?_
          refine g_iload_n (pc := 81) d_K_rule_81 rfl ?_
          refine g_iload_n (pc := 82) d_K_rule_82 rfl ?_
          refine g_callV (M' := m_K_derive) (pc := 83) (q := 0) d_K_rule_83 lm_K_128 (c_K_derive_12 x0 ux vx zx hx cx A tx hA0_ y0 uy vy zy hy cy B ty hB0_ hI ok okT (of_decide_eq_false h73) (of_decide_eq_true h47).1) v_K_derive rfl rfl rfl (by decide) rfl (Nat.le_of_ble_eq_true rfl) ?_
          rintro _ _ ⟨i2, r2, L2, d2, rfl, rfl, hI2⟩
          show pG m_K_rule τ _ 0 0 86 _ (.int _ :: _) _
          refine g_iret (pc := 86) d_K_rule_86 rfl (Nat.le_refl _) (Nat.le_refl _) ?_
          have eZ := eS
          rw [sRb12, if_pos (of_decide_eq_true h47), if_neg (of_decide_eq_false h73)] at eZ
          exact ⟨i2, r2, L2, d2, by rw [eZ], rfl, by rw [eZ]; exact hI2⟩
        · refine g_bipush (pc := 76) (v := -4) d_K_rule_76 (by decide) ?_
          refine g_iret (pc := 78) d_K_rule_78 rfl (Nat.le_refl _) (Nat.le_refl _) ?_
          have eZ : sR12 Ty Tm Th (nI x0) (nI y0) = (-4, Ty, Tm, Th) := by rw [eS, sRb12, if_pos (of_decide_eq_true h47), if_pos (of_decide_eq_true h73)]
          exact ⟨i, r, L, d, by rw [eZ], rfl, by rw [eZ]; exact hI⟩
      · refine g_bipush (pc := 50) (v := -2) d_K_rule_50 (by decide) ?_
        refine g_iret (pc := 52) d_K_rule_52 rfl (Nat.le_refl _) (Nat.le_refl _) ?_
        have eZ : sR12 Ty Tm Th (nI x0) (nI y0) = (-2, Ty, Tm, Th) := by rw [eS, sRb12, if_neg (of_decide_eq_false h47)]
        exact ⟨i, r, L, d, by rw [eZ], rfl, by rw [eZ]; exact hI⟩
    · refine g_iconst (pc := 38) (v := -1) d_K_rule_38 (by decide) ?_
      refine g_iret (pc := 39) d_K_rule_39 rfl (Nat.le_refl _) (Nat.le_refl _) ?_
      have eZ : sR12 Ty Tm Th x y = (-1, Ty, Tm, Th) := by
        first | (rw [sR12, h22]; rfl) | (rw [sR12, h35, Bool.and_false]; rfl)
      exact ⟨i, r, L, d, by rw [eZ], rfl, by rw [eZ]; exact hI⟩
set_option maxRecDepth 100000 in
set_option maxHeartbeats 4000000 in
theorem c_K_rule_13 {τ : Nat × Nat} {a : Nat → Nat} {i : Nat → Int32} {r : Nat → Nat → Int32} {L : Nat → Int64} {wr : pW} {Ty : List (Nat × Nat)} {Tm : List (List Nat)} {Th : List Thm} {d : List Nat} (x y : Int32) (hI : XI Ty Tm Th d i r L) (ok : TmOk Ty Tm) (okT : ThOk Tm Th) : pC m_K_rule τ [.ref (a 0), .int (nI 13), .int x, .int y] (wX a i r L ++ wr) ((fun rr w2 => ∃ i2 r2 L2 d2, rr = some (.int ((sR13 Ty Tm Th x y).1)) ∧ w2 = wX a i2 r2 L2 ++ wr ∧ XI ((sR13 Ty Tm Th x y).2.1) ((sR13 Ty Tm Th x y).2.2.1) ((sR13 Ty Tm Th x y).2.2.2) d2 i2 r2 L2)) := by
  refine pC.of rfl (Nat.le_of_ble_eq_true rfl) ?_
  show pG m_K_rule τ _ 0 0 0 [(0, _), (1, _), (2, _), (3, _)] [] _
  obtain ⟨b1, b2, b3, b4, b5, b6⟩ := hI.b
  refine g_iload_n (pc := 0) d_K_rule_0 rfl ?_
  refine g_nif_lt (pc := 1) (tgt := 10) d_K_rule_1 (by decide) (by omega) ?_
  refine g_iload_n (pc := 4) d_K_rule_4 rfl ?_
  refine g_bipush (pc := 5) (v := nI 14) d_K_rule_5 (by decide) ?_
  refine g_nicmp_lt (pc := 7) (tgt := 12) d_K_rule_7 (by decide) (by omega) (by omega) (fun h7 => ?_) (fun h => absurd h (by decide))
  refine g_aload_n (pc := 12) d_K_rule_12 rfl ?_
  refine g_getsX (pc := 13) d_K_rule_13 lf_K_107 ?_
  refine g_iload_n (pc := 16) d_K_rule_16 rfl ?_
  refine g_saldX (pc := 17) (v := nI 2) d_K_rule_17 (vp_in_nI (by decide) (by decide)) (by decide) ?_
  refine g_iload_n (pc := 18) d_K_rule_18 rfl ?_
  refine g_callV (M' := m_K_isThere) (pc := 19) (q := 0) d_K_rule_19 lm_K_111 (c_K_isThere_2 Th.length b6 (by omega) x) v_K_isThere rfl rfl rfl (by decide) rfl (Nat.le_of_ble_eq_true rfl) ?_
  rintro _ _ ⟨rfl, rfl⟩
  show pG m_K_rule τ _ 0 0 22 _ (.int _ :: _) _
  refine g_ifb_eq (pc := 22) (tgt := 38) d_K_rule_22 (by decide) (fun h22 => ?_) (fun h22 => ?_)
  · refine g_iconst (pc := 38) (v := -1) d_K_rule_38 (by decide) ?_
    refine g_iret (pc := 39) d_K_rule_39 rfl (Nat.le_refl _) (Nat.le_refl _) ?_
    have eZ : sR13 Ty Tm Th x y = (-1, Ty, Tm, Th) := by
      first | (rw [sR13, h22]; rfl) | (rw [sR13, h35, Bool.and_false]; rfl)
    exact ⟨i, r, L, d, by rw [eZ], rfl, by rw [eZ]; exact hI⟩
  · refine g_aload_n (pc := 25) d_K_rule_25 rfl ?_
    refine g_getsY (pc := 26) d_K_rule_26 lf_K_114 ?_
    refine g_iload_n (pc := 29) d_K_rule_29 rfl ?_
    refine g_saldY (pc := 30) (v := nI 3) d_K_rule_30 (vp_in_nI (by decide) (by decide)) (by decide) ?_
    refine g_iload_n (pc := 31) d_K_rule_31 rfl ?_
    refine g_callV (M' := m_K_isThere) (pc := 32) (q := 0) d_K_rule_32 lm_K_111 (c_K_isThere_3 Tm.length b5 (by omega) y) v_K_isThere rfl rfl rfl (by decide) rfl (Nat.le_of_ble_eq_true rfl) ?_
    rintro _ _ ⟨rfl, rfl⟩
    show pG m_K_rule τ _ 0 0 35 _ (.int _ :: _) _
    refine g_ifb_ne (pc := 35) (tgt := 40) d_K_rule_35 (by decide) (fun h35 => ?_) (fun h35 => ?_)
    · obtain ⟨x0, hx0, rfl⟩ := ixB_of h22 (by omega)
      obtain ⟨⟨ux, vx, zx, hx, cx⟩, tx⟩ := get_of hx0
      obtain ⟨kx1, kx2⟩ := okT _ _ _ _ _ _ tx
      obtain ⟨A, hA0_⟩ := get_of kx1
      have hA := hI.2.1.pa ok hA0_
      obtain ⟨hx4, hxT, hx6, hxh⟩ := hI.th tx
      have exc : (nI x0).toNatClampNeg = x0 := nI_clamp (by omega)
      have ext : thG Th (nI x0) = (ux, vx, zx, hx, cx) := by rw [thG, exc, List.getD_eq_getElem?_getD, tx]; rfl
      have eA : rcT Tm Th (nI x0) = A := by rw [rcT, ext]; exact getD_at hA0_
      obtain ⟨y0, hyq, rfl, q1, q2⟩ := prB_of h35
      obtain ⟨B, hB0_⟩ := get_of q1
      obtain ⟨C, hC0_⟩ := get_of q2
      have hB := hI.2.1.pa ok hB0_
      have hC := hI.2.1.pa ok hC0_
      have eyc : (nI y0).toNatClampNeg = y0 := nI_clamp hyq
      have eB := getD_at hB0_
      have eC := getD_at hC0_
      have eS : sR13 Ty Tm Th (nI x0) (nI y0) = sRb13 Ty Tm Th x0 y0 hx A B C := by rw [sR13, h22, h35, exc, eyc, ext, eA, eB, eC]; rfl
      refine g_aload_n (pc := 40) d_K_rule_40 rfl ?_
      refine g_iload_n (pc := 41) d_K_rule_41 rfl ?_
      refine g_iload_n (pc := 42) d_K_rule_42 rfl ?_
      refine g_iload_n (pc := 43) d_K_rule_43 rfl ?_
      refine g_callV (M' := m_K_isAsTheRuleSays) (pc := 44) (q := 0) d_K_rule_44 lm_K_117 (c_K_isAs_13 x0 cx hx4 hx6 y0 hyq A hA B hB C hC) v_K_isAsTheRuleSays rfl rfl rfl (by decide) rfl (Nat.le_of_ble_eq_true rfl) ?_
      rintro _ _ ⟨rfl, rfl⟩
      show pG m_K_rule τ _ 0 0 47 _ (.int _ :: _) _
      refine g_ifb_ne (pc := 47) (tgt := 53) d_K_rule_47 (by decide) (fun h47 => ?_) (fun h47 => ?_)
      · refine g_aload_n (pc := 53) d_K_rule_53 rfl ?_
        refine g_iload_n (pc := 54) d_K_rule_54 rfl ?_
        refine g_iload_n (pc := 55) d_K_rule_55 rfl ?_
        refine g_iload_n (pc := 56) d_K_rule_56 rfl ?_
        refine g_callV (M' := m_K_bindsWhatIsAssumed) (pc := 57) (q := 0) d_K_rule_57 lm_K_121 (c_K_binds_13 _ _) v_K_bindsWhatIsAssumed rfl rfl rfl (by decide) rfl (Nat.le_of_ble_eq_true rfl) ?_
        rintro _ _ ⟨rfl, rfl⟩
        show pG m_K_rule τ _ 0 0 60 _ (.int _ :: _) _
        refine g_ifb_eq (pc := 60) (tgt := 66) d_K_rule_60 (by decide) (fun h60 => ?_) (fun h => Bool.noConfusion h)
        refine g_aload_n (pc := 66) d_K_rule_66 rfl ?_
        refine gx_K_book (pc := 67) d_K_rule_67 lf_K_35 ?_
        refine g_callV (M' := m_B_isFull) (pc := 70) (q := 4) d_K_rule_70 lm_K_124 (c_B_isFull Th.length b6 (by omega)) v_B_isFull rfl rfl rfl (by decide) rfl (Nat.le_of_ble_eq_true rfl) ?_
        rintro _ _ ⟨rfl, rfl⟩
        show pG m_K_rule τ _ 0 0 73 _ (.int _ :: _) _
        refine g_ifb_eq (pc := 73) (tgt := 79) d_K_rule_73 (by decide) (fun h73 => ?_) (fun h73 => ?_)
        · refine g_aload_n (pc := 79) d_K_rule_79 rfl ?_
          refine g_iload_n (pc := 80) d_K_rule_80 rfl ?_
          refine g_iload_n (pc := 81) d_K_rule_81 rfl ?_
          refine g_iload_n (pc := 82) d_K_rule_82 rfl ?_
          refine g_callV (M' := m_K_derive) (pc := 83) (q := 0) d_K_rule_83 lm_K_128 (c_K_derive_13 x0 ux vx zx hx cx A tx hA0_ y0 hyq B C hB0_ hC0_ hI ok okT (of_decide_eq_false h73) (of_decide_eq_true h47).1) v_K_derive rfl rfl rfl (by decide) rfl (Nat.le_of_ble_eq_true rfl) ?_
          rintro _ _ ⟨i2, r2, L2, d2, rfl, rfl, hI2⟩
          show pG m_K_rule τ _ 0 0 86 _ (.int _ :: _) _
          refine g_iret (pc := 86) d_K_rule_86 rfl (Nat.le_refl _) (Nat.le_refl _) ?_
          have eZ := eS
          rw [sRb13, if_pos (of_decide_eq_true h47), if_neg (of_decide_eq_false h73)] at eZ
          exact ⟨i2, r2, L2, d2, by rw [eZ], rfl, by rw [eZ]; exact hI2⟩
        · refine g_bipush (pc := 76) (v := -4) d_K_rule_76 (by decide) ?_
          refine g_iret (pc := 78) d_K_rule_78 rfl (Nat.le_refl _) (Nat.le_refl _) ?_
          have eZ : sR13 Ty Tm Th (nI x0) (nI y0) = (-4, Ty, Tm, Th) := by rw [eS, sRb13, if_pos (of_decide_eq_true h47), if_pos (of_decide_eq_true h73)]
          exact ⟨i, r, L, d, by rw [eZ], rfl, by rw [eZ]; exact hI⟩
      · refine g_bipush (pc := 50) (v := -2) d_K_rule_50 (by decide) ?_
        refine g_iret (pc := 52) d_K_rule_52 rfl (Nat.le_refl _) (Nat.le_refl _) ?_
        have eZ : sR13 Ty Tm Th (nI x0) (nI y0) = (-2, Ty, Tm, Th) := by rw [eS, sRb13, if_neg (of_decide_eq_false h47)]
        exact ⟨i, r, L, d, by rw [eZ], rfl, by rw [eZ]; exact hI⟩
    · refine g_iconst (pc := 38) (v := -1) d_K_rule_38 (by decide) ?_
      refine g_iret (pc := 39) d_K_rule_39 rfl (Nat.le_refl _) (Nat.le_refl _) ?_
      have eZ : sR13 Ty Tm Th x y = (-1, Ty, Tm, Th) := by
        first | (rw [sR13, h22]; rfl) | (rw [sR13, h35, Bool.and_false]; rfl)
      exact ⟨i, r, L, d, by rw [eZ], rfl, by rw [eZ]; exact hI⟩
set_option maxRecDepth 100000 in
set_option maxHeartbeats 4000000 in
theorem c_K_rule_no {τ : Nat × Nat} {a : Nat → Nat} {i : Nat → Int32} {r : Nat → Nat → Int32} {L : Nat → Int64} {wr : pW} (q x y : Int32) (hq : ixB q 14 = false) : pC m_K_rule τ [.ref (a 0), .int q, .int x, .int y] (wX a i r L ++ wr) ((fun rr w2 => rr = some (.int (-1)) ∧ w2 = wX a i r L ++ wr)) := by
  refine pC.of rfl (Nat.le_of_ble_eq_true rfl) ?_
  show pG m_K_rule τ _ 0 0 0 [(0, _), (1, _), (2, _), (3, _)] [] _
  refine g_iload_n (pc := 0) d_K_rule_0 rfl ?_
  refine g_if_lt (pc := 1) (tgt := 10) d_K_rule_1 (by decide) (fun h1 => ?_) (fun h1 => ?_)
  · refine g_iconst (pc := 10) (v := -1) d_K_rule_10 (by decide) ?_
    refine g_iret (pc := 11) d_K_rule_11 rfl (Nat.le_refl _) (Nat.le_refl _) ?_
    exact ⟨rfl, rfl⟩
  · refine g_iload_n (pc := 4) d_K_rule_4 rfl ?_
    refine g_bipush (pc := 5) (v := nI 14) d_K_rule_5 (by decide) ?_
    refine g_icmp_lt (pc := 7) (tgt := 12) d_K_rule_7 (by decide) (fun h => absurd (ixB_in (n := 14) (by decide) h1 (fun e => by rw [Int32.le_iff_toInt_le] at e; rw [Int32.lt_iff_toInt_lt] at h; omega)) (by rw [hq]; decide)) (fun h7 => ?_)
    refine g_iconst (pc := 10) (v := -1) d_K_rule_10 (by decide) ?_
    refine g_iret (pc := 11) d_K_rule_11 rfl (Nat.le_refl _) (Nat.le_refl _) ?_
    exact ⟨rfl, rfl⟩
