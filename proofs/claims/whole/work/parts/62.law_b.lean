/-! The law: its loop, its start. By wip/whole/m_law3.py -/
theorem lw_lt {Ln i : Nat} (hL : Ln ≤ 2048) (hi : i ≤ 3000) (h : Ln < i + 4) : nI Ln - nI 4 < nI i := by
  by_cases q : 4 ≤ Ln
  · rw [pk_sub q]
    exact nI_lt (by omega) (by omega)
  · have h0 : nI Ln - nI 4 < 0 := by
      rcases (show Ln = 0 ∨ Ln = 1 ∨ Ln = 2 ∨ Ln = 3 by omega) with rfl | rfl | rfl | rfl <;> decide
    have h1 : 0 ≤ nI i := nI_pos' (by omega)
    rw [Int32.lt_iff_toInt_lt] at h0 ⊢
    rw [Int32.le_iff_toInt_le] at h1
    omega
theorem lw_ge {Ln i : Nat} (hL : Ln ≤ 2048) (h : i + 4 ≤ Ln) : ¬ nI Ln - nI 4 < nI i := by
  rw [pk_sub (by omega), nI_ltI (by omega) (by omega)]
  omega
theorem lw_and (x : Int32) : ∃ q, q < 32 ∧ x &&& nI 31 = nI q := by
  obtain ⟨n, hn, rfl⟩ := wb_of32 x
  exact ⟨n % 2 ^ 5, Nat.mod_lt _ (by decide), pk_andN hn 5 (by decide)⟩
set_option maxRecDepth 100000 in
set_option maxHeartbeats 4000000 in
theorem law_exit {p : Program} {l : Launch} {e : Env} {s : State} {m : MethodId} {below : List Frame} {meth : Method} {c : Code} {b Ln : Nat} {xs : Nat → Int32} {D : va_G} {cI cJ : ClassId} {A : Nat → Prop} {QQ : State → Prop} {τ : Nat × Nat} (C : pCx (m_law meth.name) τ p s m #[Value.ref b] meth c D cI cJ A) (hX : va_X b Ln xs s s.heap) (hbl : b < s.heap.size) (hbA : ¬ A b) (hL : Ln ≤ 2048) {aX aM : Nat → Nat} {iX : Nat → Int32} {rX : Nat → Nat → Int32} {LX : Nat → Int64} {iM : Nat → Int32} {rM : Nat → Nat → Int32} {LM : Nat → Nat → Int64} {zM : Int64} (i : Nat) (hi : i ≤ 3000) (hq : Ln < i + 4) (kk : pH p l e s m #[Value.ref b] below meth c D cI cJ A QQ 30 5664 648 [(3, .int (nI i)), (2, .ref (aM 0)), (1, .ref (aX 0)), (0, .ref b)] [.int 1] (wX aX iX rX LX ++ wM aM iM rM LM zM)) : pH p l e s m #[Value.ref b] below meth c D cI cJ A QQ 30 5664 18 [(3, .int (nI i)), (2, .ref (aM 0)), (1, .ref (aX 0)), (0, .ref b)] [] (wX aX iX rX LX ++ wM aM iM rM LM zM) := by
  refine h_iload_n C (pc := 18) d_law_18 rfl ?_
  refine h_aload_n C (pc := 19) d_law_19 rfl ?_
  refine h_slen C hX hbl hbA (pc := 20) d_law_20 ?_
  refine h_iconst C (pc := 21) (v := nI 4) d_law_21 (by decide) ?_
  refine h_isub C (pc := 22) d_law_22 ?_
  refine h_icmp_gt C (pc := 23) (tgt := 647) d_law_23 (by decide) (fun _ => ?_) (fun h => absurd (lw_lt hL hi hq) h)
  refine h_iconst C (pc := 647) (v := 1) d_law_647 (by decide) ?_
  exact kk
set_option maxRecDepth 100000 in
set_option maxHeartbeats 4000000 in
theorem law_step {p : Program} {l : Launch} {e : Env} {s : State} {m : MethodId} {below : List Frame} {meth : Method} {c : Code} {b Ln : Nat} {xs : Nat → Int32} {D : va_G} {cI cJ : ClassId} {A : Nat → Prop} {QQ : State → Prop} {τ : Nat × Nat} (C : pCx (m_law meth.name) τ p s m #[Value.ref b] meth c D cI cJ A) (hX : va_X b Ln xs s s.heap) (hbl : b < s.heap.size) (hbA : ¬ A b) (hL : Ln ≤ 2048) (i : Nat) (hi : i + 4 ≤ Ln) {Ty : List (Nat × Nat)} {Tm : List (List Nat)} {Th : List Thm} {dX dM : List Nat} {aX : Nat → Nat} {iX : Nat → Int32} {rX : Nat → Nat → Int32} {LX : Nat → Int64} {aM : Nat → Nat} {iM : Nat → Int32} {rM : Nat → Nat → Int32} {LM : Nat → Nat → Int64} {zM : Int64} (hXI : XI Ty Tm Th dX iX rX LX) (hMI : MI Ty Tm Th (dcl Tm) dM iM rM LM) (gs : GS Ty Tm Th) (kk : ∀ (Ty : List (Nat × Nat)) (Tm : List (List Nat)) (Th : List Thm) (dX dM : List Nat) (iX : Nat → Int32) (rX : Nat → Nat → Int32) (LX : Nat → Int64) (iM : Nat → Int32) (rM : Nat → Nat → Int32) (LM : Nat → Nat → Int64) (zM : Int64), XI Ty Tm Th dX iX rX LX → MI Ty Tm Th (dcl Tm) dM iM rM LM → GS Ty Tm Th → pH p l e s m #[Value.ref b] below meth c D cI cJ A QQ 30 5664 18 [(3, .int (nI (i + 4))), (2, .ref (aM 0)), (1, .ref (aX 0)), (0, .ref b)] [] (wX aX iX rX LX ++ wM aM iM rM LM zM)) : pH p l e s m #[Value.ref b] below meth c D cI cJ A QQ 30 5664 18 [(3, .int (nI i)), (2, .ref (aM 0)), (1, .ref (aX 0)), (0, .ref b)] [] (wX aX iX rX LX ++ wM aM iM rM LM zM) := by
  have k2 : ∀ (Ty : List (Nat × Nat)) (Tm : List (List Nat)) (Th : List Thm) (dX dM : List Nat) (iX : Nat → Int32) (rX : Nat → Nat → Int32) (LX : Nat → Int64) (iM : Nat → Int32) (rM : Nat → Nat → Int32) (LM : Nat → Nat → Int64) (zM : Int64), XI Ty Tm Th dX iX rX LX → MI Ty Tm Th (dcl Tm) dM iM rM LM → GS Ty Tm Th → pH p l e s m #[Value.ref b] below meth c D cI cJ A QQ 30 5664 641 [(3, .int (nI i)), (2, .ref (aM 0)), (1, .ref (aX 0)), (0, .ref b)] [] (wX aX iX rX LX ++ wM aM iM rM LM zM) := by
    intro Ty Tm Th dX dM iX rX LX iM rM LM zM h1 h2 h3
    refine h_niinc C (pc := 641) (d := 4) [(3, _), (2, _), (1, _), (0, _)] d_law_641 rfl (by decide) rfl ?_
    refine h_goto C (pc := 644) (tgt := 18) d_law_644 (by decide) ?_
    exact kk _ _ _ _ _ _ _ _ _ _ _ _ h1 h2 h3
  refine h_iload_n C (pc := 18) d_law_18 rfl ?_
  refine h_aload_n C (pc := 19) d_law_19 rfl ?_
  refine h_slen C hX hbl hbA (pc := 20) d_law_20 ?_
  refine h_iconst C (pc := 21) (v := nI 4) d_law_21 (by decide) ?_
  refine h_isub C (pc := 22) d_law_22 ?_
  refine h_icmp_gt C (pc := 23) (tgt := 647) d_law_23 (by decide) (fun h => absurd h (lw_ge hL hi)) (fun _ => ?_)
  refine h_aload_n C (pc := 26) d_law_26 rfl ?_
  refine h_iload_n C (pc := 27) d_law_27 rfl ?_
  refine h_sld C hX hbl hbA (pc := 28) (v := xs i) d_law_28 (vp_in_nI (by omega) (by omega)) (by rw [nI_clamp (by omega)]) ?_
  refine h_bipush C (pc := 29) (v := nI 31) d_law_29 (by decide) ?_
  refine h_iand C (pc := 31) d_law_31 ?_
  obtain ⟨q, hq, he⟩ := lw_and (xs i)
  rw [he]
  rcases (show q = 0 ∨ q = 1 ∨ q = 2 ∨ q = 3 ∨ q = 4 ∨ q = 5 ∨ q = 6 ∨ q = 7 ∨ q = 8 ∨ q = 9 ∨ q = 10 ∨ q = 11 ∨ q = 12 ∨ q = 13 ∨ q = 14 ∨ q = 15 ∨ q = 16 ∨ 17 ≤ q by omega) with rfl | rfl | rfl | rfl | rfl | rfl | rfl | rfl | rfl | rfl | rfl | rfl | rfl | rfl | rfl | rfl | rfl | hq17
  · refine h_tableIn C (pc := 32) (tgt := 116) d_law_32 (by decide) (by decide) rfl (by decide) ?_
    exact law_arrow C hX hbl hbA hL i hi hXI hMI gs k2
  · refine h_tableIn C (pc := 32) (tgt := 149) d_law_32 (by decide) (by decide) rfl (by decide) ?_
    exact law_variable C hX hbl hbA hL i hi hXI hMI gs k2
  · refine h_tableIn C (pc := 32) (tgt := 182) d_law_32 (by decide) (by decide) rfl (by decide) ?_
    exact law_constant C hX hbl hbA hL i hi hXI hMI gs k2
  · refine h_tableIn C (pc := 32) (tgt := 215) d_law_32 (by decide) (by decide) rfl (by decide) ?_
    exact law_apply C hX hbl hbA hL i hi hXI hMI gs k2
  · refine h_tableIn C (pc := 32) (tgt := 248) d_law_32 (by decide) (by decide) rfl (by decide) ?_
    by_cases hal : xs (i + 1) = 0
    · exact law_bind_0 C hX hbl hbA hL i hi hXI hMI gs k2 hal
    · exact law_bind_1 C hX hbl hbA hL i hi hXI hMI gs k2 hal
  · refine h_tableIn C (pc := 32) (tgt := 307) d_law_32 (by decide) (by decide) rfl (by decide) ?_
    by_cases hal : xs (i + 1) = 0
    · exact law_join_0 C hX hbl hbA hL i hi hXI hMI gs k2 hal
    · exact law_join_1 C hX hbl hbA hL i hi hXI hMI gs k2 hal
  · refine h_tableIn C (pc := 32) (tgt := 366) d_law_32 (by decide) (by decide) rfl (by decide) ?_
    cases hq14 : ixB (xs (i + 1)) 14 with
    | false => exact law_rule_no C hX hbl hbA hL i hi hXI hMI gs k2 hq14
    | true =>
      obtain ⟨R, hR, hRe⟩ := ixB_of hq14 (by decide)
      rcases (show R = 0 ∨ R = 1 ∨ R = 2 ∨ R = 3 ∨ R = 4 ∨ R = 5 ∨ R = 6 ∨ R = 7 ∨ R = 8 ∨ R = 9 ∨ R = 10 ∨ R = 11 ∨ R = 12 ∨ R = 13 by omega) with rfl | rfl | rfl | rfl | rfl | rfl | rfl | rfl | rfl | rfl | rfl | rfl | rfl | rfl
      · exact law_rule_0 C hX hbl hbA hL i hi hXI hMI gs k2 hRe
      · exact law_rule_1 C hX hbl hbA hL i hi hXI hMI gs k2 hRe
      · exact law_rule_2 C hX hbl hbA hL i hi hXI hMI gs k2 hRe
      · exact law_rule_3 C hX hbl hbA hL i hi hXI hMI gs k2 hRe
      · exact law_rule_4 C hX hbl hbA hL i hi hXI hMI gs k2 hRe
      · exact law_rule_5 C hX hbl hbA hL i hi hXI hMI gs k2 hRe
      · exact law_rule_6 C hX hbl hbA hL i hi hXI hMI gs k2 hRe
      · exact law_rule_7 C hX hbl hbA hL i hi hXI hMI gs k2 hRe
      · exact law_rule_8 C hX hbl hbA hL i hi hXI hMI gs k2 hRe
      · exact law_rule_9 C hX hbl hbA hL i hi hXI hMI gs k2 hRe
      · exact law_rule_10 C hX hbl hbA hL i hi hXI hMI gs k2 hRe
      · exact law_rule_11 C hX hbl hbA hL i hi hXI hMI gs k2 hRe
      · exact law_rule_12 C hX hbl hbA hL i hi hXI hMI gs k2 hRe
      · exact law_rule_13 C hX hbl hbA hL i hi hXI hMI gs k2 hRe
  · refine h_tableIn C (pc := 32) (tgt := 409) d_law_32 (by decide) (by decide) rfl (by decide) ?_
    exact law_terms C hX hbl hbA hL i hi hXI hMI gs k2
  · refine h_tableIn C (pc := 32) (tgt := 422) d_law_32 (by decide) (by decide) rfl (by decide) ?_
    exact law_theorems C hX hbl hbA hL i hi hXI hMI gs k2
  · refine h_tableIn C (pc := 32) (tgt := 435) d_law_32 (by decide) (by decide) rfl (by decide) ?_
    exact law_typeOf C hX hbl hbA hL i hi hXI hMI gs k2
  · refine h_tableIn C (pc := 32) (tgt := 458) d_law_32 (by decide) (by decide) rfl (by decide) ?_
    exact law_size C hX hbl hbA hL i hi hXI hMI gs k2
  · refine h_tableIn C (pc := 32) (tgt := 481) d_law_32 (by decide) (by decide) rfl (by decide) ?_
    exact law_free C hX hbl hbA hL i hi hXI hMI gs k2
  · refine h_tableIn C (pc := 32) (tgt := 514) d_law_32 (by decide) (by decide) rfl (by decide) ?_
    exact law_printed C hX hbl hbA hL i hi hXI hMI gs k2
  · refine h_tableIn C (pc := 32) (tgt := 547) d_law_32 (by decide) (by decide) rfl (by decide) ?_
    exact law_conclusion C hX hbl hbA hL i hi hXI hMI gs k2
  · refine h_tableIn C (pc := 32) (tgt := 570) d_law_32 (by decide) (by decide) rfl (by decide) ?_
    exact law_hypotheses C hX hbl hbA hL i hi hXI hMI gs k2
  · refine h_tableIn C (pc := 32) (tgt := 594) d_law_32 (by decide) (by decide) rfl (by decide) ?_
    exact law_axioms C hX hbl hbA hL i hi hXI hMI gs k2
  · refine h_tableIn C (pc := 32) (tgt := 618) d_law_32 (by decide) (by decide) rfl (by decide) ?_
    exact law_steps C hX hbl hbA hL i hi hXI hMI gs k2
  · refine h_tableOut C (pc := 32) (tgt := 641) d_law_32 (Or.inr (by rw [nI_toInt (by omega)]; omega)) (by decide) ?_
    exact k2 _ _ _ _ _ _ _ _ _ _ _ _ hXI hMI gs
theorem law_loop {p : Program} {l : Launch} {e : Env} {s : State} {m : MethodId} {below : List Frame} {meth : Method} {c : Code} {b Ln : Nat} {xs : Nat → Int32} {D : va_G} {cI cJ : ClassId} {A : Nat → Prop} {QQ : State → Prop} {τ : Nat × Nat} (C : pCx (m_law meth.name) τ p s m #[Value.ref b] meth c D cI cJ A) (hX : va_X b Ln xs s s.heap) (hbl : b < s.heap.size) (hbA : ¬ A b) (hL : Ln ≤ 2048) {aX aM : Nat → Nat} (fin : ∀ (i : Nat) (iX : Nat → Int32) (rX : Nat → Nat → Int32) (LX : Nat → Int64) (iM : Nat → Int32) (rM : Nat → Nat → Int32) (LM : Nat → Nat → Int64) (zM : Int64), pH p l e s m #[Value.ref b] below meth c D cI cJ A QQ 30 5664 648 [(3, .int (nI i)), (2, .ref (aM 0)), (1, .ref (aX 0)), (0, .ref b)] [.int 1] (wX aX iX rX LX ++ wM aM iM rM LM zM)) : ∀ (f i : Nat), Ln - i ≤ f → i ≤ Ln → ∀ (Ty : List (Nat × Nat)) (Tm : List (List Nat)) (Th : List Thm) (dX dM : List Nat) (iX : Nat → Int32) (rX : Nat → Nat → Int32) (LX : Nat → Int64) (iM : Nat → Int32) (rM : Nat → Nat → Int32) (LM : Nat → Nat → Int64) (zM : Int64), XI Ty Tm Th dX iX rX LX → MI Ty Tm Th (dcl Tm) dM iM rM LM → GS Ty Tm Th → pH p l e s m #[Value.ref b] below meth c D cI cJ A QQ 30 5664 18 [(3, .int (nI i)), (2, .ref (aM 0)), (1, .ref (aX 0)), (0, .ref b)] [] (wX aX iX rX LX ++ wM aM iM rM LM zM) := by
  intro f
  induction f with
  | zero =>
    intro i hf hi Ty Tm Th dX dM iX rX LX iM rM LM zM h1 h2 h3
    exact law_exit C hX hbl hbA hL i (by omega) (by omega) (fin i _ _ _ _ _ _ _)
  | succ f ih =>
    intro i hf hi Ty Tm Th dX dM iX rX LX iM rM LM zM h1 h2 h3
    by_cases q : i + 4 ≤ Ln
    · exact law_step C hX hbl hbA hL i q h1 h2 h3 (fun Ty Tm Th dX dM iX rX LX iM rM LM zM g1 g2 g3 => ih (i + 4) (by omega) (by omega) Ty Tm Th dX dM iX rX LX iM rM LM zM g1 g2 g3)
    · exact law_exit C hX hbl hbA hL i (by omega) (by omega) (fin i _ _ _ _ _ _ _)
set_option maxRecDepth 100000 in
set_option maxHeartbeats 4000000 in
theorem law_start {p : Program} {l : Launch} {e : Env} {s : State} {m : MethodId} {below : List Frame} {meth : Method} {c : Code} {b Ln : Nat} {xs : Nat → Int32} {D : va_G} {cI cJ : ClassId} {A : Nat → Prop} {QQ : State → Prop} {τ : Nat × Nat} (C : pCx (m_law meth.name) τ p s m #[Value.ref b] meth c D cI cJ A) (hX : va_X b Ln xs s s.heap) (hbl : b < s.heap.size) (hbA : ¬ A b) (hL : Ln ≤ 2048) (fin : ∀ (aX aM : Nat → Nat) (i : Nat) (iX : Nat → Int32) (rX : Nat → Nat → Int32) (LX : Nat → Int64) (iM : Nat → Int32) (rM : Nat → Nat → Int32) (LM : Nat → Nat → Int64) (zM : Int64), pH p l e s m #[Value.ref b] below meth c D cI cJ A QQ 30 5664 648 [(3, .int (nI i)), (2, .ref (aM 0)), (1, .ref (aX 0)), (0, .ref b)] [.int 1] (wX aX iX rX LX ++ wM aM iM rM LM zM)) : pH p l e s m #[Value.ref b] below meth c D cI cJ A QQ 0 0 0 [(0, .ref b)] [] [] := by
  refine h_new C (pc := 0) (Cn := R_K) (ci := 0) (T := F_K) (N := 4) (fs := [.null, .null, .null, .null]) (ft := ft_K) d_law_0 lc_L_7 ins_K ini_K rfl in_K ft_K_ok (fun j hj => by rcases (show j = 0 ∨ j = 1 ∨ j = 2 ∨ j = 3 by omega) with rfl | rfl | rfl | rfl <;> rfl) (Nat.le_of_ble_eq_true rfl) (Nat.le_of_ble_eq_true rfl) (fun k0 => ?_)
  show pH p l e s m #[Value.ref b] below meth c D cI cJ A QQ 1 4 3 _ _ ([(k0, .inr (.inr (0, [.null, .null, .null, .null])))] ++ [])
  refine h_dup C (pc := 3) d_law_3 rfl ?_
  refine h_callI C (M' := m_K_init) (pc := 4) d_law_4 lm_L_9 (c_K_init k0) v_K_init rfl (by decide) rfl (Nat.le_of_ble_eq_true rfl) ?_
  rintro _ _ ⟨aX, iX, rX, LX, rfl, rfl, rfl, hXI⟩
  rw [List.append_nil]
  show pH p l e s m #[Value.ref b] below meth c D cI cJ A QQ 17 2214 7 _ (.ref _ :: _) (wX aX iX rX LX)
  refine h_astore_n C (pc := 7) [(1, _), (0, _)] d_law_7 (by decide) rfl ?_
  refine h_new C (pc := 8) (Cn := R_M) (ci := 5) (T := F_M) (N := 18) (fs := [.null, .int 0, .int 0, .null, .null, .null, .int 0, .null, .null, .null, .int 0, .null, .null, .null, .null, .long 0, .null, .int 0]) (ft := ft_M) d_law_8 lc_L_10 ins_M ini_M rfl in_M ft_M_ok (fun j hj => by rcases (show j = 0 ∨ j = 1 ∨ j = 2 ∨ j = 3 ∨ j = 4 ∨ j = 5 ∨ j = 6 ∨ j = 7 ∨ j = 8 ∨ j = 9 ∨ j = 10 ∨ j = 11 ∨ j = 12 ∨ j = 13 ∨ j = 14 ∨ j = 15 ∨ j = 16 ∨ j = 17 by omega) with rfl | rfl | rfl | rfl | rfl | rfl | rfl | rfl | rfl | rfl | rfl | rfl | rfl | rfl | rfl | rfl | rfl | rfl <;> rfl) (Nat.le_of_ble_eq_true rfl) (Nat.le_of_ble_eq_true rfl) (fun m0 => ?_)
  refine h_perm C List.perm_append_comm ?_
  show pH p l e s m #[Value.ref b] below meth c D cI cJ A QQ 18 2232 11 _ _ ([(m0, .inr (.inr (5, [.null, .int 0, .int 0, .null, .null, .null, .int 0, .null, .null, .null, .int 0, .null, .null, .null, .null, .long 0, .null, .int 0])))] ++ wX aX iX rX LX)
  refine h_dup C (pc := 11) d_law_11 rfl ?_
  refine h_callI C (M' := m_M_init) (pc := 12) d_law_12 lm_L_12 (c_M_init m0) v_M_init rfl (by decide) rfl (Nat.le_of_ble_eq_true rfl) ?_
  rintro _ _ ⟨aM, iM, rM, LM, zM, rfl, rfl, rfl, hMI⟩
  refine h_perm C List.perm_append_comm ?_
  show pH p l e s m #[Value.ref b] below meth c D cI cJ A QQ 30 5664 15 _ (.ref _ :: _) (wX aX iX rX LX ++ wM aM iM rM LM zM)
  refine h_astore_n C (pc := 15) [(2, _), (1, _), (0, _)] d_law_15 (by decide) rfl ?_
  refine h_iconst C (pc := 16) (v := nI 0) d_law_16 (by decide) ?_
  refine h_istore_n C (pc := 17) [(3, _), (2, _), (1, _), (0, _)] d_law_17 (by decide) rfl ?_
  exact law_loop C hX hbl hbA hL (fin aX aM) Ln 0 (by omega) (Nat.zero_le _) _ _ _ _ _ _ _ _ _ _ _ _ hXI hMI GS_0
