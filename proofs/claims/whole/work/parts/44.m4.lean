/-! The reference: the calls but rule. By wip/whole/m_m4.py -/
/-- the theorems' conclusions are of type 0 -/
def TG (Tm : List (List Nat)) (Th : List Thm) : Prop := ∀ (k rl x y h c : Nat), Th[k]? = some (rl, x, y, h, c) → (∃ A, Tm[c]? = some A ∧ tyR A = 0) ∧ ∀ t : Nat, h.testBit t = true → t < Tm.length
def GS (Ty : List (Nat × Nat)) (Tm : List (List Nat)) (Th : List Thm) : Prop := WG Ty Tm (dcl Tm) ∧ TG Tm Th
theorem dcl_app {Ty : List (Nat × Nat)} {Tm : List (List Nat)} {e : Nat} {d : List Nat} (h : WT Ty (dcl Tm) e d) : dcl (Tm ++ [d]) = dcl Tm := by
  funext n
  unfold dcl
  rw [List.find?_append]
  cases hf : Tm.find? (fun row => decide (tgR row = 1) && decide (inR row = n)) with
  | some row => rfl
  | none =>
    have hn : dcl Tm n = none := by unfold dcl; rw [hf]; rfl
    have : ¬ (tgR d = 1 ∧ inR d = n) := by
      rintro ⟨q1, q2⟩
      cases d with
      | nil => exact h.elim
      | cons t q =>
        have q1 : t / 512 = 1 := q1
        have q2 : t / 16 % 32 = n := q2
        obtain ⟨-, h⟩ := h
        rcases h with ⟨h1, h⟩ | ⟨h1, h2, h⟩ | ⟨h1, h2, h⟩ | ⟨h1, b, h2, h⟩ | ⟨h1, h2, h⟩ | ⟨h1, f, z, h2, h⟩ | ⟨h1, h2, h⟩ | ⟨h1, h2, z, h⟩ <;> try omega
        rw [q2, hn] at h2
        cases h2
    have e2 : (decide (tgR d = 1) && decide (inR d = n)) = false := by
      rw [Bool.and_eq_false_iff, decide_eq_false_iff_not, decide_eq_false_iff_not]
      by_cases q : tgR d = 1
      · exact Or.inr (fun q2 => this ⟨q, q2⟩)
      · exact Or.inl q
    simp [List.find?, e2]
theorem dcl_keep {Ty : List (Nat × Nat)} {Tm : List (List Nat)} {e : Nat} {d : List Nat} (h : d.length ≤ 30 → WT Ty (dcl Tm) e d) (hl : Tm.length ≤ 60) : dcl (sKeep Tm d).2 = dcl Tm := by
  by_cases c : (sKeep Tm d).1 = -4
  · rw [sKeep_m4 c hl]
  · obtain ⟨t, -, -, -, -, h30, -, -, -, hc⟩ := sKeep_nI c hl
    rcases hc with hc | hc
    · rw [hc]
    · rw [hc]; exact dcl_app (h h30)
theorem snoc_at {α : Type} {l : List α} {x y : α} {j : Nat} (h : (l ++ [x])[j]? = some y) : l[j]? = some y ∨ y = x := by
  by_cases c : j < l.length
  · rw [List.getElem?_append_left c] at h; exact Or.inl h
  · rw [List.getElem?_append_right (by omega)] at h
    have hz : j - l.length < 1 := (List.getElem?_eq_some_iff.mp h).1
    rw [show j - l.length = 0 by omega] at h
    exact Or.inr (by simpa using h.symm)
theorem WG.keep {Ty : List (Nat × Nat)} {Tm : List (List Nat)} {Cn : Nat → Option Nat} {e : Nat} {d : List Nat} (wg : WG Ty Tm Cn) (h : d.length ≤ 30 → WT Ty Cn e d) (hl : Tm.length ≤ 60) : WG Ty (sKeep Tm d).2 Cn := by
  by_cases c : (sKeep Tm d).1 = -4
  · rw [sKeep_m4 c hl]; exact wg
  · obtain ⟨t, -, -, -, -, h30, -, -, -, hc⟩ := sKeep_nI c hl
    rcases hc with hc | hc
    · rw [hc]; exact wg
    · rw [hc]
      refine ⟨wg.1, wg.2.1, fun t row ht => ?_⟩
      rcases snoc_at ht with q | q
      · exact wg.2.2 t row q
      · rw [q, (h h30).ty]
        exact ⟨h h30, h30⟩
theorem TG.keep {Tm : List (List Nat)} {Th : List Thm} (d : List Nat) (tg : TG Tm Th) (hl : Tm.length ≤ 60) : TG (sKeep Tm d).2 Th := by
  by_cases c : (sKeep Tm d).1 = -4
  · rw [sKeep_m4 c hl]; exact tg
  · obtain ⟨t, -, -, -, -, -, hp, -, hle, -⟩ := sKeep_nI c hl
    intro k rl x y h c hk
    obtain ⟨⟨A, hA, h0⟩, hb⟩ := tg k rl x y h c hk
    exact ⟨⟨A, hp _ _ hA, h0⟩, fun t ht => Nat.lt_of_lt_of_le (hb t ht) hle⟩
theorem GS.keep {Ty : List (Nat × Nat)} {Tm : List (List Nat)} {Th : List Thm} {e : Nat} {d : List Nat} (gs : GS Ty Tm Th) (h : d.length ≤ 30 → WT Ty (dcl Tm) e d) (hl : Tm.length ≤ 60) : GS Ty (sKeep Tm d).2 Th := by
  refine ⟨?_, gs.2.keep d hl⟩
  rw [dcl_keep h hl]
  exact gs.1.keep h hl
theorem MI.keep {Ty : List (Nat × Nat)} {Tm : List (List Nat)} {Th : List Thm} {e : Nat} {d d2 : List Nat} {i : Nat → Int32} {r : Nat → Nat → Int32} {L : Nat → Nat → Int64} (hI : MI Ty (sKeep Tm d).2 Th (dcl Tm) d2 i r L) (h : d.length ≤ 30 → WT Ty (dcl Tm) e d) (hl : Tm.length ≤ 60) : MI Ty (sKeep Tm d).2 Th (dcl (sKeep Tm d).2) d2 i r L := by
  rw [dcl_keep h hl]
  exact hI
theorem mu_0 {i y : Nat} (hi : i < 32) (hy : y < 16) : mu (tok 0 i y) = 64 + 16 * i + y := by unfold mu; rw [tok_tg hi hy, tok_in hi hy, tok_ty hy]; rfl
theorem mu_1 {i y : Nat} (hi : i < 32) (hy : y < 16) : mu (tok 1 i y) = 240 + i := by unfold mu; rw [tok_tg hi hy, tok_in hi hy]; rfl
theorem mu_3 {i y : Nat} (hi : i < 32) (hy : y < 16) : mu (tok 3 i y) = 16 + i := by unfold mu; rw [tok_tg hi hy, tok_in hi hy]; rfl
theorem mu_4 {i y : Nat} (hi : i < 32) (hy : y < 16) : mu (tok 4 i y) = 32 + i := by unfold mu; rw [tok_tg hi hy, tok_in hi hy]; rfl
theorem mu_5 {y : Nat} (hy : y < 16) : mu (tok 5 0 y) = 1 := by unfold mu; rw [tok_tg (by decide) hy]; rfl
theorem mu_6 : mu (tok 6 0 0) = 2 := by decide
theorem mu_7 : mu (tok 7 0 0) = 3 := by decide
theorem mtks {Ty : List (Nat × Nat)} {i : Nat → Int32} {r : Nat → Nat → Int32} {f x : Nat} (h : MT Ty i r) (hf : f < 3 + Ty.length) (hx : x < 16) : decide (2 < f ∧ r 4 f = nI x) = tks Ty f x := by
  obtain ⟨h0, h1, h3⟩ := h
  unfold tks arw
  by_cases c : 3 ≤ f
  · rw [if_pos c]
    obtain ⟨p, hp⟩ : ∃ p, Ty[f - 3]? = some p := ⟨_, List.getElem?_eq_getElem (by omega)⟩
    obtain ⟨⟨g1, -⟩, g2, -⟩ := h3 _ _ hp
    rw [show 3 + (f - 3) = f by omega] at g1
    rw [hp, g1]
    simp only [nI_eq (show p.1 < 2 ^ 31 by omega) (show x < 2 ^ 31 by omega)]
    simp
    omega
  · rw [if_neg c, decide_eq_false_iff_not]
    omega
theorem tks_arw {Ty : List (Nat × Nat)} {f x : Nat} (h : tks Ty f x = true) : arw Ty f = some (x, res Ty f) := by
  unfold tks at h
  unfold res
  cases e : arw Ty f with
  | none => rw [e] at h; simp at h
  | some p =>
    rw [e] at h
    have : p.1 = x := by simpa using h
    rw [← this]
theorem arw_mem {Ty : List (Nat × Nat)} {t : Nat} {p : Nat × Nat} (h : arw Ty t = some p) : p ∈ Ty ∧ t < 3 + Ty.length := by
  unfold arw at h
  split at h
  · exact ⟨List.mem_of_getElem? h, by have := (List.getElem?_eq_some_iff.mp h).1; omega⟩
  · cases h
theorem GS.row {Ty : List (Nat × Nat)} {Tm : List (List Nat)} {Th : List Thm} {t : Nat} {row : List Nat} (gs : GS Ty Tm Th) (h : Tm[t]? = some row) : WT Ty (dcl Tm) (tyR row) row := (gs.1.2.2 t row h).1
theorem WT.lt {Ty : List (Nat × Nat)} {Cn : Nat → Option Nat} {e : Nat} {r : List Nat} (h : WT Ty Cn e r) : e < 3 + Ty.length := chk_lt h
theorem WT_sAp {Ty : List (Nat × Nat)} {Tm : List (List Nat)} {Th : List Thm} {A B : List Nat} {x f : Nat} (gs : GS Ty Tm Th) (hT : Ty.length ≤ 13) (hA : WT Ty (dcl Tm) f A) (hB : WT Ty (dcl Tm) x B) (h : tks Ty f x = true) : WT Ty (dcl Tm) (res Ty f) (sAp Ty A B) ∧ res Ty f < 16 := by
  have h1 := tks_arw h
  have h2 := (gs.1.2.1 _ (arw_mem h1).1).2
  refine ⟨?_, by omega⟩
  unfold sAp
  rw [hA.ty]
  exact WT_app hA hB h1 (by omega) h2
theorem GS_num {Ty : List (Nat × Nat)} {Tm : List (List Nat)} {Cn : Nat → Option Nat} {f t : Nat} (wg : WG Ty Tm Cn) (hf : f < 3 + Ty.length) (ht : t < 3 + Ty.length) : WG (sNum Ty f t).2 Tm Cn ∧ ext Ty (sNum Ty f t).2 := by
  cases e : fnd Ty (f, t) with
  | some j => rw [sNum_some e]; exact ⟨wg, ext.rf⟩
  | none =>
    by_cases q : Ty.length = 13
    · rw [sNum_full e q]; exact ⟨wg, ext.rf⟩
    · rw [sNum_new e q]
      have hx : ext Ty (Ty ++ [(f, t)]) := ⟨by simp, fun z p hz => by rw [List.getElem?_append_left (List.getElem?_eq_some_iff.mp hz).1]; exact hz⟩
      refine ⟨⟨?_, ?_, fun t row ht => ⟨chk_mono hx (fun _ _ h => h) cle_rf (wg.2.2 t row ht).1, (wg.2.2 t row ht).2⟩⟩, hx⟩
      · rw [List.nodup_append]
        refine ⟨wg.1, by simp, fun p hp q hq => ?_⟩
        have : q = (f, t) := by simpa using hq
        subst this
        exact fun h => fnd_not e (h ▸ hp)
      · intro p hp
        rcases List.mem_append.mp hp with hp | hp
        · have := wg.2.1 p hp
          simp
          omega
        · have : p = (f, t) := by simpa using hp
          subst this
          simp
          omega
theorem GS.arrow {Ty : List (Nat × Nat)} {Tm : List (List Nat)} {Th : List Thm} (gs : GS Ty Tm Th) (hT : Ty.length ≤ 13) (f t : Int32) : GS (sArrow Ty f t).2 Tm Th := by
  cases hq : (ixB f (3 + Ty.length) && ixB t (3 + Ty.length)) with
  | false => rw [show sArrow Ty f t = (-1, Ty) by rw [sArrow, hq]; rfl]; exact gs
  | true =>
    have hq2 := hq
    rw [Bool.and_eq_true] at hq2
    obtain ⟨fN, hfN, rfl⟩ := ixB_of hq2.1 (by omega)
    obtain ⟨tN, htN, rfl⟩ := ixB_of hq2.2 (by omega)
    rw [show sArrow Ty (nI fN) (nI tN) = sNum Ty fN tN by rw [sArrow, hq, nI_clamp (by omega), nI_clamp (by omega)]; rfl]
    exact ⟨(GS_num gs.1 hfN htN).1, gs.2⟩
theorem num_arw {Ty : List (Nat × Nat)} {f t : Nat} (h : ¬ (sNum Ty f t).1 = -4) (hT : Ty.length ≤ 13) : ∃ k, (sNum Ty f t).1 = nI k ∧ arw (sNum Ty f t).2 k = some (f, t) ∧ k < 16 ∧ k < 3 + (sNum Ty f t).2.length := by
  cases e : fnd Ty (f, t) with
  | some j =>
    have hj := fnd_at e
    have := (List.getElem?_eq_some_iff.mp hj).1
    rw [sNum_some e]
    exact ⟨3 + j, rfl, by unfold arw; rw [if_pos (by omega), show 3 + j - 3 = j by omega]; exact hj, by omega, by show 3 + j < 3 + Ty.length; omega⟩
  | none =>
    by_cases q : Ty.length = 13
    · rw [sNum_full e q] at h; exact absurd rfl h
    · rw [sNum_new e q]
      exact ⟨3 + Ty.length, rfl, by unfold arw; rw [if_pos (by omega), show 3 + Ty.length - 3 = Ty.length by omega]; simp, by omega, by simp⟩
theorem num_m4 {Ty : List (Nat × Nat)} {f t : Nat} (h : (sNum Ty f t).1 = -4) (hT : Ty.length ≤ 13) : (sNum Ty f t).2 = Ty := by
  cases e : fnd Ty (f, t) with
  | some j =>
    have hj := fnd_at e
    have := (List.getElem?_eq_some_iff.mp hj).1
    rw [sNum_some e] at h
    exact absurd h (nI_m4 (by omega))
  | none =>
    by_cases q : Ty.length = 13
    · rw [sNum_full e q]
    · rw [sNum_new e q] at h
      exact absurd h (nI_m4 (by omega))
theorem MT.cut {Ty Ty2 : List (Nat × Nat)} {i i2 : Nat → Int32} {r : Nat → Nat → Int32} (h : MT Ty2 i r) (hx : ext Ty Ty2) (hl : Ty.length ≤ 13) (e : i2 2 = nI (3 + Ty.length)) : MT Ty i2 r := ⟨e, hl, fun j p hj => h.2.2 j p (hx.2 j p hj)⟩
theorem MI.tcut {Ty Ty2 : List (Nat × Nat)} {Tm : List (List Nat)} {Th : List Thm} {Cn : Nat → Option Nat} {d : List Nat} {i : Nat → Int32} {r : Nat → Nat → Int32} {L : Nat → Nat → Int64} {x : Int32} (h : MI Ty2 Tm Th Cn d i r L) (hx : ext Ty Ty2) (hl : Ty.length ≤ 13) (e : x = nI (3 + Ty.length)) : MI Ty Tm Th Cn d (upd i 2 x) r L :=
  ⟨h.1.cut hx hl (by rw [pk_us]; exact e), h.2.1.mv (pk_un (by decide)) rfl rfl (fun _ _ => rfl), h.2.2.1, ⟨by rw [pk_un (by decide)]; exact h.2.2.2.1.1, h.2.2.2.1.2⟩, h.2.2.2.2.mv (pk_un (by decide)) rfl rfl⟩
theorem MI.ti {Ty : List (Nat × Nat)} {Tm : List (List Nat)} {Th : List Thm} {Cn : Nat → Option Nat} {d : List Nat} {i : Nat → Int32} {r : Nat → Nat → Int32} {L : Nat → Nat → Int64} (h : MI Ty Tm Th Cn d i r L) : MI Ty Tm Th Cn d (upd i 2 (i 2)) r L := h.tcut ext.rf h.1.2.1 h.1.1
set_option maxRecDepth 100000 in
set_option maxHeartbeats 4000000 in
theorem c_M_variable {τ : Nat × Nat} {a : Nat → Nat} {i : Nat → Int32} {r : Nat → Nat → Int32} {L : Nat → Nat → Int64} {z : Int64} {wr : pW} {Ty : List (Nat × Nat)} {Tm : List (List Nat)} {Th : List Thm} {d : List Nat} (x t : Int32) (hI : MI Ty Tm Th (dcl Tm) d i r L) (gs : GS Ty Tm Th) : pC m_M_variable τ [.ref (a 0), .int x, .int t] (wM a i r L z ++ wr) ((fun rr w2 => ∃ i2 r2 L2 z2 d2, rr = some (.int ((sVariable Ty Tm x t).1)) ∧ w2 = wM a i2 r2 L2 z2 ++ wr ∧ MI (Ty) ((sVariable Ty Tm x t).2) (Th) (dcl ((sVariable Ty Tm x t).2)) d2 i2 r2 L2 ∧ GS (Ty) ((sVariable Ty Tm x t).2) (Th))) := by
  refine pC.of rfl (Nat.le_of_ble_eq_true rfl) ?_
  show pG m_M_variable τ _ 0 0 0 [(0, _), (1, _), (2, _)] [] _
  obtain ⟨b1, b2, b3, b4, b5, b6, b7⟩ := hI.b
  refine g_iload_n (pc := 0) d_M_variable_0 rfl ?_
  refine g_if_lt (pc := 1) (tgt := 18) d_M_variable_1 (by decide) (fun h1 => ?_) (fun h1 => ?_)
  · refine g_iconst (pc := 18) (v := -1) d_M_variable_18 (by decide) ?_
    refine g_iret (pc := 19) d_M_variable_19 rfl (Nat.le_refl _) (Nat.le_refl _) ?_
    have e : sVariable Ty Tm x t = (-1, Tm) := by
      first | (rw [sVariable, ixB_neg h1]; rfl) | (rw [sVariable, ixB_big9 (n := 9) (by decide) h7]; rfl) | (rw [sVariable, h15, Bool.and_false]; rfl)
    exact ⟨i, r, L, z, d, by rw [e], rfl, by rw [e]; exact hI, by rw [e]; exact gs⟩
  · refine g_iload_n (pc := 4) d_M_variable_4 rfl ?_
    refine g_bipush (pc := 5) (v := nI 9) d_M_variable_5 (by decide) ?_
    refine g_icmp_gt (pc := 7) (tgt := 18) d_M_variable_7 (by decide) (fun h7 => ?_) (fun h7 => ?_)
    · refine g_iconst (pc := 18) (v := -1) d_M_variable_18 (by decide) ?_
      refine g_iret (pc := 19) d_M_variable_19 rfl (Nat.le_refl _) (Nat.le_refl _) ?_
      have e : sVariable Ty Tm x t = (-1, Tm) := by
        first | (rw [sVariable, ixB_neg h1]; rfl) | (rw [sVariable, ixB_big9 (n := 9) (by decide) h7]; rfl) | (rw [sVariable, h15, Bool.and_false]; rfl)
      exact ⟨i, r, L, z, d, by rw [e], rfl, by rw [e]; exact hI, by rw [e]; exact gs⟩
    · refine g_aload_n (pc := 10) d_M_variable_10 rfl ?_
      refine g_iload_n (pc := 11) d_M_variable_11 rfl ?_
      refine g_callV (M' := m_M_isType) (pc := 12) (q := 0) d_M_variable_12 lm_M_92 (c_M_isType (3 + Ty.length) b4 (by omega) _) v_M_isType rfl rfl rfl (by decide) rfl (Nat.le_of_ble_eq_true rfl) ?_
      rintro _ _ ⟨rfl, rfl⟩
      show pG m_M_variable τ _ 0 0 15 _ (.int _ :: _) _
      refine g_ifb_ne (pc := 15) (tgt := 20) d_M_variable_15 (by decide) (fun h15 => ?_) (fun h15 => ?_)
      · have hx := ixB_in9 (n := 9) (by decide) h1 h7
        obtain ⟨x0, hx0, rfl⟩ := ixB_of hx (by decide)
        obtain ⟨t0, ht0, rfl⟩ := ixB_of h15 (by omega)
        have e : sVariable Ty Tm (nI x0) (nI t0) = sKeep Tm [tok 0 x0 t0] := by rw [sVariable, hx, h15, nI_clamp (by omega), nI_clamp (by omega)]; rfl
        have hw : [tok 0 x0 t0].length ≤ 30 → WT Ty (dcl Tm) t0 [tok 0 x0 t0] := fun _ => WT_leaf (Or.inl ⟨rfl, hx0⟩) (by omega) ht0
        refine g_aload_n (pc := 20) d_M_variable_20 rfl ?_
        refine g_iconst (pc := 21) (v := nI 0) d_M_variable_21 (by decide) ?_
        refine gm_made_p (pc := 22) d_M_variable_22 lf_M_65 ?_
        have hI1 := hI.cl
        refine g_aload_n (pc := 25) d_M_variable_25 rfl ?_
        refine g_bipush (pc := 26) (v := nI 64) d_M_variable_26 (by decide) ?_
        refine g_bipush (pc := 28) (v := nI 16) d_M_variable_28 (by decide) ?_
        refine g_iload_n (pc := 30) d_M_variable_30 rfl ?_
        refine g_nmul (pc := 31) d_M_variable_31 ?_
        refine g_nadd (pc := 32) d_M_variable_32 ?_
        refine g_iload_n (pc := 33) d_M_variable_33 rfl ?_
        refine g_nadd (pc := 34) d_M_variable_34 ?_
        rw [show 64 + 16 * x0 + t0 = mu (tok 0 x0 t0) from (mu_0 (by omega) (by omega)).symm]
        refine g_callV (M' := m_M_put) (pc := 35) (q := 0) d_M_variable_35 lm_M_68 (c_M_put [] (tok 0 x0 t0) hI1.2.2.2.1 (by simp)) v_M_put rfl rfl rfl (by decide) rfl (Nat.le_of_ble_eq_true rfl) ?_
        rintro _ _ ⟨i2, r2, rfl, rfl, hx2, hk2⟩
        have hx2 : MW ([tok 0 x0 t0]) i2 r2 := hx2
        have hI2 := hI1.mk hk2 hx2
        show pG m_M_variable τ _ 0 0 38 _ _ _
        refine g_aload_n (pc := 38) d_M_variable_38 rfl ?_
        refine g_callV (M' := m_M_keep) (pc := 39) (q := 0) d_M_variable_39 lm_M_95 (c_M_keep t0 hI2 gs.1 hw (by simp)) v_M_keep rfl rfl rfl (by decide) rfl (Nat.le_of_ble_eq_true rfl) ?_
        rintro _ _ ⟨i9, r9, rfl, rfl, hI9⟩
        show pG m_M_variable τ _ 0 0 42 _ (.int _ :: _) _
        refine g_iret (pc := 42) d_M_variable_42 rfl (Nat.le_refl _) (Nat.le_refl _) ?_
        exact ⟨i9, r9, L, z, _, by rw [e], rfl, by rw [e]; exact hI9.keep hw b2, by rw [e]; exact gs.keep hw b2⟩
      · refine g_iconst (pc := 18) (v := -1) d_M_variable_18 (by decide) ?_
        refine g_iret (pc := 19) d_M_variable_19 rfl (Nat.le_refl _) (Nat.le_refl _) ?_
        have e : sVariable Ty Tm x t = (-1, Tm) := by
          first | (rw [sVariable, ixB_neg h1]; rfl) | (rw [sVariable, ixB_big9 (n := 9) (by decide) h7]; rfl) | (rw [sVariable, h15, Bool.and_false]; rfl)
        exact ⟨i, r, L, z, d, by rw [e], rfl, by rw [e]; exact hI, by rw [e]; exact gs⟩
theorem MA.kp {i i2 : Nat → Int32} {r r2 : Nat → Nat → Int32} {k : Nat} {row : List Nat} (h : MA (r 0) k row) (hk : k + row.length ≤ 1920) (m : MK i r i2 r2) : MA (r2 0) k row := h.mv hk m.2.2
set_option maxRecDepth 100000 in
set_option maxHeartbeats 4000000 in
theorem c_M_apply {τ : Nat × Nat} {a : Nat → Nat} {i : Nat → Int32} {r : Nat → Nat → Int32} {L : Nat → Nat → Int64} {z : Int64} {wr : pW} {Ty : List (Nat × Nat)} {Tm : List (List Nat)} {Th : List Thm} {d : List Nat} (f x : Int32) (hI : MI Ty Tm Th (dcl Tm) d i r L) (gs : GS Ty Tm Th) : pC m_M_apply τ [.ref (a 0), .int f, .int x] (wM a i r L z ++ wr) ((fun rr w2 => ∃ i2 r2 L2 z2 d2, rr = some (.int ((sApply Ty Tm f x).1)) ∧ w2 = wM a i2 r2 L2 z2 ++ wr ∧ MI (Ty) ((sApply Ty Tm f x).2) (Th) (dcl ((sApply Ty Tm f x).2)) d2 i2 r2 L2 ∧ GS (Ty) ((sApply Ty Tm f x).2) (Th))) := by
  refine pC.of rfl (Nat.le_of_ble_eq_true rfl) ?_
  show pG m_M_apply τ _ 0 0 0 [(0, _), (1, _), (2, _)] [] _
  obtain ⟨b1, b2, b3, b4, b5, b6, b7⟩ := hI.b
  refine g_aload_n (pc := 0) d_M_apply_0 rfl ?_
  refine g_iload_n (pc := 1) d_M_apply_1 rfl ?_
  refine g_callV (M' := m_M_isTerm) (pc := 2) (q := 0) d_M_apply_2 lm_M_99 (c_M_isTerm Tm.length b5 (by omega) _) v_M_isTerm rfl rfl rfl (by decide) rfl (Nat.le_of_ble_eq_true rfl) ?_
  rintro _ _ ⟨rfl, rfl⟩
  show pG m_M_apply τ _ 0 0 5 _ (.int _ :: _) _
  refine g_ifb_eq (pc := 5) (tgt := 16) d_M_apply_5 (by decide) (fun h5 => ?_) (fun h5 => ?_)
  · refine g_iconst (pc := 16) (v := -1) d_M_apply_16 (by decide) ?_
    refine g_iret (pc := 17) d_M_apply_17 rfl (Nat.le_refl _) (Nat.le_refl _) ?_
    have e : sApply Ty Tm f x = (-1, Tm) := by
      first | (rw [sApply, h5]; rfl) | (rw [sApply, h5, h13]; rfl)
    exact ⟨i, r, L, z, d, by rw [e], rfl, by rw [e]; exact hI, by rw [e]; exact gs⟩
  · refine g_aload_n (pc := 8) d_M_apply_8 rfl ?_
    refine g_iload_n (pc := 9) d_M_apply_9 rfl ?_
    refine g_callV (M' := m_M_isTerm) (pc := 10) (q := 0) d_M_apply_10 lm_M_99 (c_M_isTerm Tm.length b5 (by omega) _) v_M_isTerm rfl rfl rfl (by decide) rfl (Nat.le_of_ble_eq_true rfl) ?_
    rintro _ _ ⟨rfl, rfl⟩
    show pG m_M_apply τ _ 0 0 13 _ (.int _ :: _) _
    refine g_ifb_ne (pc := 13) (tgt := 18) d_M_apply_13 (by decide) (fun h13 => ?_) (fun h13 => ?_)
    · obtain ⟨f0, hf0, rfl⟩ := ixB_of h5 (by omega)
      obtain ⟨x0, hx0, rfl⟩ := ixB_of h13 (by omega)
      obtain ⟨F, hF0_⟩ := get_of hf0
      obtain ⟨X, hX0_⟩ := get_of hx0
      obtain ⟨pF1, pF2, pF3, pF4, pF5, pF6⟩ := hI.2.1.mg gs.1 hF0_
      obtain ⟨pX1, pX2, pX3, pX4, pX5, pX6⟩ := hI.2.1.mg gs.1 hX0_
      have wF := gs.row hF0_
      have wX := gs.row hX0_
      have eF := rwT_at hF0_ b2
      have eX := rwT_at hX0_ b2
      have lF := tyR_lt F
      have lX := tyR_lt X
      refine g_aload_n (pc := 18) d_M_apply_18 rfl ?_
      refine g_aload_n (pc := 19) d_M_apply_19 rfl ?_
      refine gm_sort (pc := 20) d_M_apply_20 lf_M_16 ?_
      refine g_iload_n (pc := 23) d_M_apply_23 rfl ?_
      refine glm_sort (pc := 24) (v := nI (tyR F)) d_M_apply_24 (vp_in_nI (by omega) (by decide)) (by rw [nI_clamp (by omega)]; exact pF5) ?_
      refine g_aload_n (pc := 25) d_M_apply_25 rfl ?_
      refine gm_sort (pc := 26) d_M_apply_26 lf_M_16 ?_
      refine g_iload_n (pc := 29) d_M_apply_29 rfl ?_
      refine glm_sort (pc := 30) (v := nI (tyR X)) d_M_apply_30 (vp_in_nI (by omega) (by decide)) (by rw [nI_clamp (by omega)]; exact pX5) ?_
      refine g_callV (M' := m_M_fits) (pc := 31) (q := 0) d_M_apply_31 lm_M_102 (c_M_fits (tyR F) (tyR X) (tyR_lt F)) v_M_fits rfl rfl rfl (by decide) rfl (Nat.le_of_ble_eq_true rfl) ?_
      rintro _ _ ⟨rfl, rfl⟩
      show pG m_M_apply τ _ 0 0 34 _ (.int _ :: _) _
      rw [mtks hI.1 wF.lt (tyR_lt X)]
      refine g_ifb_ne (pc := 34) (tgt := 40) d_M_apply_34 (by decide) (fun h34 => ?_) (fun h34 => ?_)
      · have hw1 := WT_sAp gs b1 wF wX h34
        have hw : (sAp Ty F X).length ≤ 30 → WT Ty (dcl Tm) (res Ty (tyR F)) (sAp Ty F X) := fun _ => hw1.1
        have e : sApply Ty Tm (nI f0) (nI x0) = sKeep Tm (sAp Ty F X) := by rw [sApply, h5, h13, eF, eX, h34]; rfl
        refine g_aload_n (pc := 40) d_M_apply_40 rfl ?_
        refine g_iconst (pc := 41) (v := nI 0) d_M_apply_41 (by decide) ?_
        refine gm_made_p (pc := 42) d_M_apply_42 lf_M_65 ?_
        have hI1 := hI.cl
        refine g_aload_n (pc := 45) d_M_apply_45 rfl ?_
        refine g_iconst (pc := 46) (v := nI 1) d_M_apply_46 (by decide) ?_
        rw [show nI 1 = nI (mu (tok 5 0 (res Ty (tyR F)))) by rw [mu_5 hw1.2]]
        refine g_callV (M' := m_M_put) (pc := 47) (q := 0) d_M_apply_47 lm_M_68 (c_M_put [] (tok 5 0 (res Ty (tyR F))) hI1.2.2.2.1 (by simp)) v_M_put rfl rfl rfl (by decide) rfl (Nat.le_of_ble_eq_true rfl) ?_
        rintro _ _ ⟨i2, r2, rfl, rfl, hx2, hk2⟩
        have hx2 : MW ([tok 5 0 (res Ty (tyR F))]) i2 r2 := hx2
        have hI2 := hI1.mk hk2 hx2
        show pG m_M_apply τ _ 0 0 50 _ _ _
        refine g_aload_n (pc := 50) d_M_apply_50 rfl ?_
        refine g_bipush (pc := 51) (v := nI 32) d_M_apply_51 (by decide) ?_
        refine g_iload_n (pc := 53) d_M_apply_53 rfl ?_
        refine g_nmul (pc := 54) d_M_apply_54 ?_
        refine g_callV (M' := m_M_copy) (pc := 55) (q := 0) d_M_apply_55 lm_M_72 (c_M_copy [tok 5 0 (res Ty (tyR F))] (32 * f0) F hI2.2.2.2.1 (pF1.kp pF2 hk2) pF2 (by simp; omega)) v_M_copy rfl rfl rfl (by decide) rfl (Nat.le_of_ble_eq_true rfl) ?_
        rintro _ _ ⟨i3, r3, rfl, rfl, hx3, hk3⟩
        have hx3 : MW ([tok 5 0 (res Ty (tyR F))] ++ F) i3 r3 := hx3
        have hI3 := hI2.mk hk3 hx3
        show pG m_M_apply τ _ 0 0 58 _ _ _
        refine g_aload_n (pc := 58) d_M_apply_58 rfl ?_
        refine g_bipush (pc := 59) (v := nI 32) d_M_apply_59 (by decide) ?_
        refine g_iload_n (pc := 61) d_M_apply_61 rfl ?_
        refine g_nmul (pc := 62) d_M_apply_62 ?_
        refine g_callV (M' := m_M_copy) (pc := 63) (q := 0) d_M_apply_63 lm_M_72 (c_M_copy ([tok 5 0 (res Ty (tyR F))] ++ F) (32 * x0) X hI3.2.2.2.1 ((pX1.kp pX2 hk2).kp pX2 hk3) pX2 (by simp; omega)) v_M_copy rfl rfl rfl (by decide) rfl (Nat.le_of_ble_eq_true rfl) ?_
        rintro _ _ ⟨i4, r4, rfl, rfl, hx4, hk4⟩
        have hx4 : MW (sAp Ty F X) i4 r4 := hx4
        have hI4 := hI3.mk hk4 hx4
        show pG m_M_apply τ _ 0 0 66 _ _ _
        refine g_aload_n (pc := 66) d_M_apply_66 rfl ?_
        refine g_callV (M' := m_M_keep) (pc := 67) (q := 0) d_M_apply_67 lm_M_95 (c_M_keep (res Ty (tyR F)) hI4 gs.1 hw (by simp [sAp]; omega)) v_M_keep rfl rfl rfl (by decide) rfl (Nat.le_of_ble_eq_true rfl) ?_
        rintro _ _ ⟨i9, r9, rfl, rfl, hI9⟩
        show pG m_M_apply τ _ 0 0 70 _ (.int _ :: _) _
        refine g_iret (pc := 70) d_M_apply_70 rfl (Nat.le_refl _) (Nat.le_refl _) ?_
        exact ⟨i9, r9, L, z, _, by rw [e], rfl, by rw [e]; exact hI9.keep hw b2, by rw [e]; exact gs.keep hw b2⟩
      · refine g_bipush (pc := 37) (v := -2) d_M_apply_37 (by decide) ?_
        refine g_iret (pc := 39) d_M_apply_39 rfl (Nat.le_refl _) (Nat.le_refl _) ?_
        have e : sApply Ty Tm (nI f0) (nI x0) = (-2, Tm) := by rw [sApply, h5, h13, eF, eX, h34]; rfl
        exact ⟨i, r, L, z, d, by rw [e], rfl, by rw [e]; exact hI, by rw [e]; exact gs⟩
    · refine g_iconst (pc := 16) (v := -1) d_M_apply_16 (by decide) ?_
      refine g_iret (pc := 17) d_M_apply_17 rfl (Nat.le_refl _) (Nat.le_refl _) ?_
      have e : sApply Ty Tm f x = (-1, Tm) := by
        first | (rw [sApply, h5]; rfl) | (rw [sApply, h5, h13]; rfl)
      exact ⟨i, r, L, z, d, by rw [e], rfl, by rw [e]; exact hI, by rw [e]; exact gs⟩
set_option maxRecDepth 100000 in
set_option maxHeartbeats 4000000 in
theorem c_M_join {τ : Nat × Nat} {a : Nat → Nat} {i : Nat → Int32} {r : Nat → Nat → Int32} {L : Nat → Nat → Int64} {z : Int64} {wr : pW} {Ty : List (Nat × Nat)} {Tm : List (List Nat)} {Th : List Thm} {d : List Nat} (e x y : Int32) (hI : MI Ty Tm Th (dcl Tm) d i r L) (gs : GS Ty Tm Th) : pC m_M_join τ [.ref (a 0), .int e, .int x, .int y] (wM a i r L z ++ wr) ((fun rr w2 => ∃ i2 r2 L2 z2 d2, rr = some (.int ((sJoin Tm e x y).1)) ∧ w2 = wM a i2 r2 L2 z2 ++ wr ∧ MI (Ty) ((sJoin Tm e x y).2) (Th) (dcl ((sJoin Tm e x y).2)) d2 i2 r2 L2 ∧ GS (Ty) ((sJoin Tm e x y).2) (Th))) := by
  refine pC.of rfl (Nat.le_of_ble_eq_true rfl) ?_
  show pG m_M_join τ _ 0 0 0 [(0, _), (1, _), (2, _), (3, _)] [] _
  obtain ⟨b1, b2, b3, b4, b5, b6, b7⟩ := hI.b
  refine g_aload_n (pc := 0) d_M_join_0 rfl ?_
  refine g_iload_n (pc := 1) d_M_join_1 rfl ?_
  refine g_callV (M' := m_M_isTerm) (pc := 2) (q := 0) d_M_join_2 lm_M_99 (c_M_isTerm Tm.length b5 (by omega) _) v_M_isTerm rfl rfl rfl (by decide) rfl (Nat.le_of_ble_eq_true rfl) ?_
  rintro _ _ ⟨rfl, rfl⟩
  show pG m_M_join τ _ 0 0 5 _ (.int _ :: _) _
  refine g_ifb_eq (pc := 5) (tgt := 16) d_M_join_5 (by decide) (fun h5 => ?_) (fun h5 => ?_)
  · refine g_iconst (pc := 16) (v := -1) d_M_join_16 (by decide) ?_
    refine g_iret (pc := 17) d_M_join_17 rfl (Nat.le_refl _) (Nat.le_refl _) ?_
    have e_ : sJoin Tm e x y = (-1, Tm) := by
      first | (rw [sJoin, h5]; rfl) | (rw [sJoin, h5, h13]; rfl)
    exact ⟨i, r, L, z, d, by rw [e_], rfl, by rw [e_]; exact hI, by rw [e_]; exact gs⟩
  · refine g_aload_n (pc := 8) d_M_join_8 rfl ?_
    refine g_iload_n (pc := 9) d_M_join_9 rfl ?_
    refine g_callV (M' := m_M_isTerm) (pc := 10) (q := 0) d_M_join_10 lm_M_99 (c_M_isTerm Tm.length b5 (by omega) _) v_M_isTerm rfl rfl rfl (by decide) rfl (Nat.le_of_ble_eq_true rfl) ?_
    rintro _ _ ⟨rfl, rfl⟩
    show pG m_M_join τ _ 0 0 13 _ (.int _ :: _) _
    refine g_ifb_ne (pc := 13) (tgt := 18) d_M_join_13 (by decide) (fun h13 => ?_) (fun h13 => ?_)
    · obtain ⟨x0, hx0, rfl⟩ := ixB_of h5 (by omega)
      obtain ⟨y0, hy0, rfl⟩ := ixB_of h13 (by omega)
      obtain ⟨X, hX0_⟩ := get_of hx0
      obtain ⟨Y, hY0_⟩ := get_of hy0
      obtain ⟨pX1, pX2, pX3, pX4, pX5, pX6⟩ := hI.2.1.mg gs.1 hX0_
      obtain ⟨pY1, pY2, pY3, pY4, pY5, pY6⟩ := hI.2.1.mg gs.1 hY0_
      have wX := gs.row hX0_
      have wY := gs.row hY0_
      have eX := rwT_at hX0_ b2
      have eY := rwT_at hY0_ b2
      have lX := tyR_lt X
      have lY := tyR_lt Y
      refine g_aload_n (pc := 18) d_M_join_18 rfl ?_
      refine gm_sort (pc := 19) d_M_join_19 lf_M_16 ?_
      refine g_iload_n (pc := 22) d_M_join_22 rfl ?_
      refine glm_sort (pc := 23) (v := nI (tyR X)) d_M_join_23 (vp_in_nI (by omega) (by decide)) (by rw [nI_clamp (by omega)]; exact pX5) ?_
      refine g_aload_n (pc := 24) d_M_join_24 rfl ?_
      refine gm_sort (pc := 25) d_M_join_25 lf_M_16 ?_
      refine g_iload_n (pc := 28) d_M_join_28 rfl ?_
      refine glm_sort (pc := 29) (v := nI (tyR Y)) d_M_join_29 (vp_in_nI (by omega) (by decide)) (by rw [nI_clamp (by omega)]; exact pY5) ?_
      refine g_nicmp_ne (pc := 30) (tgt := 46) d_M_join_30 (by decide) (by omega) (by omega) (fun h30 => ?_) (fun h30 => ?_)
      · refine g_bipush (pc := 46) (v := -2) d_M_join_46 (by decide) ?_
        refine g_iret (pc := 48) d_M_join_48 rfl (Nat.le_refl _) (Nat.le_refl _) ?_
        have e_ : sJoin Tm e (nI x0) (nI y0) = (-2, Tm) := by
          rw [sJoin, h5, h13, eX, eY]
          exact (if_pos rfl).trans (if_neg (by first | exact fun q => h30 q.1 | exact fun q => h43 (q.2 h34)))
        exact ⟨i, r, L, z, d, by rw [e_], rfl, by rw [e_]; exact hI, by rw [e_]; exact gs⟩
      · refine g_iload_n (pc := 33) d_M_join_33 rfl ?_
        refine g_if_ne (pc := 34) (tgt := 49) d_M_join_34 (by decide) (fun h34 => ?_) (fun h34 => ?_)
        · have hc : tyR X = tyR Y ∧ (e = 0 → tyR X = 0) := ⟨h30, fun q => absurd q h34⟩
          have e_ : sJoin Tm e (nI x0) (nI y0) = sKeep Tm (sJn (if e = 0 then 6 else 7) X Y) := by
            rw [sJoin, h5, h13, eX, eY]
            exact (if_pos rfl).trans (if_pos hc)
          have hw : (sJn (if e = 0 then 6 else 7) X Y).length ≤ 30 → WT Ty (dcl Tm) 0 (sJn (if e = 0 then 6 else 7) X Y) := fun _ => by
            rw [if_neg h34]
            rw [← h30] at wY
            exact WT_eq wX wY
          refine g_aload_n (pc := 49) d_M_join_49 rfl ?_
          refine g_iconst (pc := 50) (v := nI 0) d_M_join_50 (by decide) ?_
          refine gm_made_p (pc := 51) d_M_join_51 lf_M_65 ?_
          have hI1 := hI.cl
          refine g_aload_n (pc := 54) d_M_join_54 rfl ?_
          refine g_iload_n (pc := 55) d_M_join_55 rfl ?_
          refine g_if_eq (pc := 56) (tgt := 63) d_M_join_56 (by decide) (fun h => absurd h h34) (fun h56 => ?_)
          refine g_iconst (pc := 59) (v := nI 3) d_M_join_59 (by decide) ?_
          refine g_goto (pc := 60) (tgt := 64) d_M_join_60 (by decide) ?_
          rw [show nI 3 = nI (mu (tok (if e = 0 then 6 else 7) 0 0)) by rw [if_neg h34, mu_7]]
          refine g_callV (M' := m_M_put) (pc := 64) (q := 0) d_M_join_64 lm_M_68 (c_M_put [] (tok (if e = 0 then 6 else 7) 0 0) hI1.2.2.2.1 (by simp)) v_M_put rfl rfl rfl (by decide) rfl (Nat.le_of_ble_eq_true rfl) ?_
          rintro _ _ ⟨i2, r2, rfl, rfl, hx2, hk2⟩
          have hx2 : MW ([tok (if e = 0 then 6 else 7) 0 0]) i2 r2 := hx2
          have hI2 := hI1.mk hk2 hx2
          show pG m_M_join τ _ 0 0 67 _ _ _
          refine g_aload_n (pc := 67) d_M_join_67 rfl ?_
          refine g_bipush (pc := 68) (v := nI 32) d_M_join_68 (by decide) ?_
          refine g_iload_n (pc := 70) d_M_join_70 rfl ?_
          refine g_nmul (pc := 71) d_M_join_71 ?_
          refine g_callV (M' := m_M_copy) (pc := 72) (q := 0) d_M_join_72 lm_M_72 (c_M_copy [tok (if e = 0 then 6 else 7) 0 0] (32 * x0) X hI2.2.2.2.1 (pX1.kp pX2 hk2) pX2 (by simp; omega)) v_M_copy rfl rfl rfl (by decide) rfl (Nat.le_of_ble_eq_true rfl) ?_
          rintro _ _ ⟨i3, r3, rfl, rfl, hx3, hk3⟩
          have hx3 : MW ([tok (if e = 0 then 6 else 7) 0 0] ++ X) i3 r3 := hx3
          have hI3 := hI2.mk hk3 hx3
          show pG m_M_join τ _ 0 0 75 _ _ _
          refine g_aload_n (pc := 75) d_M_join_75 rfl ?_
          refine g_bipush (pc := 76) (v := nI 32) d_M_join_76 (by decide) ?_
          refine g_iload_n (pc := 78) d_M_join_78 rfl ?_
          refine g_nmul (pc := 79) d_M_join_79 ?_
          refine g_callV (M' := m_M_copy) (pc := 80) (q := 0) d_M_join_80 lm_M_72 (c_M_copy ([tok (if e = 0 then 6 else 7) 0 0] ++ X) (32 * y0) Y hI3.2.2.2.1 ((pY1.kp pY2 hk2).kp pY2 hk3) pY2 (by simp; omega)) v_M_copy rfl rfl rfl (by decide) rfl (Nat.le_of_ble_eq_true rfl) ?_
          rintro _ _ ⟨i4, r4, rfl, rfl, hx4, hk4⟩
          have hx4 : MW (sJn (if e = 0 then 6 else 7) X Y) i4 r4 := hx4
          have hI4 := hI3.mk hk4 hx4
          show pG m_M_join τ _ 0 0 83 _ _ _
          refine g_aload_n (pc := 83) d_M_join_83 rfl ?_
          refine g_callV (M' := m_M_keep) (pc := 84) (q := 0) d_M_join_84 lm_M_95 (c_M_keep 0 hI4 gs.1 hw (by simp [sJn]; omega)) v_M_keep rfl rfl rfl (by decide) rfl (Nat.le_of_ble_eq_true rfl) ?_
          rintro _ _ ⟨i9, r9, rfl, rfl, hI9⟩
          show pG m_M_join τ _ 0 0 87 _ (.int _ :: _) _
          refine g_iret (pc := 87) d_M_join_87 rfl (Nat.le_refl _) (Nat.le_refl _) ?_
          exact ⟨i9, r9, L, z, _, by rw [e_], rfl, by rw [e_]; exact hI9.keep hw b2, by rw [e_]; exact gs.keep hw b2⟩
        · refine g_aload_n (pc := 37) d_M_join_37 rfl ?_
          refine gm_sort (pc := 38) d_M_join_38 lf_M_16 ?_
          refine g_iload_n (pc := 41) d_M_join_41 rfl ?_
          refine glm_sort (pc := 42) (v := nI (tyR X)) d_M_join_42 (vp_in_nI (by omega) (by decide)) (by rw [nI_clamp (by omega)]; exact pX5) ?_
          refine g_nif_eq (pc := 43) (tgt := 49) d_M_join_43 (by decide) (by omega) (fun h43 => ?_) (fun h43 => ?_)
          · have hc : tyR X = tyR Y ∧ (e = 0 → tyR X = 0) := ⟨h30, fun _ => h43⟩
            have e_ : sJoin Tm e (nI x0) (nI y0) = sKeep Tm (sJn (if e = 0 then 6 else 7) X Y) := by
              rw [sJoin, h5, h13, eX, eY]
              exact (if_pos rfl).trans (if_pos hc)
            have hw : (sJn (if e = 0 then 6 else 7) X Y).length ≤ 30 → WT Ty (dcl Tm) 0 (sJn (if e = 0 then 6 else 7) X Y) := fun _ => by
              rw [if_pos h34]
              rw [← h30] at wY
              rw [h43] at wX wY
              exact WT_imp wX wY
            refine g_aload_n (pc := 49) d_M_join_49 rfl ?_
            refine g_iconst (pc := 50) (v := nI 0) d_M_join_50 (by decide) ?_
            refine gm_made_p (pc := 51) d_M_join_51 lf_M_65 ?_
            have hI1 := hI.cl
            refine g_aload_n (pc := 54) d_M_join_54 rfl ?_
            refine g_iload_n (pc := 55) d_M_join_55 rfl ?_
            refine g_if_eq (pc := 56) (tgt := 63) d_M_join_56 (by decide) (fun h56 => ?_) (fun h => absurd h34 h)
            refine g_iconst (pc := 63) (v := nI 2) d_M_join_63 (by decide) ?_
            rw [show nI 2 = nI (mu (tok (if e = 0 then 6 else 7) 0 0)) by rw [if_pos h34, mu_6]]
            refine g_callV (M' := m_M_put) (pc := 64) (q := 0) d_M_join_64 lm_M_68 (c_M_put [] (tok (if e = 0 then 6 else 7) 0 0) hI1.2.2.2.1 (by simp)) v_M_put rfl rfl rfl (by decide) rfl (Nat.le_of_ble_eq_true rfl) ?_
            rintro _ _ ⟨i2, r2, rfl, rfl, hx2, hk2⟩
            have hx2 : MW ([tok (if e = 0 then 6 else 7) 0 0]) i2 r2 := hx2
            have hI2 := hI1.mk hk2 hx2
            show pG m_M_join τ _ 0 0 67 _ _ _
            refine g_aload_n (pc := 67) d_M_join_67 rfl ?_
            refine g_bipush (pc := 68) (v := nI 32) d_M_join_68 (by decide) ?_
            refine g_iload_n (pc := 70) d_M_join_70 rfl ?_
            refine g_nmul (pc := 71) d_M_join_71 ?_
            refine g_callV (M' := m_M_copy) (pc := 72) (q := 0) d_M_join_72 lm_M_72 (c_M_copy [tok (if e = 0 then 6 else 7) 0 0] (32 * x0) X hI2.2.2.2.1 (pX1.kp pX2 hk2) pX2 (by simp; omega)) v_M_copy rfl rfl rfl (by decide) rfl (Nat.le_of_ble_eq_true rfl) ?_
            rintro _ _ ⟨i3, r3, rfl, rfl, hx3, hk3⟩
            have hx3 : MW ([tok (if e = 0 then 6 else 7) 0 0] ++ X) i3 r3 := hx3
            have hI3 := hI2.mk hk3 hx3
            show pG m_M_join τ _ 0 0 75 _ _ _
            refine g_aload_n (pc := 75) d_M_join_75 rfl ?_
            refine g_bipush (pc := 76) (v := nI 32) d_M_join_76 (by decide) ?_
            refine g_iload_n (pc := 78) d_M_join_78 rfl ?_
            refine g_nmul (pc := 79) d_M_join_79 ?_
            refine g_callV (M' := m_M_copy) (pc := 80) (q := 0) d_M_join_80 lm_M_72 (c_M_copy ([tok (if e = 0 then 6 else 7) 0 0] ++ X) (32 * y0) Y hI3.2.2.2.1 ((pY1.kp pY2 hk2).kp pY2 hk3) pY2 (by simp; omega)) v_M_copy rfl rfl rfl (by decide) rfl (Nat.le_of_ble_eq_true rfl) ?_
            rintro _ _ ⟨i4, r4, rfl, rfl, hx4, hk4⟩
            have hx4 : MW (sJn (if e = 0 then 6 else 7) X Y) i4 r4 := hx4
            have hI4 := hI3.mk hk4 hx4
            show pG m_M_join τ _ 0 0 83 _ _ _
            refine g_aload_n (pc := 83) d_M_join_83 rfl ?_
            refine g_callV (M' := m_M_keep) (pc := 84) (q := 0) d_M_join_84 lm_M_95 (c_M_keep 0 hI4 gs.1 hw (by simp [sJn]; omega)) v_M_keep rfl rfl rfl (by decide) rfl (Nat.le_of_ble_eq_true rfl) ?_
            rintro _ _ ⟨i9, r9, rfl, rfl, hI9⟩
            show pG m_M_join τ _ 0 0 87 _ (.int _ :: _) _
            refine g_iret (pc := 87) d_M_join_87 rfl (Nat.le_refl _) (Nat.le_refl _) ?_
            exact ⟨i9, r9, L, z, _, by rw [e_], rfl, by rw [e_]; exact hI9.keep hw b2, by rw [e_]; exact gs.keep hw b2⟩
          · refine g_bipush (pc := 46) (v := -2) d_M_join_46 (by decide) ?_
            refine g_iret (pc := 48) d_M_join_48 rfl (Nat.le_refl _) (Nat.le_refl _) ?_
            have e_ : sJoin Tm e (nI x0) (nI y0) = (-2, Tm) := by
              rw [sJoin, h5, h13, eX, eY]
              exact (if_pos rfl).trans (if_neg (by first | exact fun q => h30 q.1 | exact fun q => h43 (q.2 h34)))
            exact ⟨i, r, L, z, d, by rw [e_], rfl, by rw [e_]; exact hI, by rw [e_]; exact gs⟩
    · refine g_iconst (pc := 16) (v := -1) d_M_join_16 (by decide) ?_
      refine g_iret (pc := 17) d_M_join_17 rfl (Nat.le_refl _) (Nat.le_refl _) ?_
      have e_ : sJoin Tm e x y = (-1, Tm) := by
        first | (rw [sJoin, h5]; rfl) | (rw [sJoin, h5, h13]; rfl)
      exact ⟨i, r, L, z, d, by rw [e_], rfl, by rw [e_]; exact hI, by rw [e_]; exact gs⟩
theorem num_neg {Ty : List (Nat × Nat)} {f t : Nat} (hT : Ty.length ≤ 13) (h : ¬ 0 ≤ (sNum Ty f t).1) : (sNum Ty f t).1 = -4 := by
  apply Classical.byContradiction
  intro q
  obtain ⟨k, hk, -, h16, -⟩ := num_arw q hT
  rw [hk] at h
  exact h (nI_pos' (by omega))
theorem num_pos {Ty : List (Nat × Nat)} {f t : Nat} (h : 0 ≤ (sNum Ty f t).1) : ¬ (sNum Ty f t).1 = -4 := fun q => by
  rw [q] at h
  exact absurd h (by decide)
theorem keep_neg {Tm : List (List Nat)} {d : List Nat} (hl : Tm.length ≤ 60) (h : ¬ 0 ≤ (sKeep Tm d).1) : (sKeep Tm d).1 = -4 := by
  apply Classical.byContradiction
  intro q
  obtain ⟨k, hk, -, he, -⟩ := sKeep_nI q hl
  rw [he] at h
  exact h (nI_pos' (by omega))
theorem keep_pos {Tm : List (List Nat)} {d : List Nat} (h : 0 ≤ (sKeep Tm d).1) : ¬ (sKeep Tm d).1 = -4 := fun q => by
  rw [q] at h
  exact absurd h (by decide)
theorem MI.m4 {Ty : List (Nat × Nat)} {Tm : List (List Nat)} {Th : List Thm} {Cn : Nat → Option Nat} {d d2 : List Nat} {i : Nat → Int32} {r : Nat → Nat → Int32} {L : Nat → Nat → Int64} (hI : MI Ty (sKeep Tm d).2 Th Cn d2 i r L) (h : (sKeep Tm d).1 = -4) (hl : Tm.length ≤ 60) : MI Ty Tm Th Cn d2 i r L := by
  rw [sKeep_m4 h hl] at hI
  exact hI
theorem MI.ty4 {Ty : List (Nat × Nat)} {Tm : List (List Nat)} {Th : List Thm} {Cn : Nat → Option Nat} {d : List Nat} {f t : Nat} {i : Nat → Int32} {r : Nat → Nat → Int32} {L : Nat → Nat → Int64} (hI : MI (sNum Ty f t).2 Tm Th Cn d i r L) (h : (sNum Ty f t).1 = -4) (hl : Ty.length ≤ 13) : MI Ty Tm Th Cn d i r L := by
  rw [num_m4 h hl] at hI
  exact hI
set_option maxRecDepth 100000 in
set_option maxHeartbeats 4000000 in
theorem c_M_bind {τ : Nat × Nat} {a : Nat → Nat} {i : Nat → Int32} {r : Nat → Nat → Int32} {L : Nat → Nat → Int64} {z : Int64} {wr : pW} {Ty : List (Nat × Nat)} {Tm : List (List Nat)} {Th : List Thm} {d : List Nat} (al v t : Int32) (hI : MI Ty Tm Th (dcl Tm) d i r L) (gs : GS Ty Tm Th) : pC m_M_bind τ [.ref (a 0), .int al, .int v, .int t] (wM a i r L z ++ wr) ((fun rr w2 => ∃ i2 r2 L2 z2 d2, rr = some (.int ((sBind Ty Tm al v t).1)) ∧ w2 = wM a i2 r2 L2 z2 ++ wr ∧ MI ((sBind Ty Tm al v t).2.1) ((sBind Ty Tm al v t).2.2) (Th) (dcl ((sBind Ty Tm al v t).2.2)) d2 i2 r2 L2 ∧ GS ((sBind Ty Tm al v t).2.1) ((sBind Ty Tm al v t).2.2) (Th))) := by
  refine pC.of rfl (Nat.le_of_ble_eq_true rfl) ?_
  show pG m_M_bind τ _ 0 0 0 [(0, _), (1, _), (2, _), (3, _)] [] _
  obtain ⟨b1, b2, b3, b4, b5, b6, b7⟩ := hI.b
  refine g_aload_n (pc := 0) d_M_bind_0 rfl ?_
  refine g_iload_n (pc := 1) d_M_bind_1 rfl ?_
  refine g_callV (M' := m_M_isTerm) (pc := 2) (q := 0) d_M_bind_2 lm_M_99 (c_M_isTerm Tm.length b5 (by omega) _) v_M_isTerm rfl rfl rfl (by decide) rfl (Nat.le_of_ble_eq_true rfl) ?_
  rintro _ _ ⟨rfl, rfl⟩
  show pG m_M_bind τ _ 0 0 5 _ (.int _ :: _) _
  refine g_ifb_eq (pc := 5) (tgt := 16) d_M_bind_5 (by decide) (fun h5 => ?_) (fun h5 => ?_)
  · refine g_iconst (pc := 16) (v := -1) d_M_bind_16 (by decide) ?_
    refine g_iret (pc := 17) d_M_bind_17 rfl (Nat.le_refl _) (Nat.le_refl _) ?_
    have e : sBind Ty Tm al v t = (-1, Ty, Tm) := by
      first | (rw [sBind, h5]; rfl) | (rw [sBind, h5, h13]; rfl)
    exact ⟨i, r, L, z, d, by rw [e], rfl, by rw [e]; exact hI, by rw [e]; exact gs⟩
  · refine g_aload_n (pc := 8) d_M_bind_8 rfl ?_
    refine g_iload_n (pc := 9) d_M_bind_9 rfl ?_
    refine g_callV (M' := m_M_isTerm) (pc := 10) (q := 0) d_M_bind_10 lm_M_99 (c_M_isTerm Tm.length b5 (by omega) _) v_M_isTerm rfl rfl rfl (by decide) rfl (Nat.le_of_ble_eq_true rfl) ?_
    rintro _ _ ⟨rfl, rfl⟩
    show pG m_M_bind τ _ 0 0 13 _ (.int _ :: _) _
    refine g_ifb_ne (pc := 13) (tgt := 18) d_M_bind_13 (by decide) (fun h13 => ?_) (fun h13 => ?_)
    · obtain ⟨v0, hv0, rfl⟩ := ixB_of h5 (by omega)
      obtain ⟨t0, ht0, rfl⟩ := ixB_of h13 (by omega)
      obtain ⟨V, hV0_⟩ := get_of hv0
      obtain ⟨T, hT0_⟩ := get_of ht0
      obtain ⟨pV1, pV2, pV3, pV4, pV5, pV6⟩ := hI.2.1.mg gs.1 hV0_
      obtain ⟨pT1, pT2, pT3, pT4, pT5, pT6⟩ := hI.2.1.mg gs.1 hT0_
      have wV := gs.row hV0_
      have wT := gs.row hT0_
      have eV := rwT_at hV0_ b2
      have eT := rwT_at hT0_ b2
      have lV := tyR_lt V
      have lT := tyR_lt T
      refine g_aload_n (pc := 18) d_M_bind_18 rfl ?_
      refine g_iload_n (pc := 19) d_M_bind_19 rfl ?_
      refine g_callV (M' := m_M_isVariableTerm) (pc := 20) (q := 0) d_M_bind_20 lm_M_105 (c_M_isVariableTerm v0 V pV3 pV4 pV1 (fun q => wV.len1 q)) v_M_isVariableTerm rfl rfl rfl (by decide) rfl (Nat.le_of_ble_eq_true rfl) ?_
      rintro _ _ ⟨rfl, rfl⟩
      show pG m_M_bind τ _ 0 0 23 _ (.int _ :: _) _
      refine g_ifb_eq (pc := 23) (tgt := 39) d_M_bind_23 (by decide) (fun h23 => ?_) (fun h23 => ?_)
      · refine g_bipush (pc := 39) (v := -2) d_M_bind_39 (by decide) ?_
        refine g_iret (pc := 41) d_M_bind_41 rfl (Nat.le_refl _) (Nat.le_refl _) ?_
        have e : sBind Ty Tm al (nI v0) (nI t0) = (-2, Ty, Tm) := by
          rw [sBind, h5, h13, eV, eT]
          exact (if_pos rfl).trans (if_neg (by first | exact fun q => absurd q.1 (of_decide_eq_false h23) | exact fun q => q.2.elim h27 h36))
        exact ⟨i, r, L, z, d, by rw [e], rfl, by rw [e]; exact hI, by rw [e]; exact gs⟩
      · refine g_iload_n (pc := 26) d_M_bind_26 rfl ?_
        refine g_if_eq (pc := 27) (tgt := 42) d_M_bind_27 (by decide) (fun h27 => ?_) (fun h27 => ?_)
        · refine g_aload_n (pc := 42) d_M_bind_42 rfl ?_
          refine gm_types (pc := 43) d_M_bind_43 lf_M_22 ?_
          rw [b4]
          refine g_istore (pc := 46) [(4, _), (0, _), (1, _), (2, _), (3, _)] d_M_bind_46 (by decide) rfl ?_
          refine g_iload_n (pc := 48) d_M_bind_48 rfl ?_
          refine g_if_ne (pc := 49) (tgt := 74) d_M_bind_49 (by decide) (fun h => absurd h27 h) (fun h49 => ?_)
          refine g_aload_n (pc := 52) d_M_bind_52 rfl ?_
          refine g_aload_n (pc := 53) d_M_bind_53 rfl ?_
          refine gm_sort (pc := 54) d_M_bind_54 lf_M_16 ?_
          refine g_iload_n (pc := 57) d_M_bind_57 rfl ?_
          refine glm_sort (pc := 58) (v := nI (tyR V)) d_M_bind_58 (vp_in_nI (by omega) (by decide)) (by rw [nI_clamp (by omega)]; exact pV5) ?_
          refine g_aload_n (pc := 59) d_M_bind_59 rfl ?_
          refine gm_sort (pc := 60) d_M_bind_60 lf_M_16 ?_
          refine g_iload_n (pc := 63) d_M_bind_63 rfl ?_
          refine glm_sort (pc := 64) (v := nI (tyR T)) d_M_bind_64 (vp_in_nI (by omega) (by decide)) (by rw [nI_clamp (by omega)]; exact pT5) ?_
          refine g_callV (M' := m_M_arrow) (pc := 65) (q := 0) d_M_bind_65 lm_M_108 (c_M_arrow_3 (tyR V) (tyR T) hI wV.lt wT.lt) v_M_arrow rfl rfl rfl (by decide) rfl (Nat.le_of_ble_eq_true rfl) ?_
          rintro _ _ ⟨i5, r5, rfl, rfl, hI5, -, -⟩
          show pG m_M_bind τ _ 0 0 68 _ (.int _ :: _) _
          refine g_if_ge (pc := 68) (tgt := 74) d_M_bind_68 (by decide) (fun h68 => ?_) (fun h68 => ?_)
          · obtain ⟨k, hk, harw, hk16, hkl⟩ := num_arw (num_pos h68) b1
            have hJ := hI5
            have wgJ := (GS_num gs.1 wV.lt wT.lt).1
            have hxJ := (GS_num gs.1 wV.lt wT.lt).2
            obtain ⟨qV1, qV2, qV3, qV4, qV5, qV6⟩ := hJ.2.1.mg wgJ hV0_
            obtain ⟨qT1, qT2, qT3, qT4, qT5, qT6⟩ := hJ.2.1.mg wgJ hT0_
            obtain ⟨tg, ty, htg, hty⟩ : ∃ tg ty : Nat, tg = 3 ∧ ty = k := ⟨3, k, rfl, rfl⟩
            have hw : (sBd tg ty (hdt V) T).length ≤ 30 → WT (sNum Ty (tyR V) (tyR T)).2 (dcl Tm) ty (sBd tg ty (hdt V) T) := fun _ => by
              rw [htg, hty]
              exact WT_abs (of_decide_eq_true h23) (wgJ.2.2 _ _ hT0_).1 qT6 harw hk16 hkl
            have e1 : sBdr Ty al V T = ((sNum Ty (tyR V) (tyR T)).2, sBd tg ty (hdt V) T) := by
              rw [sBdr, if_pos h27, sAb, if_neg (num_pos h68), hk, nI_clamp (by omega), htg, hty]
              rfl
            have hty16 : ty < 16 := by omega
            have e := show sBind Ty Tm al (nI v0) (nI t0) = if (sKeep Tm (sBd tg ty (hdt V) T)).1 = -4 then (-4, Ty, Tm) else ((sKeep Tm (sBd tg ty (hdt V) T)).1, (sNum Ty (tyR V) (tyR T)).2, (sKeep Tm (sBd tg ty (hdt V) T)).2) by
              rw [sBind, h5, h13, eV, eT]
              refine (if_pos rfl).trans ((if_pos ⟨of_decide_eq_true h23, Or.inl h27⟩).trans ?_)
              rw [e1]
            refine g_aload_n (pc := 74) d_M_bind_74 rfl ?_
            refine g_iconst (pc := 75) (v := nI 0) d_M_bind_75 (by decide) ?_
            refine gm_made_p (pc := 76) d_M_bind_76 lf_M_65 ?_
            have hI1 := hJ.cl
            refine g_aload_n (pc := 79) d_M_bind_79 rfl ?_
            refine g_iload_n (pc := 80) d_M_bind_80 rfl ?_
            refine g_if_eq (pc := 81) (tgt := 89) d_M_bind_81 (by decide) (fun h81 => ?_) (fun h => absurd h27 h)
            refine g_bipush (pc := 89) (v := nI 16) d_M_bind_89 (by decide) ?_
            refine g_aload_n (pc := 91) d_M_bind_91 rfl ?_
            refine gm_sort (pc := 92) d_M_bind_92 lf_M_16 ?_
            refine g_iload_n (pc := 95) d_M_bind_95 rfl ?_
            refine glm_sort (pc := 96) (v := nI (tyR V)) d_M_bind_96 (vp_in_nI (by omega) (by decide)) (by rw [nI_clamp (by omega)]; exact qV5) ?_
            refine g_nadd (pc := 97) d_M_bind_97 ?_
            rw [show 16 + tyR V = mu (tok tg (tyR V) ty) by rw [htg, mu_3 (by omega) hty16]]
            refine g_callV (M' := m_M_put) (pc := 98) (q := 0) d_M_bind_98 lm_M_68 (c_M_put [] (tok tg (tyR V) ty) hI1.2.2.2.1 (by simp)) v_M_put rfl rfl rfl (by decide) rfl (Nat.le_of_ble_eq_true rfl) ?_
            rintro _ _ ⟨i2, r2, rfl, rfl, hx2, hk2⟩
            have hx2 : MW ([tok tg (tyR V) ty]) i2 r2 := hx2
            have hI2 := hI1.mk hk2 hx2
            show pG m_M_bind τ _ 0 0 101 _ _ _
            refine g_aload_n (pc := 101) d_M_bind_101 rfl ?_
            refine g_bipush (pc := 102) (v := nI 32) d_M_bind_102 (by decide) ?_
            refine g_iload_n (pc := 104) d_M_bind_104 rfl ?_
            refine g_nmul (pc := 105) d_M_bind_105 ?_
            refine g_aload_n (pc := 106) d_M_bind_106 rfl ?_
            refine gm_row (pc := 107) d_M_bind_107 lf_M_7 ?_
            refine g_bipush (pc := 110) (v := nI 32) d_M_bind_110 (by decide) ?_
            refine g_iload_n (pc := 112) d_M_bind_112 rfl ?_
            refine g_nmul (pc := 113) d_M_bind_113 ?_
            refine glm_row (pc := 114) (v := nI (mu (hdt V))) d_M_bind_114 (vp_in_nI (by omega) (by decide)) (by rw [nI_clamp (by omega)]; exact (qV1.kp qV2 hk2).hd.2.1) ?_
            refine g_iconst (pc := 115) (v := -1) d_M_bind_115 (by decide) ?_
            refine g_callV (M' := m_M_copyWith) (pc := 116) (q := 0) d_M_bind_116 lm_M_111 (c_M_copyWith_0 [tok tg (tyR V) ty] (32 * t0) (hdt V) T hI2.2.2.2.1 (qT1.kp qT2 hk2) qT2 qV1.hd.2.2.1 (of_decide_eq_true h23) (by simp; omega)) v_M_copyWith rfl rfl rfl (by decide) rfl (Nat.le_of_ble_eq_true rfl) ?_
            rintro _ _ ⟨i3, r3, rfl, rfl, hx3, hk3⟩
            have hx3 : MW (sBd tg ty (hdt V) T) i3 r3 := hx3
            have hI3 := hI2.mk hk3 hx3
            show pG m_M_bind τ _ 0 0 119 _ _ _
            refine g_aload_n (pc := 119) d_M_bind_119 rfl ?_
            refine g_callV (M' := m_M_keep) (pc := 120) (q := 0) d_M_bind_120 lm_M_95 (c_M_keep ty hI3 wgJ hw (by have := @cls_len (hdt V) T [0]; simp [sBd]; omega)) v_M_keep rfl rfl rfl (by decide) rfl (Nat.le_of_ble_eq_true rfl) ?_
            rintro _ _ ⟨i9, r9, rfl, rfl, hI9⟩
            show pG m_M_bind τ _ 0 0 123 _ (.int _ :: _) _
            refine g_istore (pc := 123) [(5, _), (4, _), (0, _), (1, _), (2, _), (3, _)] d_M_bind_123 (by decide) rfl ?_
            refine g_aload_n (pc := 125) d_M_bind_125 rfl ?_
            refine g_iload (pc := 126) d_M_bind_126 rfl ?_
            refine g_if_ge (pc := 128) (tgt := 136) d_M_bind_128 (by decide) (fun h128 => ?_) (fun h128 => ?_)
            · refine g_aload_n (pc := 136) d_M_bind_136 rfl ?_
              refine gm_types (pc := 137) d_M_bind_137 lf_M_22 ?_
              refine gm_types_p (pc := 140) d_M_bind_140 lf_M_22 ?_
              refine g_iload (pc := 143) d_M_bind_143 rfl ?_
              refine g_iret (pc := 145) d_M_bind_145 rfl (Nat.le_refl _) (Nat.le_refl _) ?_
              have q := keep_pos h128
              rw [if_neg q] at e
              exact ⟨_, r9, L, z, _, by rw [e], rfl, by rw [e]; exact (hI9.keep hw b2).ti, by rw [e]; exact GS.keep ⟨wgJ, gs.2⟩ hw b2⟩
            · refine g_iload (pc := 131) d_M_bind_131 rfl ?_
              refine g_goto (pc := 133) (tgt := 140) d_M_bind_133 (by decide) ?_
              refine gm_types_p (pc := 140) d_M_bind_140 lf_M_22 ?_
              refine g_iload (pc := 143) d_M_bind_143 rfl ?_
              refine g_iret (pc := 145) d_M_bind_145 rfl (Nat.le_refl _) (Nat.le_refl _) ?_
              have q := keep_neg b2 h128
              rw [if_pos q] at e
              exact ⟨_, r9, L, z, _, by rw [e, q], rfl, by rw [e]; exact (hI9.m4 q b2).tcut hxJ b1 rfl, by rw [e]; exact gs⟩
          · refine g_bipush (pc := 71) (v := -4) d_M_bind_71 (by decide) ?_
            refine g_iret (pc := 73) d_M_bind_73 rfl (Nat.le_refl _) (Nat.le_refl _) ?_
            have q := num_neg b1 h68
            have e : sBind Ty Tm al (nI v0) (nI t0) = (-4, Ty, Tm) := by
              rw [sBind, h5, h13, eV, eT]
              refine (if_pos rfl).trans ((if_pos ⟨of_decide_eq_true h23, Or.inl h27⟩).trans (if_pos ?_))
              rw [sBdr, if_pos h27, sAb, if_pos q, sKeep_big (by simp)]
            exact ⟨i5, r5, L, z, d, by rw [e], rfl, by rw [e]; exact hI5.ty4 q b1, by rw [e]; exact gs⟩
        · refine g_aload_n (pc := 30) d_M_bind_30 rfl ?_
          refine gm_sort (pc := 31) d_M_bind_31 lf_M_16 ?_
          refine g_iload_n (pc := 34) d_M_bind_34 rfl ?_
          refine glm_sort (pc := 35) (v := nI (tyR T)) d_M_bind_35 (vp_in_nI (by omega) (by decide)) (by rw [nI_clamp (by omega)]; exact pT5) ?_
          refine g_nif_eq (pc := 36) (tgt := 42) d_M_bind_36 (by decide) (by omega) (fun h36 => ?_) (fun h36 => ?_)
          · refine g_aload_n (pc := 42) d_M_bind_42 rfl ?_
            refine gm_types (pc := 43) d_M_bind_43 lf_M_22 ?_
            rw [b4]
            refine g_istore (pc := 46) [(4, _), (0, _), (1, _), (2, _), (3, _)] d_M_bind_46 (by decide) rfl ?_
            refine g_iload_n (pc := 48) d_M_bind_48 rfl ?_
            refine g_if_ne (pc := 49) (tgt := 74) d_M_bind_49 (by decide) (fun h49 => ?_) (fun h => absurd h h27)
            have hJ := hI
            have wgJ := gs.1
            have hxJ := ext.rf (Ty := Ty)
            obtain ⟨qV1, qV2, qV3, qV4, qV5, qV6⟩ := hJ.2.1.mg wgJ hV0_
            obtain ⟨qT1, qT2, qT3, qT4, qT5, qT6⟩ := hJ.2.1.mg wgJ hT0_
            obtain ⟨tg, ty, htg, hty⟩ : ∃ tg ty : Nat, tg = 4 ∧ ty = 0 := ⟨4, 0, rfl, rfl⟩
            have hw : (sBd tg ty (hdt V) T).length ≤ 30 → WT Ty (dcl Tm) ty (sBd tg ty (hdt V) T) := fun _ => by
              rw [htg, hty]
              rw [h36] at wT
              exact WT_all (of_decide_eq_true h23) wT qT6
            have e1 : sBdr Ty al V T = (Ty, sBd tg ty (hdt V) T) := by
              rw [sBdr, if_neg h27, htg, hty]
            have hty16 : ty < 16 := by omega
            have e := show sBind Ty Tm al (nI v0) (nI t0) = if (sKeep Tm (sBd tg ty (hdt V) T)).1 = -4 then (-4, Ty, Tm) else ((sKeep Tm (sBd tg ty (hdt V) T)).1, Ty, (sKeep Tm (sBd tg ty (hdt V) T)).2) by
              rw [sBind, h5, h13, eV, eT]
              refine (if_pos rfl).trans ((if_pos ⟨of_decide_eq_true h23, Or.inr h36⟩).trans ?_)
              rw [e1]
            refine g_aload_n (pc := 74) d_M_bind_74 rfl ?_
            refine g_iconst (pc := 75) (v := nI 0) d_M_bind_75 (by decide) ?_
            refine gm_made_p (pc := 76) d_M_bind_76 lf_M_65 ?_
            have hI1 := hJ.cl
            refine g_aload_n (pc := 79) d_M_bind_79 rfl ?_
            refine g_iload_n (pc := 80) d_M_bind_80 rfl ?_
            refine g_if_eq (pc := 81) (tgt := 89) d_M_bind_81 (by decide) (fun h => absurd h h27) (fun h81 => ?_)
            refine g_bipush (pc := 84) (v := nI 32) d_M_bind_84 (by decide) ?_
            refine g_goto (pc := 86) (tgt := 91) d_M_bind_86 (by decide) ?_
            refine g_aload_n (pc := 91) d_M_bind_91 rfl ?_
            refine gm_sort (pc := 92) d_M_bind_92 lf_M_16 ?_
            refine g_iload_n (pc := 95) d_M_bind_95 rfl ?_
            refine glm_sort (pc := 96) (v := nI (tyR V)) d_M_bind_96 (vp_in_nI (by omega) (by decide)) (by rw [nI_clamp (by omega)]; exact qV5) ?_
            refine g_nadd (pc := 97) d_M_bind_97 ?_
            rw [show 32 + tyR V = mu (tok tg (tyR V) ty) by rw [htg, mu_4 (by omega) hty16]]
            refine g_callV (M' := m_M_put) (pc := 98) (q := 0) d_M_bind_98 lm_M_68 (c_M_put [] (tok tg (tyR V) ty) hI1.2.2.2.1 (by simp)) v_M_put rfl rfl rfl (by decide) rfl (Nat.le_of_ble_eq_true rfl) ?_
            rintro _ _ ⟨i2, r2, rfl, rfl, hx2, hk2⟩
            have hx2 : MW ([tok tg (tyR V) ty]) i2 r2 := hx2
            have hI2 := hI1.mk hk2 hx2
            show pG m_M_bind τ _ 0 0 101 _ _ _
            refine g_aload_n (pc := 101) d_M_bind_101 rfl ?_
            refine g_bipush (pc := 102) (v := nI 32) d_M_bind_102 (by decide) ?_
            refine g_iload_n (pc := 104) d_M_bind_104 rfl ?_
            refine g_nmul (pc := 105) d_M_bind_105 ?_
            refine g_aload_n (pc := 106) d_M_bind_106 rfl ?_
            refine gm_row (pc := 107) d_M_bind_107 lf_M_7 ?_
            refine g_bipush (pc := 110) (v := nI 32) d_M_bind_110 (by decide) ?_
            refine g_iload_n (pc := 112) d_M_bind_112 rfl ?_
            refine g_nmul (pc := 113) d_M_bind_113 ?_
            refine glm_row (pc := 114) (v := nI (mu (hdt V))) d_M_bind_114 (vp_in_nI (by omega) (by decide)) (by rw [nI_clamp (by omega)]; exact (qV1.kp qV2 hk2).hd.2.1) ?_
            refine g_iconst (pc := 115) (v := -1) d_M_bind_115 (by decide) ?_
            refine g_callV (M' := m_M_copyWith) (pc := 116) (q := 0) d_M_bind_116 lm_M_111 (c_M_copyWith_0 [tok tg (tyR V) ty] (32 * t0) (hdt V) T hI2.2.2.2.1 (qT1.kp qT2 hk2) qT2 qV1.hd.2.2.1 (of_decide_eq_true h23) (by simp; omega)) v_M_copyWith rfl rfl rfl (by decide) rfl (Nat.le_of_ble_eq_true rfl) ?_
            rintro _ _ ⟨i3, r3, rfl, rfl, hx3, hk3⟩
            have hx3 : MW (sBd tg ty (hdt V) T) i3 r3 := hx3
            have hI3 := hI2.mk hk3 hx3
            show pG m_M_bind τ _ 0 0 119 _ _ _
            refine g_aload_n (pc := 119) d_M_bind_119 rfl ?_
            refine g_callV (M' := m_M_keep) (pc := 120) (q := 0) d_M_bind_120 lm_M_95 (c_M_keep ty hI3 wgJ hw (by have := @cls_len (hdt V) T [0]; simp [sBd]; omega)) v_M_keep rfl rfl rfl (by decide) rfl (Nat.le_of_ble_eq_true rfl) ?_
            rintro _ _ ⟨i9, r9, rfl, rfl, hI9⟩
            show pG m_M_bind τ _ 0 0 123 _ (.int _ :: _) _
            refine g_istore (pc := 123) [(5, _), (4, _), (0, _), (1, _), (2, _), (3, _)] d_M_bind_123 (by decide) rfl ?_
            refine g_aload_n (pc := 125) d_M_bind_125 rfl ?_
            refine g_iload (pc := 126) d_M_bind_126 rfl ?_
            refine g_if_ge (pc := 128) (tgt := 136) d_M_bind_128 (by decide) (fun h128 => ?_) (fun h128 => ?_)
            · refine g_aload_n (pc := 136) d_M_bind_136 rfl ?_
              refine gm_types (pc := 137) d_M_bind_137 lf_M_22 ?_
              refine gm_types_p (pc := 140) d_M_bind_140 lf_M_22 ?_
              refine g_iload (pc := 143) d_M_bind_143 rfl ?_
              refine g_iret (pc := 145) d_M_bind_145 rfl (Nat.le_refl _) (Nat.le_refl _) ?_
              have q := keep_pos h128
              rw [if_neg q] at e
              exact ⟨_, r9, L, z, _, by rw [e], rfl, by rw [e]; exact (hI9.keep hw b2).ti, by rw [e]; exact GS.keep ⟨wgJ, gs.2⟩ hw b2⟩
            · refine g_iload (pc := 131) d_M_bind_131 rfl ?_
              refine g_goto (pc := 133) (tgt := 140) d_M_bind_133 (by decide) ?_
              refine gm_types_p (pc := 140) d_M_bind_140 lf_M_22 ?_
              refine g_iload (pc := 143) d_M_bind_143 rfl ?_
              refine g_iret (pc := 145) d_M_bind_145 rfl (Nat.le_refl _) (Nat.le_refl _) ?_
              have q := keep_neg b2 h128
              rw [if_pos q] at e
              exact ⟨_, r9, L, z, _, by rw [e, q], rfl, by rw [e]; exact (hI9.m4 q b2).tcut hxJ b1 rfl, by rw [e]; exact gs⟩
          · refine g_bipush (pc := 39) (v := -2) d_M_bind_39 (by decide) ?_
            refine g_iret (pc := 41) d_M_bind_41 rfl (Nat.le_refl _) (Nat.le_refl _) ?_
            have e : sBind Ty Tm al (nI v0) (nI t0) = (-2, Ty, Tm) := by
              rw [sBind, h5, h13, eV, eT]
              exact (if_pos rfl).trans (if_neg (by first | exact fun q => absurd q.1 (of_decide_eq_false h23) | exact fun q => q.2.elim h27 h36))
            exact ⟨i, r, L, z, d, by rw [e], rfl, by rw [e]; exact hI, by rw [e]; exact gs⟩
    · refine g_iconst (pc := 16) (v := -1) d_M_bind_16 (by decide) ?_
      refine g_iret (pc := 17) d_M_bind_17 rfl (Nat.le_refl _) (Nat.le_refl _) ?_
      have e : sBind Ty Tm al v t = (-1, Ty, Tm) := by
        first | (rw [sBind, h5]; rfl) | (rw [sBind, h5, h13]; rfl)
      exact ⟨i, r, L, z, d, by rw [e], rfl, by rw [e]; exact hI, by rw [e]; exact gs⟩
theorem dcl_const {Tm : List (List Nat)} {x t : Nat} (hd : (dcl Tm x).getD t = t) (hx : x < 32) (ht : t < 16) (hl : Tm.length ≤ 60) (h : ¬ (sKeep Tm [tok 1 x t]).1 = -4) : dcl (sKeep Tm [tok 1 x t]).2 = fun n => if n = x then some t else dcl Tm n := by
  funext n
  have hp : ∀ m : Nat, (decide (tgR [tok 1 x t] = 1) && decide (inR [tok 1 x t] = m)) = decide (x = m) := fun m => by
    show (decide (tok 1 x t / 512 = 1) && decide (tok 1 x t / 16 % 32 = m)) = _
    rw [tok_tg hx ht, tok_in hx ht]
    simp
  have hty : tyR [tok 1 x t] = t := tok_ty ht
  obtain ⟨k, -, -, -, hk, -, -, -, -, hc⟩ := sKeep_nI h hl
  by_cases e : n = x
  · subst e
    rw [if_pos rfl]
    have fin : ∀ Tm2 : List (List Nat), [tok 1 n t] ∈ Tm2 → (∀ y, dcl Tm n = some y → dcl Tm2 n = some y) → (dcl Tm n = none → dcl Tm2 n = some t) → dcl Tm2 n = some t := by
      intro Tm2 _ h1 h2
      cases q : dcl Tm n with
      | none => exact h2 q
      | some y =>
        rw [q] at hd
        have hd : y = t := hd
        rw [h1 y q, hd]
    rcases hc with hc | hc
    · rw [hc] at hk ⊢
      refine fin Tm (List.mem_of_getElem? hk) (fun _ h => h) (fun q => ?_)
      exfalso
      unfold dcl at q
      rw [Option.map_eq_none_iff, List.find?_eq_none] at q
      exact q _ (List.mem_of_getElem? hk) (by rw [hp]; simp)
    · rw [hc]
      refine fin _ (by simp) (fun y q => ?_) (fun q => ?_)
      · unfold dcl at q ⊢
        rw [List.find?_append]
        cases hf : Tm.find? (fun row => decide (tgR row = 1) && decide (inR row = n)) with
        | none => rw [hf] at q; cases q
        | some row => rw [hf] at q; exact q
      · unfold dcl at q ⊢
        rw [List.find?_append]
        cases hf : Tm.find? (fun row => decide (tgR row = 1) && decide (inR row = n)) with
        | none => simp only [List.find?, hp]; simp; exact hty
        | some row => rw [hf] at q; cases q
  · rw [if_neg e]
    rcases hc with hc | hc
    · rw [hc]
    · rw [hc]
      unfold dcl
      rw [List.find?_append]
      cases hf : Tm.find? (fun row => decide (tgR row = 1) && decide (inR row = n)) with
      | none => simp only [List.find?, hp, decide_eq_false (Ne.symm e)]; rfl
      | some row => rfl
theorem MI.dc {Ty : List (Nat × Nat)} {Tm : List (List Nat)} {Th : List Thm} {Cn : Nat → Option Nat} {d : List Nat} {i : Nat → Int32} {r : Nat → Nat → Int32} {L : Nat → Nat → Int64} (h : MI Ty Tm Th Cn d i r L) (x : Nat) (o : Option Nat) (ho : oI o ≤ 16) : MI Ty Tm Th (fun n => if n = x then o else Cn n) d i (va_up r 6 (upd (r 6) x (nI (oI o)))) L := by
  refine ⟨h.1.mv rfl (up_n (by decide)) (up_n (by decide)), h.2.1.mv rfl (up_n (by decide)) (up_n (by decide)) (fun k _ => by rw [up_n (by decide)]), fun n hn => ?_, ⟨h.2.2.2.1.1, by rw [up_n (by decide)]; exact h.2.2.2.1.2⟩, h.2.2.2.2.mv rfl (up_n (by decide)) (up_n (by decide))⟩
  rw [up_s]
  show upd (r 6) x (nI (oI o)) n = nI (oI (if n = x then o else Cn n)) ∧ oI (if n = x then o else Cn n) ≤ 16
  by_cases e : n = x
  · subst e
    rw [if_pos rfl, pk_us]
    exact ⟨rfl, ho⟩
  · rw [if_neg e, pk_un e]
    exact h.2.2.1 n hn
theorem WG.dc {Ty : List (Nat × Nat)} {Tm : List (List Nat)} {x t : Nat} (wg : WG Ty Tm (dcl Tm)) (hd : (dcl Tm x).getD t = t) : WG Ty Tm (fun n => if n = x then some t else dcl Tm n) := by
  refine ⟨wg.1, wg.2.1, fun k row hk => ⟨chk_mono ext.rf (fun n y hn => ?_) cle_rf (wg.2.2 k row hk).1, (wg.2.2 k row hk).2⟩⟩
  show (if n = x then some t else dcl Tm n) = some y
  by_cases e : n = x
  · subst e
    rw [hn] at hd
    have hd : y = t := hd
    rw [if_pos rfl, hd]
  · rw [if_neg e]; exact hn
theorem MI.cn {Ty : List (Nat × Nat)} {Tm : List (List Nat)} {Th : List Thm} {Cn Cn2 : Nat → Option Nat} {d : List Nat} {i : Nat → Int32} {r : Nat → Nat → Int32} {L : Nat → Nat → Int64} (h : MI Ty Tm Th Cn d i r L) (e : Cn2 = Cn) : MI Ty Tm Th Cn2 d i r L := by rw [e]; exact h
theorem oI_no {o : Option Nat} {t : Nat} (h : oI o = 0) : o.getD t = t := by cases o with | none => rfl | some y => exact absurd h (Nat.succ_ne_zero y)
theorem oI_eq {o : Option Nat} {t : Nat} (h : oI o = t + 1) : o.getD t = t := by cases o with | none => rfl | some y => exact Nat.succ.inj h
theorem oI_ne {o : Option Nat} {t : Nat} (h0 : 0 < oI o) (h : ¬ oI o = t + 1) : ¬ o.getD t = t := by cases o with | none => exact absurd h0 (Nat.lt_irrefl 0) | some y => exact fun q => h (congrArg Nat.succ q)
set_option maxRecDepth 100000 in
set_option maxHeartbeats 4000000 in
theorem c_M_constant {τ : Nat × Nat} {a : Nat → Nat} {i : Nat → Int32} {r : Nat → Nat → Int32} {L : Nat → Nat → Int64} {z : Int64} {wr : pW} {Ty : List (Nat × Nat)} {Tm : List (List Nat)} {Th : List Thm} {d : List Nat} (x t : Int32) (hI : MI Ty Tm Th (dcl Tm) d i r L) (gs : GS Ty Tm Th) : pC m_M_constant τ [.ref (a 0), .int x, .int t] (wM a i r L z ++ wr) ((fun rr w2 => ∃ i2 r2 L2 z2 d2, rr = some (.int ((sConstant Ty Tm x t).1)) ∧ w2 = wM a i2 r2 L2 z2 ++ wr ∧ MI (Ty) ((sConstant Ty Tm x t).2) (Th) (dcl ((sConstant Ty Tm x t).2)) d2 i2 r2 L2 ∧ GS (Ty) ((sConstant Ty Tm x t).2) (Th))) := by
  refine pC.of rfl (Nat.le_of_ble_eq_true rfl) ?_
  show pG m_M_constant τ _ 0 0 0 [(0, _), (1, _), (2, _)] [] _
  obtain ⟨b1, b2, b3, b4, b5, b6, b7⟩ := hI.b
  refine g_iload_n (pc := 0) d_M_constant_0 rfl ?_
  refine g_if_lt (pc := 1) (tgt := 17) d_M_constant_1 (by decide) (fun h1 => ?_) (fun h1 => ?_)
  · refine g_iconst (pc := 17) (v := -1) d_M_constant_17 (by decide) ?_
    refine g_iret (pc := 18) d_M_constant_18 rfl (Nat.le_refl _) (Nat.le_refl _) ?_
    have e : sConstant Ty Tm x t = (-1, Tm) := by
      first | (rw [sConstant, ixB_neg h1]; rfl) | (rw [sConstant, ixB_big9 (n := 3) (by decide) h6]; rfl) | (rw [sConstant, h14, Bool.and_false]; rfl)
    exact ⟨i, r, L, z, d, by rw [e], rfl, by rw [e]; exact hI, by rw [e]; exact gs⟩
  · refine g_iload_n (pc := 4) d_M_constant_4 rfl ?_
    refine g_iconst (pc := 5) (v := nI 3) d_M_constant_5 (by decide) ?_
    refine g_icmp_gt (pc := 6) (tgt := 17) d_M_constant_6 (by decide) (fun h6 => ?_) (fun h6 => ?_)
    · refine g_iconst (pc := 17) (v := -1) d_M_constant_17 (by decide) ?_
      refine g_iret (pc := 18) d_M_constant_18 rfl (Nat.le_refl _) (Nat.le_refl _) ?_
      have e : sConstant Ty Tm x t = (-1, Tm) := by
        first | (rw [sConstant, ixB_neg h1]; rfl) | (rw [sConstant, ixB_big9 (n := 3) (by decide) h6]; rfl) | (rw [sConstant, h14, Bool.and_false]; rfl)
      exact ⟨i, r, L, z, d, by rw [e], rfl, by rw [e]; exact hI, by rw [e]; exact gs⟩
    · refine g_aload_n (pc := 9) d_M_constant_9 rfl ?_
      refine g_iload_n (pc := 10) d_M_constant_10 rfl ?_
      refine g_callV (M' := m_M_isType) (pc := 11) (q := 0) d_M_constant_11 lm_M_92 (c_M_isType (3 + Ty.length) b4 (by omega) _) v_M_isType rfl rfl rfl (by decide) rfl (Nat.le_of_ble_eq_true rfl) ?_
      rintro _ _ ⟨rfl, rfl⟩
      show pG m_M_constant τ _ 0 0 14 _ (.int _ :: _) _
      refine g_ifb_ne (pc := 14) (tgt := 19) d_M_constant_14 (by decide) (fun h14 => ?_) (fun h14 => ?_)
      · have hx := ixB_in9 (n := 3) (by decide) h1 h6
        obtain ⟨x0, hx0, rfl⟩ := ixB_of hx (by decide)
        obtain ⟨t0, ht0, rfl⟩ := ixB_of h14 (by omega)
        have ho := (hI.2.2.1 x0 hx0).2
        refine g_aload_n (pc := 19) d_M_constant_19 rfl ?_
        refine gm_declared (pc := 20) d_M_constant_20 lf_M_32 ?_
        refine g_iload_n (pc := 23) d_M_constant_23 rfl ?_
        refine glm_declared (pc := 24) (v := nI (oI (dcl Tm x0))) d_M_constant_24 (vp_in_nI (by omega) (by decide)) (by rw [nI_clamp (by omega)]; exact (hI.2.2.1 x0 hx0).1) ?_
        refine g_istore_n (pc := 25) [(3, _), (0, _), (1, _), (2, _)] d_M_constant_25 (by decide) rfl ?_
        refine g_iload_n (pc := 26) d_M_constant_26 rfl ?_
        refine g_nif_le (pc := 27) (tgt := 40) d_M_constant_27 (by decide) (by omega) (fun h27 => ?_) (fun h27 => ?_)
        · have hd : (dcl Tm x0).getD t0 = t0 := by first | exact oI_no h27 | exact oI_eq h34
          have e : sConstant Ty Tm (nI x0) (nI t0) = sKeep Tm [tok 1 x0 t0] := by
            rw [sConstant, hx, h14, nI_clamp (by omega), nI_clamp (by omega)]
            exact (if_pos rfl).trans (if_pos hd)
          have wgc := gs.1.dc hd
          have hw : [tok 1 x0 t0].length ≤ 30 → WT Ty (fun n => if n = x0 then some t0 else dcl Tm n) t0 [tok 1 x0 t0] := fun _ => WT_leaf (Or.inr ⟨rfl, hx0, if_pos rfl⟩) (by omega) ht0
          refine g_aload_n (pc := 40) d_M_constant_40 rfl ?_
          refine gm_declared (pc := 41) d_M_constant_41 lf_M_32 ?_
          refine g_iload_n (pc := 44) d_M_constant_44 rfl ?_
          refine g_iload_n (pc := 45) d_M_constant_45 rfl ?_
          refine g_iconst (pc := 46) (v := nI 1) d_M_constant_46 (by decide) ?_
          refine g_nadd (pc := 47) d_M_constant_47 ?_
          refine gsm_declared (pc := 48) d_M_constant_48 (vp_in_nI (by omega) (by decide)) ?_
          rw [nI_clamp (show x0 < 2 ^ 31 by omega)]
          have hI0 := hI.dc x0 (some t0) (show t0 + 1 ≤ 16 by omega)
          refine g_aload_n (pc := 49) d_M_constant_49 rfl ?_
          refine g_iconst (pc := 50) (v := nI 0) d_M_constant_50 (by decide) ?_
          refine gm_made_p (pc := 51) d_M_constant_51 lf_M_65 ?_
          have hI1 := hI0.cl
          refine g_aload_n (pc := 54) d_M_constant_54 rfl ?_
          refine g_sipush (pc := 55) (v := nI 240) d_M_constant_55 (by decide) ?_
          refine g_iload_n (pc := 58) d_M_constant_58 rfl ?_
          refine g_nadd (pc := 59) d_M_constant_59 ?_
          rw [show 240 + x0 = mu (tok 1 x0 t0) from (mu_1 (by omega) (by omega)).symm]
          refine g_callV (M' := m_M_put) (pc := 60) (q := 0) d_M_constant_60 lm_M_68 (c_M_put [] (tok 1 x0 t0) hI1.2.2.2.1 (by simp)) v_M_put rfl rfl rfl (by decide) rfl (Nat.le_of_ble_eq_true rfl) ?_
          rintro _ _ ⟨i2, r2, rfl, rfl, hx2, hk2⟩
          have hx2 : MW ([tok 1 x0 t0]) i2 r2 := hx2
          have hI2 := hI1.mk hk2 hx2
          show pG m_M_constant τ _ 0 0 63 _ _ _
          refine g_aload_n (pc := 63) d_M_constant_63 rfl ?_
          refine g_callV (M' := m_M_keep) (pc := 64) (q := 0) d_M_constant_64 lm_M_95 (c_M_keep t0 hI2 wgc hw (by simp)) v_M_keep rfl rfl rfl (by decide) rfl (Nat.le_of_ble_eq_true rfl) ?_
          rintro _ _ ⟨i9, r9, rfl, rfl, hI9⟩
          show pG m_M_constant τ _ 0 0 67 _ (.int _ :: _) _
          refine g_istore (pc := 67) [(4, _), (3, _), (0, _), (1, _), (2, _)] d_M_constant_67 (by decide) rfl ?_
          refine g_aload_n (pc := 69) d_M_constant_69 rfl ?_
          refine gm_declared (pc := 70) d_M_constant_70 lf_M_32 ?_
          refine g_iload_n (pc := 73) d_M_constant_73 rfl ?_
          refine g_iload (pc := 74) d_M_constant_74 rfl ?_
          refine g_if_ge (pc := 76) (tgt := 83) d_M_constant_76 (by decide) (fun h76 => ?_) (fun h76 => ?_)
          · refine g_iload_n (pc := 83) d_M_constant_83 rfl ?_
            refine g_iconst (pc := 84) (v := nI 1) d_M_constant_84 (by decide) ?_
            refine g_nadd (pc := 85) d_M_constant_85 ?_
            refine gsm_declared (pc := 86) d_M_constant_86 (vp_in_nI (by omega) (by decide)) ?_
            rw [nI_clamp (show x0 < 2 ^ 31 by omega)]
            refine g_iload (pc := 87) d_M_constant_87 rfl ?_
            refine g_iret (pc := 89) d_M_constant_89 rfl (Nat.le_refl _) (Nat.le_refl _) ?_
            have q := keep_pos h76
            have hdc := dcl_const hd (by omega) (by omega) b2 q
            exact ⟨i9, _, L, z, _, by rw [e], rfl, by
              rw [e]
              exact (hI9.dc x0 (some t0) (show t0 + 1 ≤ 16 by omega)).cn (by rw [hdc]; funext n; by_cases c : n = x0 <;> simp [c]), by
              rw [e]
              refine ⟨?_, gs.2.keep _ b2⟩
              rw [hdc]
              exact wgc.keep hw b2⟩
          · refine g_iload_n (pc := 79) d_M_constant_79 rfl ?_
            refine g_goto (pc := 80) (tgt := 86) d_M_constant_80 (by decide) ?_
            refine gsm_declared (pc := 86) d_M_constant_86 (vp_in_nI (by omega) (by decide)) ?_
            rw [nI_clamp (show x0 < 2 ^ 31 by omega)]
            refine g_iload (pc := 87) d_M_constant_87 rfl ?_
            refine g_iret (pc := 89) d_M_constant_89 rfl (Nat.le_refl _) (Nat.le_refl _) ?_
            have q := keep_neg b2 h76
            exact ⟨i9, _, L, z, _, by rw [e], rfl, by
              rw [e, sKeep_m4 q b2]
              exact ((hI9.m4 q b2).dc x0 (dcl Tm x0) ho).cn (by funext n; by_cases c : n = x0 <;> simp [c]), by
              rw [e, sKeep_m4 q b2]
              exact gs⟩
        · refine g_iload_n (pc := 30) d_M_constant_30 rfl ?_
          refine g_iload_n (pc := 31) d_M_constant_31 rfl ?_
          refine g_iconst (pc := 32) (v := nI 1) d_M_constant_32 (by decide) ?_
          refine g_nadd (pc := 33) d_M_constant_33 ?_
          refine g_nicmp_eq (pc := 34) (tgt := 40) d_M_constant_34 (by decide) (by omega) (by omega) (fun h34 => ?_) (fun h34 => ?_)
          · have hd : (dcl Tm x0).getD t0 = t0 := by first | exact oI_no h27 | exact oI_eq h34
            have e : sConstant Ty Tm (nI x0) (nI t0) = sKeep Tm [tok 1 x0 t0] := by
              rw [sConstant, hx, h14, nI_clamp (by omega), nI_clamp (by omega)]
              exact (if_pos rfl).trans (if_pos hd)
            have wgc := gs.1.dc hd
            have hw : [tok 1 x0 t0].length ≤ 30 → WT Ty (fun n => if n = x0 then some t0 else dcl Tm n) t0 [tok 1 x0 t0] := fun _ => WT_leaf (Or.inr ⟨rfl, hx0, if_pos rfl⟩) (by omega) ht0
            refine g_aload_n (pc := 40) d_M_constant_40 rfl ?_
            refine gm_declared (pc := 41) d_M_constant_41 lf_M_32 ?_
            refine g_iload_n (pc := 44) d_M_constant_44 rfl ?_
            refine g_iload_n (pc := 45) d_M_constant_45 rfl ?_
            refine g_iconst (pc := 46) (v := nI 1) d_M_constant_46 (by decide) ?_
            refine g_nadd (pc := 47) d_M_constant_47 ?_
            refine gsm_declared (pc := 48) d_M_constant_48 (vp_in_nI (by omega) (by decide)) ?_
            rw [nI_clamp (show x0 < 2 ^ 31 by omega)]
            have hI0 := hI.dc x0 (some t0) (show t0 + 1 ≤ 16 by omega)
            refine g_aload_n (pc := 49) d_M_constant_49 rfl ?_
            refine g_iconst (pc := 50) (v := nI 0) d_M_constant_50 (by decide) ?_
            refine gm_made_p (pc := 51) d_M_constant_51 lf_M_65 ?_
            have hI1 := hI0.cl
            refine g_aload_n (pc := 54) d_M_constant_54 rfl ?_
            refine g_sipush (pc := 55) (v := nI 240) d_M_constant_55 (by decide) ?_
            refine g_iload_n (pc := 58) d_M_constant_58 rfl ?_
            refine g_nadd (pc := 59) d_M_constant_59 ?_
            rw [show 240 + x0 = mu (tok 1 x0 t0) from (mu_1 (by omega) (by omega)).symm]
            refine g_callV (M' := m_M_put) (pc := 60) (q := 0) d_M_constant_60 lm_M_68 (c_M_put [] (tok 1 x0 t0) hI1.2.2.2.1 (by simp)) v_M_put rfl rfl rfl (by decide) rfl (Nat.le_of_ble_eq_true rfl) ?_
            rintro _ _ ⟨i2, r2, rfl, rfl, hx2, hk2⟩
            have hx2 : MW ([tok 1 x0 t0]) i2 r2 := hx2
            have hI2 := hI1.mk hk2 hx2
            show pG m_M_constant τ _ 0 0 63 _ _ _
            refine g_aload_n (pc := 63) d_M_constant_63 rfl ?_
            refine g_callV (M' := m_M_keep) (pc := 64) (q := 0) d_M_constant_64 lm_M_95 (c_M_keep t0 hI2 wgc hw (by simp)) v_M_keep rfl rfl rfl (by decide) rfl (Nat.le_of_ble_eq_true rfl) ?_
            rintro _ _ ⟨i9, r9, rfl, rfl, hI9⟩
            show pG m_M_constant τ _ 0 0 67 _ (.int _ :: _) _
            refine g_istore (pc := 67) [(4, _), (3, _), (0, _), (1, _), (2, _)] d_M_constant_67 (by decide) rfl ?_
            refine g_aload_n (pc := 69) d_M_constant_69 rfl ?_
            refine gm_declared (pc := 70) d_M_constant_70 lf_M_32 ?_
            refine g_iload_n (pc := 73) d_M_constant_73 rfl ?_
            refine g_iload (pc := 74) d_M_constant_74 rfl ?_
            refine g_if_ge (pc := 76) (tgt := 83) d_M_constant_76 (by decide) (fun h76 => ?_) (fun h76 => ?_)
            · refine g_iload_n (pc := 83) d_M_constant_83 rfl ?_
              refine g_iconst (pc := 84) (v := nI 1) d_M_constant_84 (by decide) ?_
              refine g_nadd (pc := 85) d_M_constant_85 ?_
              refine gsm_declared (pc := 86) d_M_constant_86 (vp_in_nI (by omega) (by decide)) ?_
              rw [nI_clamp (show x0 < 2 ^ 31 by omega)]
              refine g_iload (pc := 87) d_M_constant_87 rfl ?_
              refine g_iret (pc := 89) d_M_constant_89 rfl (Nat.le_refl _) (Nat.le_refl _) ?_
              have q := keep_pos h76
              have hdc := dcl_const hd (by omega) (by omega) b2 q
              exact ⟨i9, _, L, z, _, by rw [e], rfl, by
                rw [e]
                exact (hI9.dc x0 (some t0) (show t0 + 1 ≤ 16 by omega)).cn (by rw [hdc]; funext n; by_cases c : n = x0 <;> simp [c]), by
                rw [e]
                refine ⟨?_, gs.2.keep _ b2⟩
                rw [hdc]
                exact wgc.keep hw b2⟩
            · refine g_iload_n (pc := 79) d_M_constant_79 rfl ?_
              refine g_goto (pc := 80) (tgt := 86) d_M_constant_80 (by decide) ?_
              refine gsm_declared (pc := 86) d_M_constant_86 (vp_in_nI (by omega) (by decide)) ?_
              rw [nI_clamp (show x0 < 2 ^ 31 by omega)]
              refine g_iload (pc := 87) d_M_constant_87 rfl ?_
              refine g_iret (pc := 89) d_M_constant_89 rfl (Nat.le_refl _) (Nat.le_refl _) ?_
              have q := keep_neg b2 h76
              exact ⟨i9, _, L, z, _, by rw [e], rfl, by
                rw [e, sKeep_m4 q b2]
                exact ((hI9.m4 q b2).dc x0 (dcl Tm x0) ho).cn (by funext n; by_cases c : n = x0 <;> simp [c]), by
                rw [e, sKeep_m4 q b2]
                exact gs⟩
          · refine g_bipush (pc := 37) (v := -2) d_M_constant_37 (by decide) ?_
            refine g_iret (pc := 39) d_M_constant_39 rfl (Nat.le_refl _) (Nat.le_refl _) ?_
            have e : sConstant Ty Tm (nI x0) (nI t0) = (-2, Tm) := by
              rw [sConstant, hx, h14, nI_clamp (by omega), nI_clamp (by omega)]
              exact (if_pos rfl).trans (if_neg (oI_ne h27 h34))
            exact ⟨i, r, L, z, d, by rw [e], rfl, by rw [e]; exact hI, by rw [e]; exact gs⟩
      · refine g_iconst (pc := 17) (v := -1) d_M_constant_17 (by decide) ?_
        refine g_iret (pc := 18) d_M_constant_18 rfl (Nat.le_refl _) (Nat.le_refl _) ?_
        have e : sConstant Ty Tm x t = (-1, Tm) := by
          first | (rw [sConstant, ixB_neg h1]; rfl) | (rw [sConstant, ixB_big9 (n := 3) (by decide) h6]; rfl) | (rw [sConstant, h14, Bool.and_false]; rfl)
        exact ⟨i, r, L, z, d, by rw [e], rfl, by rw [e]; exact hI, by rw [e]; exact gs⟩
