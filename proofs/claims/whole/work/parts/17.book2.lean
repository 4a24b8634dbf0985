/-! Book: axiomsOf, stepsOf. By wip/whole/m_book.py -/
/-- a number for each theorem, out of those before it -/
def bld (F : List Nat → Thm → Nat) (Th : List Thm) : List Nat := Th.foldl (fun acc th => acc ++ [F acc th]) []
theorem bld_snoc (F : List Nat → Thm → Nat) (Th : List Thm) (th : Thm) : bld F (Th ++ [th]) = bld F Th ++ [F (bld F Th) th] := by simp [bld, List.foldl_append]
theorem bld_len (F : List Nat → Thm → Nat) : ∀ (n : Nat) (Th : List Thm), Th.length = n → (bld F Th).length = n
  | 0, Th, h => by
    have : Th = [] := List.eq_nil_of_length_eq_zero h
    subst this
    rfl
  | n + 1, Th, h => by
    have hne : Th ≠ [] := by intro e; rw [e] at h; simp at h
    obtain ⟨T, th, rfl⟩ : ∃ T th, Th = T ++ [th] := ⟨Th.dropLast, Th.getLast hne, (List.dropLast_concat_getLast hne).symm⟩
    rw [bld_snoc, List.length_append, bld_len F n T (by simpa using h)]
    rfl
theorem bld_len' (F : List Nat → Thm → Nat) (Th : List Thm) : (bld F Th).length = Th.length := bld_len F _ Th rfl
theorem bld_at (F : List Nat → Thm → Nat) : ∀ (n : Nat) (Th : List Thm) (k : Nat) (th : Thm), Th.length = n → Th[k]? = some th → (bld F Th)[k]? = some (F ((bld F Th).take k) th)
  | 0, Th, k, th, h, hk => by
    have : Th = [] := List.eq_nil_of_length_eq_zero h
    subst this
    simp at hk
  | n + 1, Th, k, th, h, hk => by
    have hne : Th ≠ [] := by intro e; rw [e] at h; simp at h
    obtain ⟨T, t0, rfl⟩ : ∃ T th, Th = T ++ [th] := ⟨Th.dropLast, Th.getLast hne, (List.dropLast_concat_getLast hne).symm⟩
    have hT : T.length = n := by simpa using h
    have hl := bld_len F n T hT
    rw [bld_snoc]
    by_cases c : k < T.length
    · rw [List.getElem?_append_left c] at hk
      rw [List.getElem?_append_left (by omega), List.take_append_of_le_length (by omega)]
      exact bld_at F n T k th hT hk
    · rw [List.getElem?_append_right (by omega)] at hk
      have hz : k - T.length < 1 := (List.getElem?_eq_some_iff.mp hk).1
      have hk2 : k = T.length := by omega
      subst hk2
      simp at hk
      subst hk
      rw [List.getElem?_append_right (by omega), List.take_append_of_le_length (by omega), List.take_of_length_le (by omega), hl, hT]
      simp
def axF (acc : List Nat) (th : Thm) : Nat := ((if nbx th.1 = 2 then acc.getD th.2.1 0 else 0) ||| (if nby th.1 = 2 then acc.getD th.2.2.1 0 else 0)) ||| (if th.1 = 0 then 2 ^ acc.length else 0)
def stF (acc : List Nat) (th : Thm) : Nat := min (1 + (if nbx th.1 = 2 then acc.getD th.2.1 0 else 0) + (if nby th.1 = 2 then acc.getD th.2.2.1 0 else 0)) 1000000
def axv (Th : List Thm) (k : Nat) : Nat := (bld axF Th).getD k 0
def stv (Th : List Thm) (k : Nat) : Nat := (bld stF Th).getD k 0
theorem take_getD {l : List Nat} {k x : Nat} (h : x < k) : (l.take k).getD x 0 = l.getD x 0 := by
  rw [List.getD_eq_getElem?_getD, List.getD_eq_getElem?_getD, List.getElem?_take_of_lt h]
theorem axv_eq {Th : List Thm} {k rl x y h c : Nat} (hk : Th[k]? = some (rl, x, y, h, c)) (hx : nbx rl = 2 → x < k) (hy : nby rl = 2 → y < k) : axv Th k = ((if nbx rl = 2 then axv Th x else 0) ||| (if nby rl = 2 then axv Th y else 0)) ||| (if rl = 0 then 2 ^ k else 0) := by
  have h1 := bld_at axF _ Th k _ rfl hk
  have hl : ((bld axF Th).take k).length = k := by
    rw [List.length_take, bld_len']
    have := (List.getElem?_eq_some_iff.mp hk).1
    omega
  unfold axv
  rw [List.getD_eq_getElem?_getD, h1]
  simp only [Option.getD_some, axF, hl]
  congr 2
  · split
    · rename_i e; rw [take_getD (hx e)]
    · rfl
  · split
    · rename_i e; rw [take_getD (hy e)]
    · rfl
theorem stv_eq {Th : List Thm} {k rl x y h c : Nat} (hk : Th[k]? = some (rl, x, y, h, c)) (hx : nbx rl = 2 → x < k) (hy : nby rl = 2 → y < k) : stv Th k = min (1 + (if nbx rl = 2 then stv Th x else 0) + (if nby rl = 2 then stv Th y else 0)) 1000000 := by
  have h1 := bld_at stF _ Th k _ rfl hk
  unfold stv
  rw [List.getD_eq_getElem?_getD, h1]
  simp only [Option.getD_some, stF]
  congr 2
  · congr 1
    split
    · rename_i e; rw [take_getD (hx e)]
    · rfl
  · split
    · rename_i e; rw [take_getD (hy e)]
    · rfl
theorem stv_le (Th : List Thm) (k : Nat) : stv Th k ≤ 1000000 := by
  by_cases c : k < Th.length
  · have h1 := bld_at stF _ Th k Th[k] rfl (List.getElem?_eq_getElem c)
    unfold stv
    rw [List.getD_eq_getElem?_getD, h1]
    simp only [Option.getD_some, stF]
    exact Nat.min_le_right _ _
  · unfold stv
    rw [List.getD_eq_getElem?_getD, List.getElem?_eq_none (by rw [bld_len']; omega)]
    simp
theorem c_B_setOf {τ : Nat × Nat} {w : pW} (P : Prop) [Decidable P] (k : Nat) (hk : P → k < 40) : pC m_B_setOf τ [.int (if P then nI k else -1)] w (fun rr w2 => rr = some (.long (lN (if P then 2 ^ k else 0))) ∧ w2 = w) := by
  by_cases h : P
  · rw [if_pos h, if_pos h]
    exact c_B_setOf_1 k (hk h)
  · rw [if_neg h, if_neg h]
    exact c_B_setOf_0
theorem c_B_stepsBefore {τ : Nat × Nat} {a : Nat → Nat} {i : Nat → Int32} {r : Nat → Nat → Int32} {L : Nat → Int64} {wr : pW} (P : Prop) [Decidable P] (k s : Nat) (hk : P → k < 40 ∧ r 10 k = nI s) : pC m_B_stepsBefore τ [.ref (a 4), .int (if P then nI k else -1)] (wX a i r L ++ wr) (fun rr w2 => rr = some (.int (nI (if P then s else 0))) ∧ w2 = wX a i r L ++ wr) := by
  by_cases h : P
  · rw [if_pos h, if_pos h, ← (hk h).2]
    exact c_B_stepsBefore_1 k (hk h).1
  · rw [if_neg h, if_neg h]
    exact c_B_stepsBefore_0
theorem eq2 {x : Int32} : x = 2 ↔ x = nI 2 := Iff.rfl
theorem or_lt40 {a b : Nat} (ha : a < 2 ^ 40) (hb : b < 2 ^ 40) : a ||| b < 2 ^ 40 := Nat.or_lt_two_pow ha hb
theorem pw_lt40 {x : Nat} (h : x < 40) : 2 ^ x < 2 ^ 40 := wb_lt2 h
theorem nat_bits {a b : Nat} (h : ∀ z, a.testBit z = true ↔ b.testBit z = true) : a = b := Nat.eq_of_testBit_eq (fun z => by
  have := h z
  cases e1 : a.testBit z <;> cases e2 : b.testBit z <;> simp_all)
theorem ite_bit {P : Prop} [Decidable P] {A z : Nat} : (if P then A else 0).testBit z = true ↔ P ∧ A.testBit z = true := by
  split
  · rename_i e; simp [e]
  · rename_i e; simp [e]
/-- one step back in the search for the axioms -/
theorem ax_step {Th : List Thm} {j met ax rl x y h c : Nat} (hk : Th[j]? = some (rl, x, y, h, c)) (hx : nbx rl = 2 → x < j) (hy : nby rl = 2 → y < j) (hm : met.testBit j = true) (z : Nat) :
    (ax.testBit z = true ∨ ∃ q, q < j + 1 ∧ met.testBit q = true ∧ (axv Th q).testBit z = true) ↔ ((if rl = 0 then ax ||| 2 ^ j else ax).testBit z = true ∨ ∃ q, q < j ∧ (met ||| ((if nbx rl = nI 2 then 2 ^ x else 0) ||| (if nby rl = nI 2 then 2 ^ y else 0))).testBit q = true ∧ (axv Th q).testBit z = true) := by
  have hax := axv_eq hk hx hy
  have hX : ∀ q, (if nbx rl = nI 2 then 2 ^ x else 0).testBit q = true ↔ nbx rl = 2 ∧ q = x := by
    intro q
    split
    · rename_i e
      rw [Nat.testBit_two_pow]
      simp only [decide_eq_true_eq]
      exact ⟨fun f => ⟨e, f.symm⟩, fun f => f.2.symm⟩
    · rename_i e
      simp
      exact fun f => absurd f e
  have hY : ∀ q, (if nby rl = nI 2 then 2 ^ y else 0).testBit q = true ↔ nby rl = 2 ∧ q = y := by
    intro q
    split
    · rename_i e
      rw [Nat.testBit_two_pow]
      simp only [decide_eq_true_eq]
      exact ⟨fun f => ⟨e, f.symm⟩, fun f => f.2.symm⟩
    · rename_i e
      simp
      exact fun f => absurd f e
  have hj : (2 ^ j).testBit z = true ↔ z = j := by
    rw [Nat.testBit_two_pow]
    simp only [decide_eq_true_eq]
    exact ⟨Eq.symm, Eq.symm⟩
  have hA : (axv Th j).testBit z = true ↔ (nbx rl = 2 ∧ (axv Th x).testBit z = true) ∨ (nby rl = 2 ∧ (axv Th y).testBit z = true) ∨ (rl = 0 ∧ z = j) := by
    rw [hax]
    simp only [Nat.testBit_or, Bool.or_eq_true]
    rw [ite_bit, ite_bit, ite_bit, hj, or_assoc]
  have hB : (if rl = 0 then ax ||| 2 ^ j else ax).testBit z = true ↔ ax.testBit z = true ∨ (rl = 0 ∧ z = j) := by
    split
    · rename_i e3
      rw [Nat.testBit_or, Bool.or_eq_true, hj]
      simp [e3]
    · rename_i e3
      simp [e3]
  rw [hB]
  simp only [Nat.testBit_or, Bool.or_eq_true, hX, hY]
  constructor
  · rintro (h1 | ⟨q, hq, h2, h3⟩)
    · exact Or.inl (Or.inl h1)
    · by_cases e : q = j
      · subst e
        rcases hA.mp h3 with ⟨g1, g2⟩ | ⟨g1, g2⟩ | g
        · exact Or.inr ⟨x, hx g1, Or.inr (Or.inl ⟨g1, rfl⟩), g2⟩
        · exact Or.inr ⟨y, hy g1, Or.inr (Or.inr ⟨g1, rfl⟩), g2⟩
        · exact Or.inl (Or.inr g)
      · exact Or.inr ⟨q, by omega, Or.inl h2, h3⟩
  · rintro ((h1 | h1) | ⟨q, hq, (h2 | ⟨g1, rfl⟩ | ⟨g1, rfl⟩), h3⟩)
    · exact Or.inl h1
    · exact Or.inr ⟨j, by omega, hm, hA.mpr (Or.inr (Or.inr h1))⟩
    · exact Or.inr ⟨q, by omega, h2, h3⟩
    · exact Or.inr ⟨j, by omega, hm, hA.mpr (Or.inl ⟨g1, h3⟩)⟩
    · exact Or.inr ⟨j, by omega, hm, hA.mpr (Or.inr (Or.inl ⟨g1, h3⟩))⟩
set_option maxRecDepth 100000 in
set_option maxHeartbeats 4000000 in
theorem c_B_axiomsOf {τ : Nat × Nat} {a : Nat → Nat} {i : Nat → Int32} {r : Nat → Nat → Int32} {L : Nat → Int64} {wr : pW} (Th : List Thm) (k : Nat) (hb : XB Th i r L) (hk : k < Th.length) : pC m_B_axiomsOf τ [.ref (a 4), .int (nI k)] (wX a i r L ++ wr) ((fun rr w2 => rr = some (.long (lN (axv Th k))) ∧ w2 = wX a i r L ++ wr)) := by
  have h40 := hb.2.1
  have key : ∀ (m met ax : Nat), m ≤ k + 1 → met < 2 ^ 40 → ax < 2 ^ 40 → (∀ z, (axv Th k).testBit z = true ↔ ax.testBit z = true ∨ ∃ q, q < m ∧ met.testBit q = true ∧ (axv Th q).testBit z = true) → pG m_B_axiomsOf τ (fun rr w2 => rr = some (.long (lN (axv Th k))) ∧ w2 = wX a i r L ++ wr) 0 0 10 [(6, .int (nI m + (-1))), (4, .long (lN ax)), (2, .long (lN met)), (0, .ref (a 4)), (1, .int (nI k))] [] (wX a i r L ++ wr) := by
    intro m
    induction m with
    | zero =>
      intro met ax hm h1 h2 hv
      refine g_iload (pc := 10) d_B_axiomsOf_10 rfl ?_
      refine g_if_lt (pc := 12) (tgt := 71) d_B_axiomsOf_12 (by decide) (fun h12 => ?_) (fun h => absurd (by decide) h)
      refine g_lload (pc := 71) d_B_axiomsOf_71 rfl ?_
      refine g_lret (pc := 73) d_B_axiomsOf_73 rfl (Nat.le_refl _) (Nat.le_refl _) ?_
      refine ⟨congrArg (fun v => some (Value.long (lN v))) (nat_bits (fun z => ?_)), rfl⟩
      rw [hv z]
      constructor
      · exact Or.inl
      · rintro (h | ⟨q, hq, -⟩)
        · exact h
        · omega
    | succ j ih =>
      intro met ax hm h1 h2 hv
      rw [pk_m1]
      obtain ⟨⟨rl, x, y, hh, cc⟩, hth⟩ : ∃ th, Th[j]? = some th := ⟨_, List.getElem?_eq_getElem (by omega)⟩
      obtain ⟨⟨g1, g2⟩, g3, g4, -, -⟩ := hb.2.2 j rl x y hh cc hth
      have hx : nbx rl = 2 → x < j := fun e => (g3 e).2
      have hy : nby rl = 2 → y < j := fun e => (g4 e).2
      have hX : (if nbx rl = nI 2 then 2 ^ x else 0) < 2 ^ 40 := by
        split
        · rename_i e; exact pw_lt40 (by have := hx e; omega)
        · decide
      have hY : (if nby rl = nI 2 then 2 ^ y else 0) < 2 ^ 40 := by
        split
        · rename_i e; exact pw_lt40 (by have := hy e; omega)
        · decide
      refine g_iload (pc := 10) d_B_axiomsOf_10 rfl ?_
      refine g_nif_lt (pc := 12) (tgt := 71) d_B_axiomsOf_12 (by decide) (by omega) ?_
      refine g_lload_n (pc := 15) d_B_axiomsOf_15 rfl ?_
      refine g_iload (pc := 16) d_B_axiomsOf_16 rfl ?_
      refine g_callSN (M' := m_K_isIn) (pc := 18) d_B_axiomsOf_18 rfl rfl (c_K_isIn met j (by omega) (by omega)) v_K_isIn rfl (by decide) rfl (Nat.le_of_ble_eq_true rfl) ?_
      rintro _ _ ⟨rfl, rfl⟩
      show pG m_B_axiomsOf τ _ 0 0 21 _ (.int _ :: _) _
      refine g_ifb_eq (pc := 21) (tgt := 65) d_B_axiomsOf_21 (by decide) (fun h21 => ?_) (fun h21 => ?_)
      · refine g_iinc (pc := 65) (v := nI j + (-1)) [(6, _), (4, _), (2, _), (0, _), (1, _)] d_B_axiomsOf_65 rfl rfl (by decide) rfl ?_
        refine g_goto (pc := 68) (tgt := 10) d_B_axiomsOf_68 (by decide) ?_
        refine g_pick [0, 1, 2, 3, 4] [(6, _), (4, _), (2, _), (0, _), (1, _)] rfl ?_
        first | exact ih _ _ (by omega) h1 h2 (fun z => (hv z).trans ⟨fun | Or.inl q => Or.inl q | Or.inr ⟨q, q1, q2, q3⟩ => Or.inr ⟨q, by rcases Nat.lt_or_ge q j with e | e; exact e; exact absurd q2 (by rw [show q = j by omega, h21]; decide), q2, q3⟩, fun | Or.inl q => Or.inl q | Or.inr ⟨q, q1, q2, q3⟩ => Or.inr ⟨q, by omega, q2, q3⟩⟩) | exact ih _ _ (by omega) (or_lt40 h1 (or_lt40 hX hY)) (or_lt40 h2 (pw_lt40 (by omega))) (fun z => (hv z).trans (by rw [ax_step hth hx hy h21 z, if_pos h53])) | exact ih _ _ (by omega) (or_lt40 h1 (or_lt40 hX hY)) h2 (fun z => (hv z).trans (by rw [ax_step hth hx hy h21 z, if_neg h53]))
      · refine g_lload_n (pc := 24) d_B_axiomsOf_24 rfl ?_
        refine g_aload_n (pc := 25) d_B_axiomsOf_25 rfl ?_
        refine g_iload (pc := 26) d_B_axiomsOf_26 rfl ?_
        refine g_callV (M' := m_B_firstPremise) (pc := 28) (q := 4) d_B_axiomsOf_28 lm_B_39 (c_B_firstPremise j rl x (by omega) g1 g2 (fun e => (g3 e).1)) v_B_firstPremise rfl rfl rfl (by decide) rfl (Nat.le_of_ble_eq_true rfl) ?_
        rintro _ _ ⟨rfl, rfl⟩
        show pG m_B_axiomsOf τ _ 0 0 31 _ (.int _ :: _) _
        refine g_callS (M' := m_B_setOf) (pc := 31) d_B_axiomsOf_31 lm_B_43 (c_B_setOf (nbx rl = nI 2) x (fun e => by have := hx e; omega)) v_B_setOf rfl (by decide) rfl (Nat.le_of_ble_eq_true rfl) ?_
        rintro _ _ ⟨rfl, rfl⟩
        show pG m_B_axiomsOf τ _ 0 0 34 _ (.long _ :: _) _
        refine g_aload_n (pc := 34) d_B_axiomsOf_34 rfl ?_
        refine g_iload (pc := 35) d_B_axiomsOf_35 rfl ?_
        refine g_callV (M' := m_B_secondPremise) (pc := 37) (q := 4) d_B_axiomsOf_37 lm_B_47 (c_B_secondPremise j rl y (by omega) g1 g2 (fun e => (g4 e).1)) v_B_secondPremise rfl rfl rfl (by decide) rfl (Nat.le_of_ble_eq_true rfl) ?_
        rintro _ _ ⟨rfl, rfl⟩
        show pG m_B_axiomsOf τ _ 0 0 40 _ (.int _ :: _) _
        refine g_callS (M' := m_B_setOf) (pc := 40) d_B_axiomsOf_40 lm_B_43 (c_B_setOf (nby rl = nI 2) y (fun e => by have := hy e; omega)) v_B_setOf rfl (by decide) rfl (Nat.le_of_ble_eq_true rfl) ?_
        rintro _ _ ⟨rfl, rfl⟩
        show pG m_B_axiomsOf τ _ 0 0 43 _ (.long _ :: _) _
        refine g_lor (pc := 43) d_B_axiomsOf_43 ?_
        refine g_topl (lN ((if nbx rl = nI 2 then 2 ^ x else 0) ||| (if nby rl = nI 2 then 2 ^ y else 0))) (wb_or (by omega) (by omega)) ?_
        refine g_lor (pc := 44) d_B_axiomsOf_44 ?_
        refine g_topl (lN (met ||| ((if nbx rl = nI 2 then 2 ^ x else 0) ||| (if nby rl = nI 2 then 2 ^ y else 0)))) (wb_or (by omega) (Nat.lt_trans (or_lt40 hX hY) (by decide))) ?_
        refine g_lstore_n (pc := 45) [(2, _), (6, _), (4, _), (0, _), (1, _)] d_B_axiomsOf_45 (by decide) rfl ?_
        refine g_aload_n (pc := 46) d_B_axiomsOf_46 rfl ?_
        refine gx_B_rules (pc := 47) d_B_axiomsOf_47 lf_B_19 ?_
        refine g_iload (pc := 50) d_B_axiomsOf_50 rfl ?_
        refine glx_B_rules (pc := 52) (v := nI rl) d_B_axiomsOf_52 (vp_in_nI (by omega) (by decide)) (by rw [nI_clamp (by omega)]; exact g1) ?_
        refine g_nif_ne (pc := 53) (tgt := 65) d_B_axiomsOf_53 (by decide) (by omega) (fun h53 => ?_) (fun h53 => ?_)
        · refine g_iinc (pc := 65) (v := nI j + (-1)) [(6, _), (2, _), (4, _), (0, _), (1, _)] d_B_axiomsOf_65 rfl rfl (by decide) rfl ?_
          refine g_goto (pc := 68) (tgt := 10) d_B_axiomsOf_68 (by decide) ?_
          refine g_pick [0, 2, 1, 3, 4] [(6, _), (4, _), (2, _), (0, _), (1, _)] rfl ?_
          first | exact ih _ _ (by omega) h1 h2 (fun z => (hv z).trans ⟨fun | Or.inl q => Or.inl q | Or.inr ⟨q, q1, q2, q3⟩ => Or.inr ⟨q, by rcases Nat.lt_or_ge q j with e | e; exact e; exact absurd q2 (by rw [show q = j by omega, h21]; decide), q2, q3⟩, fun | Or.inl q => Or.inl q | Or.inr ⟨q, q1, q2, q3⟩ => Or.inr ⟨q, by omega, q2, q3⟩⟩) | exact ih _ _ (by omega) (or_lt40 h1 (or_lt40 hX hY)) (or_lt40 h2 (pw_lt40 (by omega))) (fun z => (hv z).trans (by rw [ax_step hth hx hy h21 z, if_pos h53])) | exact ih _ _ (by omega) (or_lt40 h1 (or_lt40 hX hY)) h2 (fun z => (hv z).trans (by rw [ax_step hth hx hy h21 z, if_neg h53]))
        · refine g_lload (pc := 56) d_B_axiomsOf_56 rfl ?_
          refine g_lconst (pc := 58) (v := lN 1) d_B_axiomsOf_58 (by decide) ?_
          refine g_iload (pc := 59) d_B_axiomsOf_59 rfl ?_
          refine g_lshl (pc := 61) d_B_axiomsOf_61 ?_
          rw [lb_1 j (by omega)]
          refine g_lor (pc := 62) d_B_axiomsOf_62 ?_
          refine g_topl (lN (ax ||| 2 ^ j)) (wb_or (by omega) (Nat.lt_trans (pw_lt40 (by omega)) (by decide))) ?_
          refine g_lstore (pc := 63) [(4, _), (2, _), (6, _), (0, _), (1, _)] d_B_axiomsOf_63 (by decide) rfl ?_
          refine g_iinc (pc := 65) (v := nI j + (-1)) [(6, _), (4, _), (2, _), (0, _), (1, _)] d_B_axiomsOf_65 rfl rfl (by decide) rfl ?_
          refine g_goto (pc := 68) (tgt := 10) d_B_axiomsOf_68 (by decide) ?_
          refine g_pick [0, 1, 2, 3, 4] [(6, _), (4, _), (2, _), (0, _), (1, _)] rfl ?_
          first | exact ih _ _ (by omega) h1 h2 (fun z => (hv z).trans ⟨fun | Or.inl q => Or.inl q | Or.inr ⟨q, q1, q2, q3⟩ => Or.inr ⟨q, by rcases Nat.lt_or_ge q j with e | e; exact e; exact absurd q2 (by rw [show q = j by omega, h21]; decide), q2, q3⟩, fun | Or.inl q => Or.inl q | Or.inr ⟨q, q1, q2, q3⟩ => Or.inr ⟨q, by omega, q2, q3⟩⟩) | exact ih _ _ (by omega) (or_lt40 h1 (or_lt40 hX hY)) (or_lt40 h2 (pw_lt40 (by omega))) (fun z => (hv z).trans (by rw [ax_step hth hx hy h21 z, if_pos h53])) | exact ih _ _ (by omega) (or_lt40 h1 (or_lt40 hX hY)) h2 (fun z => (hv z).trans (by rw [ax_step hth hx hy h21 z, if_neg h53]))
  refine pC.of rfl (Nat.le_of_ble_eq_true rfl) ?_
  show pG m_B_axiomsOf τ _ 0 0 0 [(0, _), (1, _)] [] _
  refine g_lconst (pc := 0) (v := lN 1) d_B_axiomsOf_0 (by decide) ?_
  refine g_iload_n (pc := 1) d_B_axiomsOf_1 rfl ?_
  refine g_lshl (pc := 2) d_B_axiomsOf_2 ?_
  rw [lb_1 k (by omega)]
  refine g_lstore_n (pc := 3) [(2, _), (0, _), (1, _)] d_B_axiomsOf_3 (by decide) rfl ?_
  refine g_lconst (pc := 4) (v := lN 0) d_B_axiomsOf_4 (by decide) ?_
  refine g_lstore (pc := 5) [(4, _), (2, _), (0, _), (1, _)] d_B_axiomsOf_5 (by decide) rfl ?_
  refine g_iload_n (pc := 7) d_B_axiomsOf_7 rfl ?_
  refine g_istore (pc := 8) [(6, _), (4, _), (2, _), (0, _), (1, _)] d_B_axiomsOf_8 (by decide) rfl ?_
  refine g_pick [0, 1, 2, 3, 4] [(6, _), (4, _), (2, _), (0, _), (1, _)] rfl ?_
  have := key (k + 1) (2 ^ k) 0 (by omega) (pw_lt40 (by omega)) (by decide) (fun z => by
    constructor
    · intro h; exact Or.inr ⟨k, by omega, Nat.testBit_two_pow_self, h⟩
    · rintro (h | ⟨q, hq, h1, h2⟩)
      · simp at h
      · rw [Nat.testBit_two_pow] at h1
        simp at h1
        rw [h1]
        exact h2)
  rw [pk_m1] at this
  exact this
theorem min_eq (s M : Nat) (h : s < 2 ^ 31 ∧ M = 1000000) : (if (1000000 : Int32) < nI s then (1000000 : Int32) else nI s) = nI (min s M) := by
  obtain ⟨h1, rfl⟩ := h
  have e : (1000000 : Int32) = nI 1000000 := rfl
  rw [e]
  by_cases c : 1000000 < s
  · rw [if_pos ((nI_ltI (by decide) h1).mpr c), Nat.min_eq_right (by omega)]
  · rw [if_neg (fun q => c ((nI_ltI (by decide) h1).mp q)), Nat.min_eq_left (by omega)]
set_option maxRecDepth 100000 in
set_option maxHeartbeats 4000000 in
theorem c_B_stepsOf {τ : Nat × Nat} {a : Nat → Nat} {i : Nat → Int32} {r : Nat → Nat → Int32} {L : Nat → Int64} {wr : pW} (Th : List Thm) (k : Nat) (hb : XB Th i r L) (hk : k < Th.length) : pC m_B_stepsOf τ [.ref (a 4), .int (nI k)] (wX a i r L ++ wr) ((fun rr w2 => ∃ r2, rr = some (.int (nI (stv Th k))) ∧ w2 = wX a i r2 L ++ wr ∧ ∀ j, j ≠ 10 → r2 j = r j)) := by
  have h40 := hb.2.1
  have key : ∀ (m q : Nat) (r1 : Nat → Nat → Int32), k + 1 - q = m → q ≤ k + 1 → (∀ z, z < q → r1 10 z = nI (stv Th z)) → (∀ j, j ≠ 10 → r1 j = r j) → pG m_B_stepsOf τ (fun rr w2 => ∃ r2, rr = some (.int (nI (stv Th k))) ∧ w2 = wX a i r2 L ++ wr ∧ ∀ j, j ≠ 10 → r2 j = r j) 0 0 2 [(2, .int (nI q)), (0, .ref (a 4)), (1, .int (nI k))] [] (wX a i r1 L ++ wr) := by
    intro m
    induction m with
    | zero =>
      intro q r1 hm hq hz hr
      refine g_iload_n (pc := 2) d_B_stepsOf_2 rfl ?_
      refine g_iload_n (pc := 3) d_B_stepsOf_3 rfl ?_
      refine g_nicmp_gt (pc := 4) (tgt := 47) d_B_stepsOf_4 (by decide) (by omega) (by omega) (fun h4 => ?_) (fun h => absurd h (by omega))
      refine g_aload_n (pc := 47) d_B_stepsOf_47 rfl ?_
      refine gx_B_stepsUpTo (pc := 48) d_B_stepsOf_48 lf_B_28 ?_
      refine g_iload_n (pc := 51) d_B_stepsOf_51 rfl ?_
      refine glx_B_stepsUpTo (pc := 52) d_B_stepsOf_52 (vp_in_nI (by omega) (by decide)) rfl ?_
      refine g_iret (pc := 53) d_B_stepsOf_53 rfl (Nat.le_refl _) (Nat.le_refl _) ?_
      exact ⟨r1, by rw [nI_clamp (by omega), hz k (by omega)], rfl, hr⟩
    | succ m ih =>
      intro q r1 hm hq hz hr
      obtain ⟨⟨rl, x, y, hh, cc⟩, hth⟩ : ∃ th, Th[q]? = some th := ⟨_, List.getElem?_eq_getElem (by omega)⟩
      obtain ⟨⟨g1, g2⟩, g3, g4, -, -⟩ := hb.2.2 q rl x y hh cc hth
      rw [← hr 7 (by decide)] at g1
      rw [← hr 8 (by decide)] at g3
      rw [← hr 9 (by decide)] at g4
      have hst := stv_eq hth (fun e => (g3 e).2) (fun e => (g4 e).2)
      have hlx := stv_le Th x
      have hly := stv_le Th y
      have hsx : (if nbx rl = nI 2 then stv Th x else 0) ≤ 1000000 := by split <;> omega
      have hsy : (if nby rl = nI 2 then stv Th y else 0) ≤ 1000000 := by split <;> omega
      refine g_iload_n (pc := 2) d_B_stepsOf_2 rfl ?_
      refine g_iload_n (pc := 3) d_B_stepsOf_3 rfl ?_
      refine g_nicmp_gt (pc := 4) (tgt := 47) d_B_stepsOf_4 (by decide) (by omega) (by omega) (fun h => absurd h (by omega)) (fun h4 => ?_)
      refine g_iconst (pc := 7) (v := nI 1) d_B_stepsOf_7 (by decide) ?_
      refine g_aload_n (pc := 8) d_B_stepsOf_8 rfl ?_
      refine g_aload_n (pc := 9) d_B_stepsOf_9 rfl ?_
      refine g_iload_n (pc := 10) d_B_stepsOf_10 rfl ?_
      refine g_callV (M' := m_B_firstPremise) (pc := 11) (q := 4) d_B_stepsOf_11 lm_B_39 (c_B_firstPremise q rl x (by omega) g1 g2 (fun e => (g3 e).1)) v_B_firstPremise rfl rfl rfl (by decide) rfl (Nat.le_of_ble_eq_true rfl) ?_
      rintro _ _ ⟨rfl, rfl⟩
      show pG m_B_stepsOf τ _ 0 0 14 _ (.int _ :: _) _
      refine g_callV (M' := m_B_stepsBefore) (pc := 14) (q := 4) d_B_stepsOf_14 lm_B_50 (c_B_stepsBefore (nbx rl = nI 2) x (stv Th x) (fun e => ⟨by have := (g3 e).2; omega, hz x (g3 e).2⟩)) v_B_stepsBefore rfl rfl rfl (by decide) rfl (Nat.le_of_ble_eq_true rfl) ?_
      rintro _ _ ⟨rfl, rfl⟩
      show pG m_B_stepsOf τ _ 0 0 17 _ (.int _ :: _) _
      refine g_nadd (pc := 17) d_B_stepsOf_17 ?_
      refine g_aload_n (pc := 18) d_B_stepsOf_18 rfl ?_
      refine g_aload_n (pc := 19) d_B_stepsOf_19 rfl ?_
      refine g_iload_n (pc := 20) d_B_stepsOf_20 rfl ?_
      refine g_callV (M' := m_B_secondPremise) (pc := 21) (q := 4) d_B_stepsOf_21 lm_B_47 (c_B_secondPremise q rl y (by omega) g1 g2 (fun e => (g4 e).1)) v_B_secondPremise rfl rfl rfl (by decide) rfl (Nat.le_of_ble_eq_true rfl) ?_
      rintro _ _ ⟨rfl, rfl⟩
      show pG m_B_stepsOf τ _ 0 0 24 _ (.int _ :: _) _
      refine g_callV (M' := m_B_stepsBefore) (pc := 24) (q := 4) d_B_stepsOf_24 lm_B_50 (c_B_stepsBefore (nby rl = nI 2) y (stv Th y) (fun e => ⟨by have := (g4 e).2; omega, hz y (g4 e).2⟩)) v_B_stepsBefore rfl rfl rfl (by decide) rfl (Nat.le_of_ble_eq_true rfl) ?_
      rintro _ _ ⟨rfl, rfl⟩
      show pG m_B_stepsOf τ _ 0 0 27 _ (.int _ :: _) _
      refine g_nadd (pc := 27) d_B_stepsOf_27 ?_
      refine g_istore_n (pc := 28) [(3, _), (2, _), (0, _), (1, _)] d_B_stepsOf_28 (by decide) rfl ?_
      refine g_aload_n (pc := 29) d_B_stepsOf_29 rfl ?_
      refine gx_B_stepsUpTo (pc := 30) d_B_stepsOf_30 lf_B_28 ?_
      refine g_iload_n (pc := 33) d_B_stepsOf_33 rfl ?_
      refine g_iload_n (pc := 34) d_B_stepsOf_34 rfl ?_
      refine g_ldc (pc := 35) d_B_stepsOf_35 lk_B_53 ?_
      refine g_mmin (pc := 37) (v := nI (stv Th q)) d_B_stepsOf_37 lm_B_54 (by decide) (Nat.le_of_ble_eq_true rfl) ⟨Nat.le_refl _, Nat.le_refl _⟩ (by rw [hst]; exact min_eq _ _ ⟨by omega, rfl⟩) ?_
      refine gsx_B_stepsUpTo (pc := 40) d_B_stepsOf_40 (vp_in_nI (by omega) (by decide)) ?_
      refine g_niinc (pc := 41) (d := 1) [(2, _), (3, _), (0, _), (1, _)] d_B_stepsOf_41 rfl (by decide) rfl ?_
      refine g_goto (pc := 44) (tgt := 2) d_B_stepsOf_44 (by decide) ?_
      refine g_pick [0, 2, 3] [(2, _), (0, _), (1, _)] rfl ?_
      refine ih (q + 1) (va_up r1 10 (upd (r1 10) (nI q).toNatClampNeg (nI (stv Th q)))) (by omega) (by omega) ?_ (fun j hj => (up_n hj).trans (hr j hj))
      rw [up_s, nI_clamp (by omega)]
      exact lt_s (fun z hzq => by rw [pk_un (by omega)]; exact hz z hzq) pk_us
  refine pC.of rfl (Nat.le_of_ble_eq_true rfl) ?_
  show pG m_B_stepsOf τ _ 0 0 0 [(0, _), (1, _)] [] _
  refine g_iconst (pc := 0) (v := nI 0) d_B_stepsOf_0 (by decide) ?_
  refine g_istore_n (pc := 1) [(2, _), (0, _), (1, _)] d_B_stepsOf_1 (by decide) rfl ?_
  exact key _ 0 r rfl (Nat.zero_le _) lt_0 (fun _ _ => rfl)
