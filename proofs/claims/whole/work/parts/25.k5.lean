/-! ProofKernel.rule: its spec, derive, rule. By wip/whole/m_k5.py -/
theorem lb_cmp4 {h : Nat} (hh : h < 2 ^ 62) : ¬ lg_cmp (lN h) (-4) = 0 := by
  have h1 : lN h > (-4 : Int64) := by
    rw [gt_iff_lt, Int64.lt_iff_toInt_lt, pk_lT (by omega)]
    have : (-4 : Int64).toInt = -4 := by decide
    omega
  unfold lg_cmp
  rw [if_pos h1]
  decide
theorem lb_cmp44 : lg_cmp (-4) (-4) = 0 := by decide
theorem sKeep_nI {Tm : List (List Nat)} {d : List Nat} (h : ¬ (sKeep Tm d).1 = -4) (hl : Tm.length ≤ 60) : ∃ t, t < 60 ∧ t < (sKeep Tm d).2.length ∧ (sKeep Tm d).1 = nI t ∧ (sKeep Tm d).2[t]? = some d ∧ d.length ≤ 30 ∧ (∀ (z : Nat) (row : List Nat), Tm[z]? = some row → (sKeep Tm d).2[z]? = some row) ∧ (sKeep Tm d).2.length ≤ 60 ∧ Tm.length ≤ (sKeep Tm d).2.length ∧ ((sKeep Tm d).2 = Tm ∨ (sKeep Tm d).2 = Tm ++ [d]) := by
  by_cases c : 30 < d.length
  · rw [sKeep_big c] at h; exact absurd rfl h
  · cases e : fnd Tm d with
    | some t =>
      have ht := fnd_at e
      have hlt := (List.getElem?_eq_some_iff.mp ht).1
      rw [sKeep_at c e]
      exact ⟨t, by omega, hlt, rfl, ht, by omega, fun _ _ hz => hz, hl, Nat.le_refl _, Or.inl rfl⟩
    | none =>
      by_cases f : Tm.length = 60
      · rw [sKeep_full c e f] at h; exact absurd rfl h
      · rw [sKeep_new c e f]
        exact ⟨Tm.length, by omega, by simp, rfl, by simp, by omega, fun z row hz => by rw [List.getElem?_append_left (List.getElem?_eq_some_iff.mp hz).1]; exact hz, by simp; omega, by simp, Or.inr rfl⟩
theorem XI.bk {Ty : List (Nat × Nat)} {Tm : List (List Nat)} {Th Th2 : List Thm} {d : List Nat} {i i2 : Nat → Int32} {r r2 : Nat → Nat → Int32} {L L2 : Nat → Int64} (h : XI Ty Tm Th d i r L) (k : BKp i r i2 r2) (hb : XB Th2 i2 r2 L2) : XI Ty Tm Th2 d i2 r2 L2 :=
  ⟨h.1.mv (k.1 0 (by decide)) (k.2 0 (by decide)) (k.2 1 (by decide)), h.2.1.mv (k.1 1 (by decide)) (k.2 2 (by decide)) (k.2 3 (by decide)), h.2.2.1.mv (k.1 2 (by decide)) (k.2 4 (by decide)), hb⟩
theorem XS.pre {Tm Tm2 : List (List Nat)} {i i2 : Nat → Int32} {r : Nat → Nat → Int32} (h : XS Tm2 i r) (hp : ∀ (z : Nat) (row : List Nat), Tm[z]? = some row → Tm2[z]? = some row) (hl : Tm.length ≤ 60) (e : i2 1 = nI Tm.length) : XS Tm i2 r := ⟨e, hl, fun t row ht => h.2.2 t row (hp t row ht)⟩
theorem XI.scut {Ty Ty2 : List (Nat × Nat)} {Tm Tm2 : List (List Nat)} {Th : List Thm} {d : List Nat} {i : Nat → Int32} {r : Nat → Nat → Int32} {L : Nat → Int64} {x y : Int32} (h : XI Ty2 Tm2 Th d i r L) (hp : ∀ (z : Nat) (p : Nat × Nat), Ty[z]? = some p → Ty2[z]? = some p) (hl : Ty.length ≤ 13) (hq : ∀ (z : Nat) (row : List Nat), Tm[z]? = some row → Tm2[z]? = some row) (hm : Tm.length ≤ 60) (e0 : x = nI (3 + Ty.length)) (e1 : y = nI Tm.length) : XI Ty Tm Th d (upd (upd i 1 y) 0 x) r L :=
  XI.tcut (Ty2 := Ty2) ⟨h.1.mv (pk_un (by decide)) rfl rfl, h.2.1.pre hq hm (by rw [pk_us]; exact e1), h.2.2.1.mv (pk_un (by decide)) rfl, h.2.2.2.mv (pk_un (by decide)) rfl rfl rfl rfl⟩ hp hl e0
def rcT (Tm : List (List Nat)) (Th : List Thm) (x : Int32) : List Nat := Tm.getD (thG Th x).2.2.2.2 []
theorem prB_of {x : Int32} {n : Nat} (h : prB x n = true) : ∃ q, q < 2 ^ 31 ∧ x = nI q ∧ q / 64 < n ∧ q % 64 < n := by
  simp only [prB, Bool.and_eq_true, decide_eq_true_eq] at h
  obtain ⟨q, hq, rfl⟩ := nI_of h.1
  rw [nI_clamp hq] at h
  exact ⟨q, hq, rfl, h.2.1, h.2.2⟩
theorem XI.th {Ty : List (Nat × Nat)} {Tm : List (List Nat)} {Th : List Thm} {d : List Nat} {i : Nat → Int32} {r : Nat → Nat → Int32} {L : Nat → Int64} {k rl x y h c : Nat} (hI : XI Ty Tm Th d i r L) (hk : Th[k]? = some (rl, x, y, h, c)) : k < 40 ∧ k < Th.length ∧ r 6 k = nI c ∧ L k = lN h := by
  obtain ⟨-, -, -, g4, g5⟩ := hI.2.2.2.2.2 k rl x y h c hk
  have := (List.getElem?_eq_some_iff.mp hk).1
  have := hI.2.2.2.2.1
  exact ⟨by omega, by omega, g5, g4⟩
theorem ThOk.b {Tm : List (List Nat)} {Th : List Thm} {k rl x y h c : Nat} (ok : ThOk Tm Th) (hl : Tm.length ≤ 60) (hk : Th[k]? = some (rl, x, y, h, c)) : c < Tm.length ∧ h < 2 ^ 60 := by
  obtain ⟨h1, h2⟩ := ok k rl x y h c hk
  exact ⟨h1, bits60 (fun t ht => by have := h2 t ht; omega)⟩
def sRb0 (Ty : List (Nat × Nat)) (Tm : List (List Nat)) (Th : List Thm) (x yn hx hy : Nat) (A B : List Nat) : pR3 := if tyR A = 0 then (if Th.length = 40 then (-4, Ty, Tm, Th) else sFin Ty Tm Th 0 x yn (0) Ty Tm (A)) else (-2, Ty, Tm, Th)
def sR0 (Ty : List (Nat × Nat)) (Tm : List (List Nat)) (Th : List Thm) (x y : Int32) : pR3 := if ixB x Tm.length && true then sRb0 Ty Tm Th x.toNatClampNeg y.toNatClampNeg 0 0 (rwT Tm x) [] else (-1, Ty, Tm, Th)
def sRb1 (Ty : List (Nat × Nat)) (Tm : List (List Nat)) (Th : List Thm) (x yn hx hy : Nat) (A B : List Nat) : pR3 := if tyR A = 0 then (if Th.length = 40 then (-4, Ty, Tm, Th) else sFin Ty Tm Th 1 x yn (2 ^ x) Ty Tm (A)) else (-2, Ty, Tm, Th)
def sR1 (Ty : List (Nat × Nat)) (Tm : List (List Nat)) (Th : List Thm) (x y : Int32) : pR3 := if ixB x Tm.length && true then sRb1 Ty Tm Th x.toNatClampNeg y.toNatClampNeg 0 0 (rwT Tm x) [] else (-1, Ty, Tm, Th)
def sRb2 (Ty : List (Nat × Nat)) (Tm : List (List Nat)) (Th : List Thm) (x yn hx hy : Nat) (A B : List Nat) : pR3 := if tyR B = 0 then (if Th.length = 40 then (-4, Ty, Tm, Th) else sFin Ty Tm Th 2 x yn (clr hx yn) Ty Tm (sJn 6 B A)) else (-2, Ty, Tm, Th)
def sR2 (Ty : List (Nat × Nat)) (Tm : List (List Nat)) (Th : List Thm) (x y : Int32) : pR3 := if ixB x Th.length && ixB y Tm.length then sRb2 Ty Tm Th x.toNatClampNeg y.toNatClampNeg (thG Th x).2.2.2.1 0 (rcT Tm Th x) (rwT Tm y) else (-1, Ty, Tm, Th)
def sRb3 (Ty : List (Nat × Nat)) (Tm : List (List Nat)) (Th : List Thm) (x yn hx hy : Nat) (A B : List Nat) : pR3 := if tgR A = 6 ∧ p1 A = B then (if Th.length = 40 then (-4, Ty, Tm, Th) else sFin Ty Tm Th 3 x yn (hx ||| hy) Ty Tm (p2 A)) else (-2, Ty, Tm, Th)
def sR3 (Ty : List (Nat × Nat)) (Tm : List (List Nat)) (Th : List Thm) (x y : Int32) : pR3 := if ixB x Th.length && ixB y Th.length then sRb3 Ty Tm Th x.toNatClampNeg y.toNatClampNeg (thG Th x).2.2.2.1 (thG Th y).2.2.2.1 (rcT Tm Th x) (rcT Tm Th y) else (-1, Ty, Tm, Th)
def sRb4 (Ty : List (Nat × Nat)) (Tm : List (List Nat)) (Th : List Thm) (x yn hx hy : Nat) (A B : List Nat) : pR3 := if tgR B = 0 then (if sBnd Tm hx (hdt B) = true then (-3, Ty, Tm, Th) else if Th.length = 40 then (-4, Ty, Tm, Th) else sFin Ty Tm Th 4 x yn (hx) Ty Tm (sBd 4 0 (hdt B) A)) else (-2, Ty, Tm, Th)
def sR4 (Ty : List (Nat × Nat)) (Tm : List (List Nat)) (Th : List Thm) (x y : Int32) : pR3 := if ixB x Th.length && ixB y Tm.length then sRb4 Ty Tm Th x.toNatClampNeg y.toNatClampNeg (thG Th x).2.2.2.1 0 (rcT Tm Th x) (rwT Tm y) else (-1, Ty, Tm, Th)
def sRb5 (Ty : List (Nat × Nat)) (Tm : List (List Nat)) (Th : List Thm) (x yn hx hy : Nat) (A B : List Nat) : pR3 := if tgR A = 4 ∧ inR A = tyR B then (if Th.length = 40 then (-4, Ty, Tm, Th) else sFin Ty Tm Th 5 x yn (hx) Ty Tm (fil B [0] (p1 A))) else (-2, Ty, Tm, Th)
def sR5 (Ty : List (Nat × Nat)) (Tm : List (List Nat)) (Th : List Thm) (x y : Int32) : pR3 := if ixB x Th.length && ixB y Tm.length then sRb5 Ty Tm Th x.toNatClampNeg y.toNatClampNeg (thG Th x).2.2.2.1 0 (rcT Tm Th x) (rwT Tm y) else (-1, Ty, Tm, Th)
def sRb6 (Ty : List (Nat × Nat)) (Tm : List (List Nat)) (Th : List Thm) (x yn hx hy : Nat) (A B : List Nat) : pR3 := if True then (if Th.length = 40 then (-4, Ty, Tm, Th) else sFin Ty Tm Th 6 x yn (0) Ty Tm (sJn 7 A A)) else (-2, Ty, Tm, Th)
def sR6 (Ty : List (Nat × Nat)) (Tm : List (List Nat)) (Th : List Thm) (x y : Int32) : pR3 := if ixB x Tm.length && true then sRb6 Ty Tm Th x.toNatClampNeg y.toNatClampNeg 0 0 (rwT Tm x) [] else (-1, Ty, Tm, Th)
def sRb7 (Ty : List (Nat × Nat)) (Tm : List (List Nat)) (Th : List Thm) (x yn hx hy : Nat) (A B : List Nat) : pR3 := if tgR A = 7 then (if Th.length = 40 then (-4, Ty, Tm, Th) else sFin Ty Tm Th 7 x yn (hx) Ty Tm (sJn 7 (p2 A) (p1 A))) else (-2, Ty, Tm, Th)
def sR7 (Ty : List (Nat × Nat)) (Tm : List (List Nat)) (Th : List Thm) (x y : Int32) : pR3 := if ixB x Th.length && true then sRb7 Ty Tm Th x.toNatClampNeg y.toNatClampNeg (thG Th x).2.2.2.1 0 (rcT Tm Th x) [] else (-1, Ty, Tm, Th)
def sRb8 (Ty : List (Nat × Nat)) (Tm : List (List Nat)) (Th : List Thm) (x yn hx hy : Nat) (A B : List Nat) : pR3 := if tgR A = 7 ∧ tgR B = 7 ∧ p2 A = p1 B then (if Th.length = 40 then (-4, Ty, Tm, Th) else sFin Ty Tm Th 8 x yn (hx ||| hy) Ty Tm (sJn 7 (p1 A) (p2 B))) else (-2, Ty, Tm, Th)
def sR8 (Ty : List (Nat × Nat)) (Tm : List (List Nat)) (Th : List Thm) (x y : Int32) : pR3 := if ixB x Th.length && ixB y Th.length then sRb8 Ty Tm Th x.toNatClampNeg y.toNatClampNeg (thG Th x).2.2.2.1 (thG Th y).2.2.2.1 (rcT Tm Th x) (rcT Tm Th y) else (-1, Ty, Tm, Th)
def sRb9 (Ty : List (Nat × Nat)) (Tm : List (List Nat)) (Th : List Thm) (x yn hx hy : Nat) (A B : List Nat) : pR3 := if tgR A = 7 ∧ tgR B = 7 ∧ tks Ty (tyR (p1 A)) (tyR (p1 B)) = true then (if Th.length = 40 then (-4, Ty, Tm, Th) else sFin Ty Tm Th 9 x yn (hx ||| hy) Ty Tm (tok 7 0 0 :: (sAp Ty (p1 A) (p1 B) ++ sAp Ty (p2 A) (p2 B)))) else (-2, Ty, Tm, Th)
def sR9 (Ty : List (Nat × Nat)) (Tm : List (List Nat)) (Th : List Thm) (x y : Int32) : pR3 := if ixB x Th.length && ixB y Th.length then sRb9 Ty Tm Th x.toNatClampNeg y.toNatClampNeg (thG Th x).2.2.2.1 (thG Th y).2.2.2.1 (rcT Tm Th x) (rcT Tm Th y) else (-1, Ty, Tm, Th)
def sRb10 (Ty : List (Nat × Nat)) (Tm : List (List Nat)) (Th : List Thm) (x yn hx hy : Nat) (A B : List Nat) : pR3 := if tgR A = 7 ∧ tgR B = 0 then (if sBnd Tm hx (hdt B) = true then (-3, Ty, Tm, Th) else if Th.length = 40 then (-4, Ty, Tm, Th) else sFin Ty Tm Th 10 x yn (hx) (sAb2 Ty (hdt B) A).1 Tm ((sAb2 Ty (hdt B) A).2)) else (-2, Ty, Tm, Th)
def sR10 (Ty : List (Nat × Nat)) (Tm : List (List Nat)) (Th : List Thm) (x y : Int32) : pR3 := if ixB x Th.length && ixB y Tm.length then sRb10 Ty Tm Th x.toNatClampNeg y.toNatClampNeg (thG Th x).2.2.2.1 0 (rcT Tm Th x) (rwT Tm y) else (-1, Ty, Tm, Th)
def sRb11 (Ty : List (Nat × Nat)) (Tm : List (List Nat)) (Th : List Thm) (x yn hx hy : Nat) (A B : List Nat) : pR3 := if tgR A = 5 ∧ tgR (p1 A) = 3 then (if Th.length = 40 then (-4, Ty, Tm, Th) else sFin Ty Tm Th 11 x yn (0) Ty Tm (tok 7 0 0 :: (A ++ fil (p2 A) [0] (p1 (p1 A))))) else (-2, Ty, Tm, Th)
def sR11 (Ty : List (Nat × Nat)) (Tm : List (List Nat)) (Th : List Thm) (x y : Int32) : pR3 := if ixB x Tm.length && true then sRb11 Ty Tm Th x.toNatClampNeg y.toNatClampNeg 0 0 (rwT Tm x) [] else (-1, Ty, Tm, Th)
def sRb12 (Ty : List (Nat × Nat)) (Tm : List (List Nat)) (Th : List Thm) (x yn hx hy : Nat) (A B : List Nat) : pR3 := if tgR A = 7 ∧ p1 A = B then (if Th.length = 40 then (-4, Ty, Tm, Th) else sFin Ty Tm Th 12 x yn (hx ||| hy) Ty Tm (p2 A)) else (-2, Ty, Tm, Th)
def sR12 (Ty : List (Nat × Nat)) (Tm : List (List Nat)) (Th : List Thm) (x y : Int32) : pR3 := if ixB x Th.length && ixB y Th.length then sRb12 Ty Tm Th x.toNatClampNeg y.toNatClampNeg (thG Th x).2.2.2.1 (thG Th y).2.2.2.1 (rcT Tm Th x) (rcT Tm Th y) else (-1, Ty, Tm, Th)
theorem sAb_lt {Ty : List (Nat × Nat)} {d row : List Nat} {v : Nat} (hT : Ty.length ≤ 13) (hd : ∀ x, x ∈ d → x < 4096) (h : ∀ x, x ∈ row → x < 4096) (hl : row.length ≤ 30) : ∀ x, x ∈ (sAb Ty d v row).2 → x < 4096 := by
  unfold sAb
  split
  · intro x hx; have := List.eq_of_mem_replicate hx; omega
  · rename_i hs
    obtain ⟨j, hj, -, he, -⟩ := (sNum_cases Ty (v % 16) (tyR row) hT).resolve_left (fun e => hs (by rw [e]))
    rw [he, nI_clamp (by omega)]
    exact app_b hd (sBd_lt (by decide) (by omega) h hl)
theorem sAb_tl {Ty : List (Nat × Nat)} {d row : List Nat} {v : Nat} (hT : Ty.length ≤ 13) : (sAb Ty d v row).1.length ≤ 13 := by
  unfold sAb
  split
  · exact hT
  · rename_i hs
    obtain ⟨j, hj, -, he, -, h, -⟩ := (sNum_cases Ty (v % 16) (tyR row) hT).resolve_left (fun e => hs (by rw [e]))
    exact h
theorem sAb2_ext {Ty : List (Nat × Nat)} {v : Nat} {A : List Nat} (hT : Ty.length ≤ 13) : ∀ (z : Nat) (p : Nat × Nat), Ty[z]? = some p → (sAb2 Ty v A).1[z]? = some p := fun z p h => sAb_ext (sAb_tl hT) z p (sAb_ext hT z p h)
set_option maxRecDepth 100000 in
set_option maxHeartbeats 4000000 in
theorem c_K_derive_0 {τ : Nat × Nat} {a : Nat → Nat} {i : Nat → Int32} {r : Nat → Nat → Int32} {L : Nat → Int64} {wr : pW} {Ty : List (Nat × Nat)} {Tm : List (List Nat)} {Th : List Thm} {d : List Nat} (x : Nat) (A : List Nat) (hA0 : Tm[x]? = some A) (y : Int32) (hI : XI Ty Tm Th d i r L) (ok : TmOk Ty Tm) (okT : ThOk Tm Th) (hf : Th.length ≠ 40)  : pC m_K_derive τ [.ref (a 0), .int (nI 0), .int (nI x), .int y] (wX a i r L ++ wr) ((fun rr w2 => ∃ i2 r2 L2 d2, rr = some (.int ((sFin Ty Tm Th 0 x y.toNatClampNeg (0) Ty Tm (A)).1)) ∧ w2 = wX a i2 r2 L2 ++ wr ∧ XI ((sFin Ty Tm Th 0 x y.toNatClampNeg (0) Ty Tm (A)).2.1) ((sFin Ty Tm Th 0 x y.toNatClampNeg (0) Ty Tm (A)).2.2.1) ((sFin Ty Tm Th 0 x y.toNatClampNeg (0) Ty Tm (A)).2.2.2) d2 i2 r2 L2)) := by
  refine pC.of rfl (Nat.le_of_ble_eq_true rfl) ?_
  show pG m_K_derive τ _ 0 0 0 [(0, _), (1, _), (2, _), (3, _)] [] _
  obtain ⟨b1, b2, b3, b4, b5, b6⟩ := hI.b
  have hA := hI.2.1.pa ok hA0
  have hxl := (List.getElem?_eq_some_iff.mp hA0).1
  refine g_aload_n (pc := 0) d_K_derive_0 rfl ?_
  refine gx_K_shelf (pc := 1) d_K_derive_1 lf_K_19 ?_
  refine g_callV (M' := m_S_count) (pc := 4) (q := 2) d_K_derive_4 lm_K_131 (c_S_count) v_S_count rfl rfl rfl (by decide) rfl (Nat.le_of_ble_eq_true rfl) ?_
  rintro _ _ ⟨rfl, rfl⟩
  show pG m_K_derive τ _ 0 0 7 _ (.int _ :: _) _
  refine g_istore (pc := 7) [(4, _), (0, _), (1, _), (2, _), (3, _)] d_K_derive_7 (by decide) rfl ?_
  refine g_aload_n (pc := 9) d_K_derive_9 rfl ?_
  refine gx_K_types (pc := 10) d_K_derive_10 lf_K_10 ?_
  refine g_callV (M' := m_T_count) (pc := 13) (q := 1) d_K_derive_13 lm_K_86 (c_T_count) v_T_count rfl rfl rfl (by decide) rfl (Nat.le_of_ble_eq_true rfl) ?_
  rintro _ _ ⟨rfl, rfl⟩
  show pG m_K_derive τ _ 0 0 16 _ (.int _ :: _) _
  refine g_istore (pc := 16) [(5, _), (4, _), (0, _), (1, _), (2, _), (3, _)] d_K_derive_16 (by decide) rfl ?_
  refine g_iload_n (pc := 18) d_K_derive_18 rfl ?_
  refine g_bipush (pc := 19) (v := nI 13) d_K_derive_19 (by decide) ?_
  refine g_nicmp_ne (pc := 21) (tgt := 33) d_K_derive_21 (by decide) (by omega) (by omega) (fun h21 => ?_) (fun h => absurd h (by decide))
  refine g_aload_n (pc := 33) d_K_derive_33 rfl ?_
  refine g_iload_n (pc := 34) d_K_derive_34 rfl ?_
  refine g_iload_n (pc := 35) d_K_derive_35 rfl ?_
  refine g_iload_n (pc := 36) d_K_derive_36 rfl ?_
  refine g_callV (M' := m_K_joinedHypotheses) (pc := 37) (q := 0) d_K_derive_37 lm_K_202 (c_K_joined_0 x y) v_K_joinedHypotheses rfl rfl rfl (by decide) rfl (Nat.le_of_ble_eq_true rfl) ?_
  rintro _ _ ⟨rfl, rfl⟩
  show pG m_K_derive τ _ 0 0 40 _ (.long _ :: _) _
  refine g_lstore (pc := 40) [(6, _), (5, _), (4, _), (0, _), (1, _), (2, _), (3, _)] d_K_derive_40 (by decide) rfl ?_
  refine g_bipush (pc := 42) (v := -4) d_K_derive_42 (by decide) ?_
  refine g_istore (pc := 44) [(8, _), (6, _), (5, _), (4, _), (0, _), (1, _), (2, _), (3, _)] d_K_derive_44 (by decide) rfl ?_
  refine g_lload (pc := 46) d_K_derive_46 rfl ?_
  refine g_ldc2 (pc := 48) d_K_derive_48 lk_K_206 ?_
  refine g_lcmp (pc := 51) d_K_derive_51 ?_
  refine g_if_eq (pc := 52) (tgt := 82) d_K_derive_52 (by decide) (fun h => absurd h (lb_cmp4 (by decide))) (fun h52 => ?_)
  refine g_aload_n (pc := 55) d_K_derive_55 rfl ?_
  refine gx_K_draft (pc := 56) d_K_derive_56 lf_K_28 ?_
  refine g_callV (M' := m_D_clear) (pc := 59) (q := 3) d_K_derive_59 lm_K_47 (c_D_clear) v_D_clear rfl rfl rfl (by decide) rfl (Nat.le_of_ble_eq_true rfl) ?_
  rintro _ _ ⟨rfl, rfl⟩
  have hI1 := hI.cl
  show pG m_K_derive τ _ 0 0 62 _ _ _
  refine g_aload_n (pc := 62) d_K_derive_62 rfl ?_
  refine g_iload_n (pc := 63) d_K_derive_63 rfl ?_
  refine g_iload_n (pc := 64) d_K_derive_64 rfl ?_
  refine g_iload_n (pc := 65) d_K_derive_65 rfl ?_
  refine g_callV (M' := m_K_draftConclusion) (pc := 66) (q := 0) d_K_derive_66 lm_K_208 (c_K_conc_0 x y A hA hI1.2.2.1) v_K_draftConclusion rfl rfl rfl (by decide) rfl (Nat.le_of_ble_eq_true rfl) ?_
  rintro _ _ ⟨i3, r3, rfl, rfl, hx3, hk3⟩
  have hI2 := hI1.dw hk3 hx3
  have hpre : ∀ (z : Nat) (p : Nat × Nat), Ty[z]? = some p → Ty[z]? = some p := fun _ _ h => h
  have h4k : ∀ x, x ∈ (A) → x < 4096 := hA.lt
  have hlk : (A).length < 100000 := (by have := hA.2.2.2; omega)
  show pG m_K_derive τ _ 0 0 69 _ _ _
  refine g_aload_n (pc := 69) d_K_derive_69 rfl ?_
  refine gx_K_shelf (pc := 70) d_K_derive_70 lf_K_19 ?_
  refine g_aload_n (pc := 73) d_K_derive_73 rfl ?_
  refine gx_K_draft (pc := 74) d_K_derive_74 lf_K_28 ?_
  refine g_callV (M' := m_S_keep) (pc := 77) (q := 2) d_K_derive_77 lm_K_60 (c_S_keep Tm _ hI2.2.1 hI2.2.2.1 h4k hlk) v_S_keep rfl rfl rfl (by decide) rfl (Nat.le_of_ble_eq_true rfl) ?_
  rintro _ _ ⟨i9, r9, rfl, rfl, hS9, hk9⟩
  show pG m_K_derive τ _ 0 0 80 _ (.int _ :: _) _
  refine g_istore (pc := 80) [(8, _), (6, _), (5, _), (4, _), (0, _), (1, _), (2, _), (3, _)] d_K_derive_80 (by decide) rfl ?_
  refine g_iload (pc := 82) d_K_derive_82 rfl ?_
  refine g_bipush (pc := 84) (v := -4) d_K_derive_84 (by decide) ?_
  refine g_icmp_ne (pc := 86) (tgt := 110) d_K_derive_86 (by decide) (fun h86 => ?_) (fun h86 => ?_)
  · have hI9 := hI2.kp hk9 hS9
    obtain ⟨c, hc1, hc2, he, -⟩ := sKeep_nI h86 b2
    refine g_aload_n (pc := 110) d_K_derive_110 rfl ?_
    refine gx_K_book (pc := 111) d_K_derive_111 lf_K_35 ?_
    refine g_iload_n (pc := 114) d_K_derive_114 rfl ?_
    refine g_iload_n (pc := 115) d_K_derive_115 rfl ?_
    refine g_iload_n (pc := 116) d_K_derive_116 rfl ?_
    refine g_lload (pc := 117) d_K_derive_117 rfl ?_
    refine g_iload (pc := 119) d_K_derive_119 rfl ?_
    rw [he]
    refine g_callV (M' := m_B_add) (pc := 121) (q := 4) d_K_derive_121 lm_K_212 (c_B_add Th 0 x y.toNatClampNeg _ c _ _ hI9.2.2.2 hf (by decide) (fun e => absurd e (by decide)) (fun e => absurd e (by decide))) v_B_add rfl rfl rfl (by decide) rfl (Nat.le_of_ble_eq_true rfl) ?_
    rintro _ _ ⟨i8, r8, L8, rfl, rfl, hB8, hk8⟩
    show pG m_K_derive τ _ 0 0 124 _ (.int _ :: _) _
    refine g_iret (pc := 124) d_K_derive_124 rfl (Nat.le_refl _) (Nat.le_refl _) ?_
    exact ⟨i8, r8, L8, _, by rw [sFin, if_neg h86], rfl, by rw [sFin, if_neg h86, he, nI_clamp (by omega)]; exact hI9.bk hk8 hB8⟩
  · have hk4 := h86
    have hXS := hS9
    rw [sKeep_m4 hk4 b2] at hXS
    have hI9 := hI2.kp hk9 hXS
    refine g_aload_n (pc := 89) d_K_derive_89 rfl ?_
    refine gx_K_shelf (pc := 90) d_K_derive_90 lf_K_19 ?_
    refine g_iload (pc := 93) d_K_derive_93 rfl ?_
    refine g_callV (M' := m_S_cutTo) (pc := 95) (q := 2) d_K_derive_95 lm_K_211 (c_S_cutTo _) v_S_cutTo rfl rfl rfl (by decide) rfl (Nat.le_of_ble_eq_true rfl) ?_
    rintro _ _ ⟨rfl, rfl⟩
    show pG m_K_derive τ _ 0 0 98 _ _ _
    refine g_aload_n (pc := 98) d_K_derive_98 rfl ?_
    refine gx_K_types (pc := 99) d_K_derive_99 lf_K_10 ?_
    refine g_iload (pc := 102) d_K_derive_102 rfl ?_
    refine g_callV (M' := m_T_cutTo) (pc := 104) (q := 1) d_K_derive_104 lm_K_100 (c_T_cutTo _) v_T_cutTo rfl rfl rfl (by decide) rfl (Nat.le_of_ble_eq_true rfl) ?_
    rintro _ _ ⟨rfl, rfl⟩
    show pG m_K_derive τ _ 0 0 107 _ _ _
    refine g_bipush (pc := 107) (v := -4) d_K_derive_107 (by decide) ?_
    refine g_iret (pc := 109) d_K_derive_109 rfl (Nat.le_refl _) (Nat.le_refl _) ?_
    exact ⟨_, _, L, _, by rw [sFin, if_pos hk4], rfl, by rw [sFin, if_pos hk4]; exact hI9.scut hpre b1 (fun _ _ h => h) b2 b4 b5⟩
set_option maxRecDepth 100000 in
set_option maxHeartbeats 4000000 in
theorem c_K_derive_1 {τ : Nat × Nat} {a : Nat → Nat} {i : Nat → Int32} {r : Nat → Nat → Int32} {L : Nat → Int64} {wr : pW} {Ty : List (Nat × Nat)} {Tm : List (List Nat)} {Th : List Thm} {d : List Nat} (x : Nat) (A : List Nat) (hA0 : Tm[x]? = some A) (y : Int32) (hI : XI Ty Tm Th d i r L) (ok : TmOk Ty Tm) (okT : ThOk Tm Th) (hf : Th.length ≠ 40)  : pC m_K_derive τ [.ref (a 0), .int (nI 1), .int (nI x), .int y] (wX a i r L ++ wr) ((fun rr w2 => ∃ i2 r2 L2 d2, rr = some (.int ((sFin Ty Tm Th 1 x y.toNatClampNeg (2 ^ x) Ty Tm (A)).1)) ∧ w2 = wX a i2 r2 L2 ++ wr ∧ XI ((sFin Ty Tm Th 1 x y.toNatClampNeg (2 ^ x) Ty Tm (A)).2.1) ((sFin Ty Tm Th 1 x y.toNatClampNeg (2 ^ x) Ty Tm (A)).2.2.1) ((sFin Ty Tm Th 1 x y.toNatClampNeg (2 ^ x) Ty Tm (A)).2.2.2) d2 i2 r2 L2)) := by
  refine pC.of rfl (Nat.le_of_ble_eq_true rfl) ?_
  show pG m_K_derive τ _ 0 0 0 [(0, _), (1, _), (2, _), (3, _)] [] _
  obtain ⟨b1, b2, b3, b4, b5, b6⟩ := hI.b
  have hA := hI.2.1.pa ok hA0
  have hxl := (List.getElem?_eq_some_iff.mp hA0).1
  refine g_aload_n (pc := 0) d_K_derive_0 rfl ?_
  refine gx_K_shelf (pc := 1) d_K_derive_1 lf_K_19 ?_
  refine g_callV (M' := m_S_count) (pc := 4) (q := 2) d_K_derive_4 lm_K_131 (c_S_count) v_S_count rfl rfl rfl (by decide) rfl (Nat.le_of_ble_eq_true rfl) ?_
  rintro _ _ ⟨rfl, rfl⟩
  show pG m_K_derive τ _ 0 0 7 _ (.int _ :: _) _
  refine g_istore (pc := 7) [(4, _), (0, _), (1, _), (2, _), (3, _)] d_K_derive_7 (by decide) rfl ?_
  refine g_aload_n (pc := 9) d_K_derive_9 rfl ?_
  refine gx_K_types (pc := 10) d_K_derive_10 lf_K_10 ?_
  refine g_callV (M' := m_T_count) (pc := 13) (q := 1) d_K_derive_13 lm_K_86 (c_T_count) v_T_count rfl rfl rfl (by decide) rfl (Nat.le_of_ble_eq_true rfl) ?_
  rintro _ _ ⟨rfl, rfl⟩
  show pG m_K_derive τ _ 0 0 16 _ (.int _ :: _) _
  refine g_istore (pc := 16) [(5, _), (4, _), (0, _), (1, _), (2, _), (3, _)] d_K_derive_16 (by decide) rfl ?_
  refine g_iload_n (pc := 18) d_K_derive_18 rfl ?_
  refine g_bipush (pc := 19) (v := nI 13) d_K_derive_19 (by decide) ?_
  refine g_nicmp_ne (pc := 21) (tgt := 33) d_K_derive_21 (by decide) (by omega) (by omega) (fun h21 => ?_) (fun h => absurd h (by decide))
  refine g_aload_n (pc := 33) d_K_derive_33 rfl ?_
  refine g_iload_n (pc := 34) d_K_derive_34 rfl ?_
  refine g_iload_n (pc := 35) d_K_derive_35 rfl ?_
  refine g_iload_n (pc := 36) d_K_derive_36 rfl ?_
  refine g_callV (M' := m_K_joinedHypotheses) (pc := 37) (q := 0) d_K_derive_37 lm_K_202 (c_K_joined_1 x (by omega) y) v_K_joinedHypotheses rfl rfl rfl (by decide) rfl (Nat.le_of_ble_eq_true rfl) ?_
  rintro _ _ ⟨rfl, rfl⟩
  show pG m_K_derive τ _ 0 0 40 _ (.long _ :: _) _
  refine g_lstore (pc := 40) [(6, _), (5, _), (4, _), (0, _), (1, _), (2, _), (3, _)] d_K_derive_40 (by decide) rfl ?_
  refine g_bipush (pc := 42) (v := -4) d_K_derive_42 (by decide) ?_
  refine g_istore (pc := 44) [(8, _), (6, _), (5, _), (4, _), (0, _), (1, _), (2, _), (3, _)] d_K_derive_44 (by decide) rfl ?_
  refine g_lload (pc := 46) d_K_derive_46 rfl ?_
  refine g_ldc2 (pc := 48) d_K_derive_48 lk_K_206 ?_
  refine g_lcmp (pc := 51) d_K_derive_51 ?_
  refine g_if_eq (pc := 52) (tgt := 82) d_K_derive_52 (by decide) (fun h => absurd h (lb_cmp4 (Nat.lt_trans (wb_lt2 (show x < 60 by omega)) (by decide)))) (fun h52 => ?_)
  refine g_aload_n (pc := 55) d_K_derive_55 rfl ?_
  refine gx_K_draft (pc := 56) d_K_derive_56 lf_K_28 ?_
  refine g_callV (M' := m_D_clear) (pc := 59) (q := 3) d_K_derive_59 lm_K_47 (c_D_clear) v_D_clear rfl rfl rfl (by decide) rfl (Nat.le_of_ble_eq_true rfl) ?_
  rintro _ _ ⟨rfl, rfl⟩
  have hI1 := hI.cl
  show pG m_K_derive τ _ 0 0 62 _ _ _
  refine g_aload_n (pc := 62) d_K_derive_62 rfl ?_
  refine g_iload_n (pc := 63) d_K_derive_63 rfl ?_
  refine g_iload_n (pc := 64) d_K_derive_64 rfl ?_
  refine g_iload_n (pc := 65) d_K_derive_65 rfl ?_
  refine g_callV (M' := m_K_draftConclusion) (pc := 66) (q := 0) d_K_derive_66 lm_K_208 (c_K_conc_1 x y A hA hI1.2.2.1) v_K_draftConclusion rfl rfl rfl (by decide) rfl (Nat.le_of_ble_eq_true rfl) ?_
  rintro _ _ ⟨i3, r3, rfl, rfl, hx3, hk3⟩
  have hI2 := hI1.dw hk3 hx3
  have hpre : ∀ (z : Nat) (p : Nat × Nat), Ty[z]? = some p → Ty[z]? = some p := fun _ _ h => h
  have h4k : ∀ x, x ∈ (A) → x < 4096 := hA.lt
  have hlk : (A).length < 100000 := (by have := hA.2.2.2; omega)
  show pG m_K_derive τ _ 0 0 69 _ _ _
  refine g_aload_n (pc := 69) d_K_derive_69 rfl ?_
  refine gx_K_shelf (pc := 70) d_K_derive_70 lf_K_19 ?_
  refine g_aload_n (pc := 73) d_K_derive_73 rfl ?_
  refine gx_K_draft (pc := 74) d_K_derive_74 lf_K_28 ?_
  refine g_callV (M' := m_S_keep) (pc := 77) (q := 2) d_K_derive_77 lm_K_60 (c_S_keep Tm _ hI2.2.1 hI2.2.2.1 h4k hlk) v_S_keep rfl rfl rfl (by decide) rfl (Nat.le_of_ble_eq_true rfl) ?_
  rintro _ _ ⟨i9, r9, rfl, rfl, hS9, hk9⟩
  show pG m_K_derive τ _ 0 0 80 _ (.int _ :: _) _
  refine g_istore (pc := 80) [(8, _), (6, _), (5, _), (4, _), (0, _), (1, _), (2, _), (3, _)] d_K_derive_80 (by decide) rfl ?_
  refine g_iload (pc := 82) d_K_derive_82 rfl ?_
  refine g_bipush (pc := 84) (v := -4) d_K_derive_84 (by decide) ?_
  refine g_icmp_ne (pc := 86) (tgt := 110) d_K_derive_86 (by decide) (fun h86 => ?_) (fun h86 => ?_)
  · have hI9 := hI2.kp hk9 hS9
    obtain ⟨c, hc1, hc2, he, -⟩ := sKeep_nI h86 b2
    refine g_aload_n (pc := 110) d_K_derive_110 rfl ?_
    refine gx_K_book (pc := 111) d_K_derive_111 lf_K_35 ?_
    refine g_iload_n (pc := 114) d_K_derive_114 rfl ?_
    refine g_iload_n (pc := 115) d_K_derive_115 rfl ?_
    refine g_iload_n (pc := 116) d_K_derive_116 rfl ?_
    refine g_lload (pc := 117) d_K_derive_117 rfl ?_
    refine g_iload (pc := 119) d_K_derive_119 rfl ?_
    rw [he]
    refine g_callV (M' := m_B_add) (pc := 121) (q := 4) d_K_derive_121 lm_K_212 (c_B_add Th 1 x y.toNatClampNeg _ c _ _ hI9.2.2.2 hf (by decide) (fun e => absurd e (by decide)) (fun e => absurd e (by decide))) v_B_add rfl rfl rfl (by decide) rfl (Nat.le_of_ble_eq_true rfl) ?_
    rintro _ _ ⟨i8, r8, L8, rfl, rfl, hB8, hk8⟩
    show pG m_K_derive τ _ 0 0 124 _ (.int _ :: _) _
    refine g_iret (pc := 124) d_K_derive_124 rfl (Nat.le_refl _) (Nat.le_refl _) ?_
    exact ⟨i8, r8, L8, _, by rw [sFin, if_neg h86], rfl, by rw [sFin, if_neg h86, he, nI_clamp (by omega)]; exact hI9.bk hk8 hB8⟩
  · have hk4 := h86
    have hXS := hS9
    rw [sKeep_m4 hk4 b2] at hXS
    have hI9 := hI2.kp hk9 hXS
    refine g_aload_n (pc := 89) d_K_derive_89 rfl ?_
    refine gx_K_shelf (pc := 90) d_K_derive_90 lf_K_19 ?_
    refine g_iload (pc := 93) d_K_derive_93 rfl ?_
    refine g_callV (M' := m_S_cutTo) (pc := 95) (q := 2) d_K_derive_95 lm_K_211 (c_S_cutTo _) v_S_cutTo rfl rfl rfl (by decide) rfl (Nat.le_of_ble_eq_true rfl) ?_
    rintro _ _ ⟨rfl, rfl⟩
    show pG m_K_derive τ _ 0 0 98 _ _ _
    refine g_aload_n (pc := 98) d_K_derive_98 rfl ?_
    refine gx_K_types (pc := 99) d_K_derive_99 lf_K_10 ?_
    refine g_iload (pc := 102) d_K_derive_102 rfl ?_
    refine g_callV (M' := m_T_cutTo) (pc := 104) (q := 1) d_K_derive_104 lm_K_100 (c_T_cutTo _) v_T_cutTo rfl rfl rfl (by decide) rfl (Nat.le_of_ble_eq_true rfl) ?_
    rintro _ _ ⟨rfl, rfl⟩
    show pG m_K_derive τ _ 0 0 107 _ _ _
    refine g_bipush (pc := 107) (v := -4) d_K_derive_107 (by decide) ?_
    refine g_iret (pc := 109) d_K_derive_109 rfl (Nat.le_refl _) (Nat.le_refl _) ?_
    exact ⟨_, _, L, _, by rw [sFin, if_pos hk4], rfl, by rw [sFin, if_pos hk4]; exact hI9.scut hpre b1 (fun _ _ h => h) b2 b4 b5⟩
set_option maxRecDepth 100000 in
set_option maxHeartbeats 4000000 in
theorem c_K_derive_2 {τ : Nat × Nat} {a : Nat → Nat} {i : Nat → Int32} {r : Nat → Nat → Int32} {L : Nat → Int64} {wr : pW} {Ty : List (Nat × Nat)} {Tm : List (List Nat)} {Th : List Thm} {d : List Nat} (x ux vx zx hx cx : Nat) (A : List Nat) (tx : Th[x]? = some (ux, vx, zx, hx, cx)) (hA0 : Tm[cx]? = some A) (y : Nat) (B : List Nat) (hB0 : Tm[y]? = some B) (hI : XI Ty Tm Th d i r L) (ok : TmOk Ty Tm) (okT : ThOk Tm Th) (hf : Th.length ≠ 40)  : pC m_K_derive τ [.ref (a 0), .int (nI 2), .int (nI x), .int (nI y)] (wX a i r L ++ wr) ((fun rr w2 => ∃ i2 r2 L2 d2, rr = some (.int ((sFin Ty Tm Th 2 x y (clr hx y) Ty Tm (sJn 6 B A)).1)) ∧ w2 = wX a i2 r2 L2 ++ wr ∧ XI ((sFin Ty Tm Th 2 x y (clr hx y) Ty Tm (sJn 6 B A)).2.1) ((sFin Ty Tm Th 2 x y (clr hx y) Ty Tm (sJn 6 B A)).2.2.1) ((sFin Ty Tm Th 2 x y (clr hx y) Ty Tm (sJn 6 B A)).2.2.2) d2 i2 r2 L2)) := by
  refine pC.of rfl (Nat.le_of_ble_eq_true rfl) ?_
  show pG m_K_derive τ _ 0 0 0 [(0, _), (1, _), (2, _), (3, _)] [] _
  obtain ⟨b1, b2, b3, b4, b5, b6⟩ := hI.b
  have hA := hI.2.1.pa ok hA0
  obtain ⟨hx4, hxT, hx6, hxh⟩ := hI.th tx
  obtain ⟨-, hxb⟩ := okT.b b2 tx
  have hB := hI.2.1.pa ok hB0
  have hyl := (List.getElem?_eq_some_iff.mp hB0).1
  refine g_aload_n (pc := 0) d_K_derive_0 rfl ?_
  refine gx_K_shelf (pc := 1) d_K_derive_1 lf_K_19 ?_
  refine g_callV (M' := m_S_count) (pc := 4) (q := 2) d_K_derive_4 lm_K_131 (c_S_count) v_S_count rfl rfl rfl (by decide) rfl (Nat.le_of_ble_eq_true rfl) ?_
  rintro _ _ ⟨rfl, rfl⟩
  show pG m_K_derive τ _ 0 0 7 _ (.int _ :: _) _
  refine g_istore (pc := 7) [(4, _), (0, _), (1, _), (2, _), (3, _)] d_K_derive_7 (by decide) rfl ?_
  refine g_aload_n (pc := 9) d_K_derive_9 rfl ?_
  refine gx_K_types (pc := 10) d_K_derive_10 lf_K_10 ?_
  refine g_callV (M' := m_T_count) (pc := 13) (q := 1) d_K_derive_13 lm_K_86 (c_T_count) v_T_count rfl rfl rfl (by decide) rfl (Nat.le_of_ble_eq_true rfl) ?_
  rintro _ _ ⟨rfl, rfl⟩
  show pG m_K_derive τ _ 0 0 16 _ (.int _ :: _) _
  refine g_istore (pc := 16) [(5, _), (4, _), (0, _), (1, _), (2, _), (3, _)] d_K_derive_16 (by decide) rfl ?_
  refine g_iload_n (pc := 18) d_K_derive_18 rfl ?_
  refine g_bipush (pc := 19) (v := nI 13) d_K_derive_19 (by decide) ?_
  refine g_nicmp_ne (pc := 21) (tgt := 33) d_K_derive_21 (by decide) (by omega) (by omega) (fun h21 => ?_) (fun h => absurd h (by decide))
  refine g_aload_n (pc := 33) d_K_derive_33 rfl ?_
  refine g_iload_n (pc := 34) d_K_derive_34 rfl ?_
  refine g_iload_n (pc := 35) d_K_derive_35 rfl ?_
  refine g_iload_n (pc := 36) d_K_derive_36 rfl ?_
  refine g_callV (M' := m_K_joinedHypotheses) (pc := 37) (q := 0) d_K_derive_37 lm_K_202 (c_K_joined_2 x hx hx4 hxh hxb y (by omega)) v_K_joinedHypotheses rfl rfl rfl (by decide) rfl (Nat.le_of_ble_eq_true rfl) ?_
  rintro _ _ ⟨rfl, rfl⟩
  show pG m_K_derive τ _ 0 0 40 _ (.long _ :: _) _
  refine g_lstore (pc := 40) [(6, _), (5, _), (4, _), (0, _), (1, _), (2, _), (3, _)] d_K_derive_40 (by decide) rfl ?_
  refine g_bipush (pc := 42) (v := -4) d_K_derive_42 (by decide) ?_
  refine g_istore (pc := 44) [(8, _), (6, _), (5, _), (4, _), (0, _), (1, _), (2, _), (3, _)] d_K_derive_44 (by decide) rfl ?_
  refine g_lload (pc := 46) d_K_derive_46 rfl ?_
  refine g_ldc2 (pc := 48) d_K_derive_48 lk_K_206 ?_
  refine g_lcmp (pc := 51) d_K_derive_51 ?_
  refine g_if_eq (pc := 52) (tgt := 82) d_K_derive_52 (by decide) (fun h => absurd h (lb_cmp4 (Nat.lt_of_le_of_lt (clr_le hx y) (by omega)))) (fun h52 => ?_)
  refine g_aload_n (pc := 55) d_K_derive_55 rfl ?_
  refine gx_K_draft (pc := 56) d_K_derive_56 lf_K_28 ?_
  refine g_callV (M' := m_D_clear) (pc := 59) (q := 3) d_K_derive_59 lm_K_47 (c_D_clear) v_D_clear rfl rfl rfl (by decide) rfl (Nat.le_of_ble_eq_true rfl) ?_
  rintro _ _ ⟨rfl, rfl⟩
  have hI1 := hI.cl
  show pG m_K_derive τ _ 0 0 62 _ _ _
  refine g_aload_n (pc := 62) d_K_derive_62 rfl ?_
  refine g_iload_n (pc := 63) d_K_derive_63 rfl ?_
  refine g_iload_n (pc := 64) d_K_derive_64 rfl ?_
  refine g_iload_n (pc := 65) d_K_derive_65 rfl ?_
  refine g_callV (M' := m_K_draftConclusion) (pc := 66) (q := 0) d_K_derive_66 lm_K_208 (c_K_conc_2 x cx hx4 hx6 y A hA B hB hI1.2.2.1) v_K_draftConclusion rfl rfl rfl (by decide) rfl (Nat.le_of_ble_eq_true rfl) ?_
  rintro _ _ ⟨i3, r3, rfl, rfl, hx3, hk3⟩
  have hI2 := hI1.dw hk3 hx3
  have hpre : ∀ (z : Nat) (p : Nat × Nat), Ty[z]? = some p → Ty[z]? = some p := fun _ _ h => h
  have h4k : ∀ x, x ∈ (sJn 6 B A) → x < 4096 := tok_b (by decide) (by decide) (by decide) (app_b hB.lt hA.lt)
  have hlk : (sJn 6 B A).length < 100000 := (by have := hA.2.2.2; have := hB.2.2.2; simp [sJn]; omega)
  show pG m_K_derive τ _ 0 0 69 _ _ _
  refine g_aload_n (pc := 69) d_K_derive_69 rfl ?_
  refine gx_K_shelf (pc := 70) d_K_derive_70 lf_K_19 ?_
  refine g_aload_n (pc := 73) d_K_derive_73 rfl ?_
  refine gx_K_draft (pc := 74) d_K_derive_74 lf_K_28 ?_
  refine g_callV (M' := m_S_keep) (pc := 77) (q := 2) d_K_derive_77 lm_K_60 (c_S_keep Tm _ hI2.2.1 hI2.2.2.1 h4k hlk) v_S_keep rfl rfl rfl (by decide) rfl (Nat.le_of_ble_eq_true rfl) ?_
  rintro _ _ ⟨i9, r9, rfl, rfl, hS9, hk9⟩
  show pG m_K_derive τ _ 0 0 80 _ (.int _ :: _) _
  refine g_istore (pc := 80) [(8, _), (6, _), (5, _), (4, _), (0, _), (1, _), (2, _), (3, _)] d_K_derive_80 (by decide) rfl ?_
  refine g_iload (pc := 82) d_K_derive_82 rfl ?_
  refine g_bipush (pc := 84) (v := -4) d_K_derive_84 (by decide) ?_
  refine g_icmp_ne (pc := 86) (tgt := 110) d_K_derive_86 (by decide) (fun h86 => ?_) (fun h86 => ?_)
  · have hI9 := hI2.kp hk9 hS9
    obtain ⟨c, hc1, hc2, he, -⟩ := sKeep_nI h86 b2
    refine g_aload_n (pc := 110) d_K_derive_110 rfl ?_
    refine gx_K_book (pc := 111) d_K_derive_111 lf_K_35 ?_
    refine g_iload_n (pc := 114) d_K_derive_114 rfl ?_
    refine g_iload_n (pc := 115) d_K_derive_115 rfl ?_
    refine g_iload_n (pc := 116) d_K_derive_116 rfl ?_
    refine g_lload (pc := 117) d_K_derive_117 rfl ?_
    refine g_iload (pc := 119) d_K_derive_119 rfl ?_
    rw [he]
    refine g_callV (M' := m_B_add) (pc := 121) (q := 4) d_K_derive_121 lm_K_212 (c_B_add Th 2 x y _ c _ _ hI9.2.2.2 hf (by decide) (fun _ => ⟨rfl, by omega⟩) (fun e => absurd e (by decide))) v_B_add rfl rfl rfl (by decide) rfl (Nat.le_of_ble_eq_true rfl) ?_
    rintro _ _ ⟨i8, r8, L8, rfl, rfl, hB8, hk8⟩
    show pG m_K_derive τ _ 0 0 124 _ (.int _ :: _) _
    refine g_iret (pc := 124) d_K_derive_124 rfl (Nat.le_refl _) (Nat.le_refl _) ?_
    exact ⟨i8, r8, L8, _, by rw [sFin, if_neg h86], rfl, by rw [sFin, if_neg h86, he, nI_clamp (by omega)]; exact hI9.bk hk8 hB8⟩
  · have hk4 := h86
    have hXS := hS9
    rw [sKeep_m4 hk4 b2] at hXS
    have hI9 := hI2.kp hk9 hXS
    refine g_aload_n (pc := 89) d_K_derive_89 rfl ?_
    refine gx_K_shelf (pc := 90) d_K_derive_90 lf_K_19 ?_
    refine g_iload (pc := 93) d_K_derive_93 rfl ?_
    refine g_callV (M' := m_S_cutTo) (pc := 95) (q := 2) d_K_derive_95 lm_K_211 (c_S_cutTo _) v_S_cutTo rfl rfl rfl (by decide) rfl (Nat.le_of_ble_eq_true rfl) ?_
    rintro _ _ ⟨rfl, rfl⟩
    show pG m_K_derive τ _ 0 0 98 _ _ _
    refine g_aload_n (pc := 98) d_K_derive_98 rfl ?_
    refine gx_K_types (pc := 99) d_K_derive_99 lf_K_10 ?_
    refine g_iload (pc := 102) d_K_derive_102 rfl ?_
    refine g_callV (M' := m_T_cutTo) (pc := 104) (q := 1) d_K_derive_104 lm_K_100 (c_T_cutTo _) v_T_cutTo rfl rfl rfl (by decide) rfl (Nat.le_of_ble_eq_true rfl) ?_
    rintro _ _ ⟨rfl, rfl⟩
    show pG m_K_derive τ _ 0 0 107 _ _ _
    refine g_bipush (pc := 107) (v := -4) d_K_derive_107 (by decide) ?_
    refine g_iret (pc := 109) d_K_derive_109 rfl (Nat.le_refl _) (Nat.le_refl _) ?_
    exact ⟨_, _, L, _, by rw [sFin, if_pos hk4], rfl, by rw [sFin, if_pos hk4]; exact hI9.scut hpre b1 (fun _ _ h => h) b2 b4 b5⟩
set_option maxRecDepth 100000 in
set_option maxHeartbeats 4000000 in
theorem c_K_derive_3 {τ : Nat × Nat} {a : Nat → Nat} {i : Nat → Int32} {r : Nat → Nat → Int32} {L : Nat → Int64} {wr : pW} {Ty : List (Nat × Nat)} {Tm : List (List Nat)} {Th : List Thm} {d : List Nat} (x ux vx zx hx cx : Nat) (A : List Nat) (tx : Th[x]? = some (ux, vx, zx, hx, cx)) (hA0 : Tm[cx]? = some A) (y uy vy zy hy cy : Nat) (B : List Nat) (ty : Th[y]? = some (uy, vy, zy, hy, cy)) (hB0 : Tm[cy]? = some B) (hI : XI Ty Tm Th d i r L) (ok : TmOk Ty Tm) (okT : ThOk Tm Th) (hf : Th.length ≠ 40) (hk : tgR A = 6) : pC m_K_derive τ [.ref (a 0), .int (nI 3), .int (nI x), .int (nI y)] (wX a i r L ++ wr) ((fun rr w2 => ∃ i2 r2 L2 d2, rr = some (.int ((sFin Ty Tm Th 3 x y (hx ||| hy) Ty Tm (p2 A)).1)) ∧ w2 = wX a i2 r2 L2 ++ wr ∧ XI ((sFin Ty Tm Th 3 x y (hx ||| hy) Ty Tm (p2 A)).2.1) ((sFin Ty Tm Th 3 x y (hx ||| hy) Ty Tm (p2 A)).2.2.1) ((sFin Ty Tm Th 3 x y (hx ||| hy) Ty Tm (p2 A)).2.2.2) d2 i2 r2 L2)) := by
  refine pC.of rfl (Nat.le_of_ble_eq_true rfl) ?_
  show pG m_K_derive τ _ 0 0 0 [(0, _), (1, _), (2, _), (3, _)] [] _
  obtain ⟨b1, b2, b3, b4, b5, b6⟩ := hI.b
  have hA := hI.2.1.pa ok hA0
  obtain ⟨hx4, hxT, hx6, hxh⟩ := hI.th tx
  obtain ⟨-, hxb⟩ := okT.b b2 tx
  have hB := hI.2.1.pa ok hB0
  obtain ⟨hy4, hyT, hy6, hyh⟩ := hI.th ty
  obtain ⟨-, hyb⟩ := okT.b b2 ty
  obtain ⟨X, Y, hAe, hX, hY, hpA1, hpA2⟩ := hA.two (kPt_2 (show 5 ≤ tgR _ by rw [hk]; decide))
  refine g_aload_n (pc := 0) d_K_derive_0 rfl ?_
  refine gx_K_shelf (pc := 1) d_K_derive_1 lf_K_19 ?_
  refine g_callV (M' := m_S_count) (pc := 4) (q := 2) d_K_derive_4 lm_K_131 (c_S_count) v_S_count rfl rfl rfl (by decide) rfl (Nat.le_of_ble_eq_true rfl) ?_
  rintro _ _ ⟨rfl, rfl⟩
  show pG m_K_derive τ _ 0 0 7 _ (.int _ :: _) _
  refine g_istore (pc := 7) [(4, _), (0, _), (1, _), (2, _), (3, _)] d_K_derive_7 (by decide) rfl ?_
  refine g_aload_n (pc := 9) d_K_derive_9 rfl ?_
  refine gx_K_types (pc := 10) d_K_derive_10 lf_K_10 ?_
  refine g_callV (M' := m_T_count) (pc := 13) (q := 1) d_K_derive_13 lm_K_86 (c_T_count) v_T_count rfl rfl rfl (by decide) rfl (Nat.le_of_ble_eq_true rfl) ?_
  rintro _ _ ⟨rfl, rfl⟩
  show pG m_K_derive τ _ 0 0 16 _ (.int _ :: _) _
  refine g_istore (pc := 16) [(5, _), (4, _), (0, _), (1, _), (2, _), (3, _)] d_K_derive_16 (by decide) rfl ?_
  refine g_iload_n (pc := 18) d_K_derive_18 rfl ?_
  refine g_bipush (pc := 19) (v := nI 13) d_K_derive_19 (by decide) ?_
  refine g_nicmp_ne (pc := 21) (tgt := 33) d_K_derive_21 (by decide) (by omega) (by omega) (fun h21 => ?_) (fun h => absurd h (by decide))
  refine g_aload_n (pc := 33) d_K_derive_33 rfl ?_
  refine g_iload_n (pc := 34) d_K_derive_34 rfl ?_
  refine g_iload_n (pc := 35) d_K_derive_35 rfl ?_
  refine g_iload_n (pc := 36) d_K_derive_36 rfl ?_
  refine g_callV (M' := m_K_joinedHypotheses) (pc := 37) (q := 0) d_K_derive_37 lm_K_202 (c_K_joined_3 x hx hx4 hxh hxb y hy hy4 hyh hyb) v_K_joinedHypotheses rfl rfl rfl (by decide) rfl (Nat.le_of_ble_eq_true rfl) ?_
  rintro _ _ ⟨rfl, rfl⟩
  show pG m_K_derive τ _ 0 0 40 _ (.long _ :: _) _
  refine g_lstore (pc := 40) [(6, _), (5, _), (4, _), (0, _), (1, _), (2, _), (3, _)] d_K_derive_40 (by decide) rfl ?_
  refine g_bipush (pc := 42) (v := -4) d_K_derive_42 (by decide) ?_
  refine g_istore (pc := 44) [(8, _), (6, _), (5, _), (4, _), (0, _), (1, _), (2, _), (3, _)] d_K_derive_44 (by decide) rfl ?_
  refine g_lload (pc := 46) d_K_derive_46 rfl ?_
  refine g_ldc2 (pc := 48) d_K_derive_48 lk_K_206 ?_
  refine g_lcmp (pc := 51) d_K_derive_51 ?_
  refine g_if_eq (pc := 52) (tgt := 82) d_K_derive_52 (by decide) (fun h => absurd h (lb_cmp4 (Nat.lt_trans (Nat.or_lt_two_pow hxb hyb) (by decide)))) (fun h52 => ?_)
  refine g_aload_n (pc := 55) d_K_derive_55 rfl ?_
  refine gx_K_draft (pc := 56) d_K_derive_56 lf_K_28 ?_
  refine g_callV (M' := m_D_clear) (pc := 59) (q := 3) d_K_derive_59 lm_K_47 (c_D_clear) v_D_clear rfl rfl rfl (by decide) rfl (Nat.le_of_ble_eq_true rfl) ?_
  rintro _ _ ⟨rfl, rfl⟩
  have hI1 := hI.cl
  show pG m_K_derive τ _ 0 0 62 _ _ _
  refine g_aload_n (pc := 62) d_K_derive_62 rfl ?_
  refine g_iload_n (pc := 63) d_K_derive_63 rfl ?_
  refine g_iload_n (pc := 64) d_K_derive_64 rfl ?_
  refine g_iload_n (pc := 65) d_K_derive_65 rfl ?_
  refine g_callV (M' := m_K_draftConclusion) (pc := 66) (q := 0) d_K_derive_66 lm_K_208 (c_K_conc_3 x cx hx4 hx6 y cy hy4 hy6 A hA B hB hI1.2.2.1 hk) v_K_draftConclusion rfl rfl rfl (by decide) rfl (Nat.le_of_ble_eq_true rfl) ?_
  rintro _ _ ⟨i3, r3, rfl, rfl, hx3, hk3⟩
  have hI2 := hI1.dw hk3 hx3
  have hpre : ∀ (z : Nat) (p : Nat × Nat), Ty[z]? = some p → Ty[z]? = some p := fun _ _ h => h
  have h4k : ∀ x, x ∈ (p2 A) → x < 4096 := (by rw [hpA2]; exact hY.lt)
  have hlk : (p2 A).length < 100000 := (by rw [hpA2]; have := hY.2.2.2; omega)
  show pG m_K_derive τ _ 0 0 69 _ _ _
  refine g_aload_n (pc := 69) d_K_derive_69 rfl ?_
  refine gx_K_shelf (pc := 70) d_K_derive_70 lf_K_19 ?_
  refine g_aload_n (pc := 73) d_K_derive_73 rfl ?_
  refine gx_K_draft (pc := 74) d_K_derive_74 lf_K_28 ?_
  refine g_callV (M' := m_S_keep) (pc := 77) (q := 2) d_K_derive_77 lm_K_60 (c_S_keep Tm _ hI2.2.1 hI2.2.2.1 h4k hlk) v_S_keep rfl rfl rfl (by decide) rfl (Nat.le_of_ble_eq_true rfl) ?_
  rintro _ _ ⟨i9, r9, rfl, rfl, hS9, hk9⟩
  show pG m_K_derive τ _ 0 0 80 _ (.int _ :: _) _
  refine g_istore (pc := 80) [(8, _), (6, _), (5, _), (4, _), (0, _), (1, _), (2, _), (3, _)] d_K_derive_80 (by decide) rfl ?_
  refine g_iload (pc := 82) d_K_derive_82 rfl ?_
  refine g_bipush (pc := 84) (v := -4) d_K_derive_84 (by decide) ?_
  refine g_icmp_ne (pc := 86) (tgt := 110) d_K_derive_86 (by decide) (fun h86 => ?_) (fun h86 => ?_)
  · have hI9 := hI2.kp hk9 hS9
    obtain ⟨c, hc1, hc2, he, -⟩ := sKeep_nI h86 b2
    refine g_aload_n (pc := 110) d_K_derive_110 rfl ?_
    refine gx_K_book (pc := 111) d_K_derive_111 lf_K_35 ?_
    refine g_iload_n (pc := 114) d_K_derive_114 rfl ?_
    refine g_iload_n (pc := 115) d_K_derive_115 rfl ?_
    refine g_iload_n (pc := 116) d_K_derive_116 rfl ?_
    refine g_lload (pc := 117) d_K_derive_117 rfl ?_
    refine g_iload (pc := 119) d_K_derive_119 rfl ?_
    rw [he]
    refine g_callV (M' := m_B_add) (pc := 121) (q := 4) d_K_derive_121 lm_K_212 (c_B_add Th 3 x y _ c _ _ hI9.2.2.2 hf (by decide) (fun _ => ⟨rfl, by omega⟩) (fun _ => ⟨rfl, by omega⟩)) v_B_add rfl rfl rfl (by decide) rfl (Nat.le_of_ble_eq_true rfl) ?_
    rintro _ _ ⟨i8, r8, L8, rfl, rfl, hB8, hk8⟩
    show pG m_K_derive τ _ 0 0 124 _ (.int _ :: _) _
    refine g_iret (pc := 124) d_K_derive_124 rfl (Nat.le_refl _) (Nat.le_refl _) ?_
    exact ⟨i8, r8, L8, _, by rw [sFin, if_neg h86], rfl, by rw [sFin, if_neg h86, he, nI_clamp (by omega)]; exact hI9.bk hk8 hB8⟩
  · have hk4 := h86
    have hXS := hS9
    rw [sKeep_m4 hk4 b2] at hXS
    have hI9 := hI2.kp hk9 hXS
    refine g_aload_n (pc := 89) d_K_derive_89 rfl ?_
    refine gx_K_shelf (pc := 90) d_K_derive_90 lf_K_19 ?_
    refine g_iload (pc := 93) d_K_derive_93 rfl ?_
    refine g_callV (M' := m_S_cutTo) (pc := 95) (q := 2) d_K_derive_95 lm_K_211 (c_S_cutTo _) v_S_cutTo rfl rfl rfl (by decide) rfl (Nat.le_of_ble_eq_true rfl) ?_
    rintro _ _ ⟨rfl, rfl⟩
    show pG m_K_derive τ _ 0 0 98 _ _ _
    refine g_aload_n (pc := 98) d_K_derive_98 rfl ?_
    refine gx_K_types (pc := 99) d_K_derive_99 lf_K_10 ?_
    refine g_iload (pc := 102) d_K_derive_102 rfl ?_
    refine g_callV (M' := m_T_cutTo) (pc := 104) (q := 1) d_K_derive_104 lm_K_100 (c_T_cutTo _) v_T_cutTo rfl rfl rfl (by decide) rfl (Nat.le_of_ble_eq_true rfl) ?_
    rintro _ _ ⟨rfl, rfl⟩
    show pG m_K_derive τ _ 0 0 107 _ _ _
    refine g_bipush (pc := 107) (v := -4) d_K_derive_107 (by decide) ?_
    refine g_iret (pc := 109) d_K_derive_109 rfl (Nat.le_refl _) (Nat.le_refl _) ?_
    exact ⟨_, _, L, _, by rw [sFin, if_pos hk4], rfl, by rw [sFin, if_pos hk4]; exact hI9.scut hpre b1 (fun _ _ h => h) b2 b4 b5⟩
set_option maxRecDepth 100000 in
set_option maxHeartbeats 4000000 in
theorem c_K_derive_4 {τ : Nat × Nat} {a : Nat → Nat} {i : Nat → Int32} {r : Nat → Nat → Int32} {L : Nat → Int64} {wr : pW} {Ty : List (Nat × Nat)} {Tm : List (List Nat)} {Th : List Thm} {d : List Nat} (x ux vx zx hx cx : Nat) (A : List Nat) (tx : Th[x]? = some (ux, vx, zx, hx, cx)) (hA0 : Tm[cx]? = some A) (y : Nat) (B : List Nat) (hB0 : Tm[y]? = some B) (hI : XI Ty Tm Th d i r L) (ok : TmOk Ty Tm) (okT : ThOk Tm Th) (hf : Th.length ≠ 40)  : pC m_K_derive τ [.ref (a 0), .int (nI 4), .int (nI x), .int (nI y)] (wX a i r L ++ wr) ((fun rr w2 => ∃ i2 r2 L2 d2, rr = some (.int ((sFin Ty Tm Th 4 x y (hx) Ty Tm (sBd 4 0 (hdt B) A)).1)) ∧ w2 = wX a i2 r2 L2 ++ wr ∧ XI ((sFin Ty Tm Th 4 x y (hx) Ty Tm (sBd 4 0 (hdt B) A)).2.1) ((sFin Ty Tm Th 4 x y (hx) Ty Tm (sBd 4 0 (hdt B) A)).2.2.1) ((sFin Ty Tm Th 4 x y (hx) Ty Tm (sBd 4 0 (hdt B) A)).2.2.2) d2 i2 r2 L2)) := by
  refine pC.of rfl (Nat.le_of_ble_eq_true rfl) ?_
  show pG m_K_derive τ _ 0 0 0 [(0, _), (1, _), (2, _), (3, _)] [] _
  obtain ⟨b1, b2, b3, b4, b5, b6⟩ := hI.b
  have hA := hI.2.1.pa ok hA0
  obtain ⟨hx4, hxT, hx6, hxh⟩ := hI.th tx
  obtain ⟨-, hxb⟩ := okT.b b2 tx
  have hB := hI.2.1.pa ok hB0
  have hyl := (List.getElem?_eq_some_iff.mp hB0).1
  refine g_aload_n (pc := 0) d_K_derive_0 rfl ?_
  refine gx_K_shelf (pc := 1) d_K_derive_1 lf_K_19 ?_
  refine g_callV (M' := m_S_count) (pc := 4) (q := 2) d_K_derive_4 lm_K_131 (c_S_count) v_S_count rfl rfl rfl (by decide) rfl (Nat.le_of_ble_eq_true rfl) ?_
  rintro _ _ ⟨rfl, rfl⟩
  show pG m_K_derive τ _ 0 0 7 _ (.int _ :: _) _
  refine g_istore (pc := 7) [(4, _), (0, _), (1, _), (2, _), (3, _)] d_K_derive_7 (by decide) rfl ?_
  refine g_aload_n (pc := 9) d_K_derive_9 rfl ?_
  refine gx_K_types (pc := 10) d_K_derive_10 lf_K_10 ?_
  refine g_callV (M' := m_T_count) (pc := 13) (q := 1) d_K_derive_13 lm_K_86 (c_T_count) v_T_count rfl rfl rfl (by decide) rfl (Nat.le_of_ble_eq_true rfl) ?_
  rintro _ _ ⟨rfl, rfl⟩
  show pG m_K_derive τ _ 0 0 16 _ (.int _ :: _) _
  refine g_istore (pc := 16) [(5, _), (4, _), (0, _), (1, _), (2, _), (3, _)] d_K_derive_16 (by decide) rfl ?_
  refine g_iload_n (pc := 18) d_K_derive_18 rfl ?_
  refine g_bipush (pc := 19) (v := nI 13) d_K_derive_19 (by decide) ?_
  refine g_nicmp_ne (pc := 21) (tgt := 33) d_K_derive_21 (by decide) (by omega) (by omega) (fun h21 => ?_) (fun h => absurd h (by decide))
  refine g_aload_n (pc := 33) d_K_derive_33 rfl ?_
  refine g_iload_n (pc := 34) d_K_derive_34 rfl ?_
  refine g_iload_n (pc := 35) d_K_derive_35 rfl ?_
  refine g_iload_n (pc := 36) d_K_derive_36 rfl ?_
  refine g_callV (M' := m_K_joinedHypotheses) (pc := 37) (q := 0) d_K_derive_37 lm_K_202 (c_K_joined_4 x hx hx4 hxh hxb (nI y)) v_K_joinedHypotheses rfl rfl rfl (by decide) rfl (Nat.le_of_ble_eq_true rfl) ?_
  rintro _ _ ⟨rfl, rfl⟩
  show pG m_K_derive τ _ 0 0 40 _ (.long _ :: _) _
  refine g_lstore (pc := 40) [(6, _), (5, _), (4, _), (0, _), (1, _), (2, _), (3, _)] d_K_derive_40 (by decide) rfl ?_
  refine g_bipush (pc := 42) (v := -4) d_K_derive_42 (by decide) ?_
  refine g_istore (pc := 44) [(8, _), (6, _), (5, _), (4, _), (0, _), (1, _), (2, _), (3, _)] d_K_derive_44 (by decide) rfl ?_
  refine g_lload (pc := 46) d_K_derive_46 rfl ?_
  refine g_ldc2 (pc := 48) d_K_derive_48 lk_K_206 ?_
  refine g_lcmp (pc := 51) d_K_derive_51 ?_
  refine g_if_eq (pc := 52) (tgt := 82) d_K_derive_52 (by decide) (fun h => absurd h (lb_cmp4 (by omega))) (fun h52 => ?_)
  refine g_aload_n (pc := 55) d_K_derive_55 rfl ?_
  refine gx_K_draft (pc := 56) d_K_derive_56 lf_K_28 ?_
  refine g_callV (M' := m_D_clear) (pc := 59) (q := 3) d_K_derive_59 lm_K_47 (c_D_clear) v_D_clear rfl rfl rfl (by decide) rfl (Nat.le_of_ble_eq_true rfl) ?_
  rintro _ _ ⟨rfl, rfl⟩
  have hI1 := hI.cl
  show pG m_K_derive τ _ 0 0 62 _ _ _
  refine g_aload_n (pc := 62) d_K_derive_62 rfl ?_
  refine g_iload_n (pc := 63) d_K_derive_63 rfl ?_
  refine g_iload_n (pc := 64) d_K_derive_64 rfl ?_
  refine g_iload_n (pc := 65) d_K_derive_65 rfl ?_
  refine g_callV (M' := m_K_draftConclusion) (pc := 66) (q := 0) d_K_derive_66 lm_K_208 (c_K_conc_4 x cx hx4 hx6 y A hA B hB hI1.2.2.1) v_K_draftConclusion rfl rfl rfl (by decide) rfl (Nat.le_of_ble_eq_true rfl) ?_
  rintro _ _ ⟨i3, r3, rfl, rfl, hx3, hk3⟩
  have hI2 := hI1.dw hk3 hx3
  have hpre : ∀ (z : Nat) (p : Nat × Nat), Ty[z]? = some p → Ty[z]? = some p := fun _ _ h => h
  have h4k : ∀ x, x ∈ (sBd 4 0 (hdt B) A) → x < 4096 := sBd_lt (by decide) (by decide) hA.lt hA.2.2.2
  have hlk : (sBd 4 0 (hdt B) A).length < 100000 := (by have := @cls_len (hdt B) A [0]; have := hA.2.2.2; simp [sBd]; omega)
  show pG m_K_derive τ _ 0 0 69 _ _ _
  refine g_aload_n (pc := 69) d_K_derive_69 rfl ?_
  refine gx_K_shelf (pc := 70) d_K_derive_70 lf_K_19 ?_
  refine g_aload_n (pc := 73) d_K_derive_73 rfl ?_
  refine gx_K_draft (pc := 74) d_K_derive_74 lf_K_28 ?_
  refine g_callV (M' := m_S_keep) (pc := 77) (q := 2) d_K_derive_77 lm_K_60 (c_S_keep Tm _ hI2.2.1 hI2.2.2.1 h4k hlk) v_S_keep rfl rfl rfl (by decide) rfl (Nat.le_of_ble_eq_true rfl) ?_
  rintro _ _ ⟨i9, r9, rfl, rfl, hS9, hk9⟩
  show pG m_K_derive τ _ 0 0 80 _ (.int _ :: _) _
  refine g_istore (pc := 80) [(8, _), (6, _), (5, _), (4, _), (0, _), (1, _), (2, _), (3, _)] d_K_derive_80 (by decide) rfl ?_
  refine g_iload (pc := 82) d_K_derive_82 rfl ?_
  refine g_bipush (pc := 84) (v := -4) d_K_derive_84 (by decide) ?_
  refine g_icmp_ne (pc := 86) (tgt := 110) d_K_derive_86 (by decide) (fun h86 => ?_) (fun h86 => ?_)
  · have hI9 := hI2.kp hk9 hS9
    obtain ⟨c, hc1, hc2, he, -⟩ := sKeep_nI h86 b2
    refine g_aload_n (pc := 110) d_K_derive_110 rfl ?_
    refine gx_K_book (pc := 111) d_K_derive_111 lf_K_35 ?_
    refine g_iload_n (pc := 114) d_K_derive_114 rfl ?_
    refine g_iload_n (pc := 115) d_K_derive_115 rfl ?_
    refine g_iload_n (pc := 116) d_K_derive_116 rfl ?_
    refine g_lload (pc := 117) d_K_derive_117 rfl ?_
    refine g_iload (pc := 119) d_K_derive_119 rfl ?_
    rw [he]
    refine g_callV (M' := m_B_add) (pc := 121) (q := 4) d_K_derive_121 lm_K_212 (c_B_add Th 4 x y _ c _ _ hI9.2.2.2 hf (by decide) (fun _ => ⟨rfl, by omega⟩) (fun e => absurd e (by decide))) v_B_add rfl rfl rfl (by decide) rfl (Nat.le_of_ble_eq_true rfl) ?_
    rintro _ _ ⟨i8, r8, L8, rfl, rfl, hB8, hk8⟩
    show pG m_K_derive τ _ 0 0 124 _ (.int _ :: _) _
    refine g_iret (pc := 124) d_K_derive_124 rfl (Nat.le_refl _) (Nat.le_refl _) ?_
    exact ⟨i8, r8, L8, _, by rw [sFin, if_neg h86], rfl, by rw [sFin, if_neg h86, he, nI_clamp (by omega)]; exact hI9.bk hk8 hB8⟩
  · have hk4 := h86
    have hXS := hS9
    rw [sKeep_m4 hk4 b2] at hXS
    have hI9 := hI2.kp hk9 hXS
    refine g_aload_n (pc := 89) d_K_derive_89 rfl ?_
    refine gx_K_shelf (pc := 90) d_K_derive_90 lf_K_19 ?_
    refine g_iload (pc := 93) d_K_derive_93 rfl ?_
    refine g_callV (M' := m_S_cutTo) (pc := 95) (q := 2) d_K_derive_95 lm_K_211 (c_S_cutTo _) v_S_cutTo rfl rfl rfl (by decide) rfl (Nat.le_of_ble_eq_true rfl) ?_
    rintro _ _ ⟨rfl, rfl⟩
    show pG m_K_derive τ _ 0 0 98 _ _ _
    refine g_aload_n (pc := 98) d_K_derive_98 rfl ?_
    refine gx_K_types (pc := 99) d_K_derive_99 lf_K_10 ?_
    refine g_iload (pc := 102) d_K_derive_102 rfl ?_
    refine g_callV (M' := m_T_cutTo) (pc := 104) (q := 1) d_K_derive_104 lm_K_100 (c_T_cutTo _) v_T_cutTo rfl rfl rfl (by decide) rfl (Nat.le_of_ble_eq_true rfl) ?_
    rintro _ _ ⟨rfl, rfl⟩
    show pG m_K_derive τ _ 0 0 107 _ _ _
    refine g_bipush (pc := 107) (v := -4) d_K_derive_107 (by decide) ?_
    refine g_iret (pc := 109) d_K_derive_109 rfl (Nat.le_refl _) (Nat.le_refl _) ?_
    exact ⟨_, _, L, _, by rw [sFin, if_pos hk4], rfl, by rw [sFin, if_pos hk4]; exact hI9.scut hpre b1 (fun _ _ h => h) b2 b4 b5⟩
set_option maxRecDepth 100000 in
set_option maxHeartbeats 4000000 in
theorem c_K_derive_5 {τ : Nat × Nat} {a : Nat → Nat} {i : Nat → Int32} {r : Nat → Nat → Int32} {L : Nat → Int64} {wr : pW} {Ty : List (Nat × Nat)} {Tm : List (List Nat)} {Th : List Thm} {d : List Nat} (x ux vx zx hx cx : Nat) (A : List Nat) (tx : Th[x]? = some (ux, vx, zx, hx, cx)) (hA0 : Tm[cx]? = some A) (y : Nat) (B : List Nat) (hB0 : Tm[y]? = some B) (hI : XI Ty Tm Th d i r L) (ok : TmOk Ty Tm) (okT : ThOk Tm Th) (hf : Th.length ≠ 40) (hk : tgR A = 4) : pC m_K_derive τ [.ref (a 0), .int (nI 5), .int (nI x), .int (nI y)] (wX a i r L ++ wr) ((fun rr w2 => ∃ i2 r2 L2 d2, rr = some (.int ((sFin Ty Tm Th 5 x y (hx) Ty Tm (fil B [0] (p1 A))).1)) ∧ w2 = wX a i2 r2 L2 ++ wr ∧ XI ((sFin Ty Tm Th 5 x y (hx) Ty Tm (fil B [0] (p1 A))).2.1) ((sFin Ty Tm Th 5 x y (hx) Ty Tm (fil B [0] (p1 A))).2.2.1) ((sFin Ty Tm Th 5 x y (hx) Ty Tm (fil B [0] (p1 A))).2.2.2) d2 i2 r2 L2)) := by
  refine pC.of rfl (Nat.le_of_ble_eq_true rfl) ?_
  show pG m_K_derive τ _ 0 0 0 [(0, _), (1, _), (2, _), (3, _)] [] _
  obtain ⟨b1, b2, b3, b4, b5, b6⟩ := hI.b
  have hA := hI.2.1.pa ok hA0
  obtain ⟨hx4, hxT, hx6, hxh⟩ := hI.th tx
  obtain ⟨-, hxb⟩ := okT.b b2 tx
  have hB := hI.2.1.pa ok hB0
  have hyl := (List.getElem?_eq_some_iff.mp hB0).1
  obtain ⟨X, hAe, hX, hpA1⟩ := hA.one (kPt_1 (Or.inr hk))
  refine g_aload_n (pc := 0) d_K_derive_0 rfl ?_
  refine gx_K_shelf (pc := 1) d_K_derive_1 lf_K_19 ?_
  refine g_callV (M' := m_S_count) (pc := 4) (q := 2) d_K_derive_4 lm_K_131 (c_S_count) v_S_count rfl rfl rfl (by decide) rfl (Nat.le_of_ble_eq_true rfl) ?_
  rintro _ _ ⟨rfl, rfl⟩
  show pG m_K_derive τ _ 0 0 7 _ (.int _ :: _) _
  refine g_istore (pc := 7) [(4, _), (0, _), (1, _), (2, _), (3, _)] d_K_derive_7 (by decide) rfl ?_
  refine g_aload_n (pc := 9) d_K_derive_9 rfl ?_
  refine gx_K_types (pc := 10) d_K_derive_10 lf_K_10 ?_
  refine g_callV (M' := m_T_count) (pc := 13) (q := 1) d_K_derive_13 lm_K_86 (c_T_count) v_T_count rfl rfl rfl (by decide) rfl (Nat.le_of_ble_eq_true rfl) ?_
  rintro _ _ ⟨rfl, rfl⟩
  show pG m_K_derive τ _ 0 0 16 _ (.int _ :: _) _
  refine g_istore (pc := 16) [(5, _), (4, _), (0, _), (1, _), (2, _), (3, _)] d_K_derive_16 (by decide) rfl ?_
  refine g_iload_n (pc := 18) d_K_derive_18 rfl ?_
  refine g_bipush (pc := 19) (v := nI 13) d_K_derive_19 (by decide) ?_
  refine g_nicmp_ne (pc := 21) (tgt := 33) d_K_derive_21 (by decide) (by omega) (by omega) (fun h21 => ?_) (fun h => absurd h (by decide))
  refine g_aload_n (pc := 33) d_K_derive_33 rfl ?_
  refine g_iload_n (pc := 34) d_K_derive_34 rfl ?_
  refine g_iload_n (pc := 35) d_K_derive_35 rfl ?_
  refine g_iload_n (pc := 36) d_K_derive_36 rfl ?_
  refine g_callV (M' := m_K_joinedHypotheses) (pc := 37) (q := 0) d_K_derive_37 lm_K_202 (c_K_joined_5 x hx hx4 hxh hxb (nI y)) v_K_joinedHypotheses rfl rfl rfl (by decide) rfl (Nat.le_of_ble_eq_true rfl) ?_
  rintro _ _ ⟨rfl, rfl⟩
  show pG m_K_derive τ _ 0 0 40 _ (.long _ :: _) _
  refine g_lstore (pc := 40) [(6, _), (5, _), (4, _), (0, _), (1, _), (2, _), (3, _)] d_K_derive_40 (by decide) rfl ?_
  refine g_bipush (pc := 42) (v := -4) d_K_derive_42 (by decide) ?_
  refine g_istore (pc := 44) [(8, _), (6, _), (5, _), (4, _), (0, _), (1, _), (2, _), (3, _)] d_K_derive_44 (by decide) rfl ?_
  refine g_lload (pc := 46) d_K_derive_46 rfl ?_
  refine g_ldc2 (pc := 48) d_K_derive_48 lk_K_206 ?_
  refine g_lcmp (pc := 51) d_K_derive_51 ?_
  refine g_if_eq (pc := 52) (tgt := 82) d_K_derive_52 (by decide) (fun h => absurd h (lb_cmp4 (by omega))) (fun h52 => ?_)
  refine g_aload_n (pc := 55) d_K_derive_55 rfl ?_
  refine gx_K_draft (pc := 56) d_K_derive_56 lf_K_28 ?_
  refine g_callV (M' := m_D_clear) (pc := 59) (q := 3) d_K_derive_59 lm_K_47 (c_D_clear) v_D_clear rfl rfl rfl (by decide) rfl (Nat.le_of_ble_eq_true rfl) ?_
  rintro _ _ ⟨rfl, rfl⟩
  have hI1 := hI.cl
  show pG m_K_derive τ _ 0 0 62 _ _ _
  refine g_aload_n (pc := 62) d_K_derive_62 rfl ?_
  refine g_iload_n (pc := 63) d_K_derive_63 rfl ?_
  refine g_iload_n (pc := 64) d_K_derive_64 rfl ?_
  refine g_iload_n (pc := 65) d_K_derive_65 rfl ?_
  refine g_callV (M' := m_K_draftConclusion) (pc := 66) (q := 0) d_K_derive_66 lm_K_208 (c_K_conc_5 x cx hx4 hx6 y A hA B hB hI1.2.2.1 hk) v_K_draftConclusion rfl rfl rfl (by decide) rfl (Nat.le_of_ble_eq_true rfl) ?_
  rintro _ _ ⟨i3, r3, rfl, rfl, hx3, hk3⟩
  have hI2 := hI1.dw hk3 hx3
  have hpre : ∀ (z : Nat) (p : Nat × Nat), Ty[z]? = some p → Ty[z]? = some p := fun _ _ h => h
  have h4k : ∀ x, x ∈ (fil B [0] (p1 A)) → x < 4096 := (by rw [hpA1]; exact fil_lt hB.lt hX.lt)
  have hlk : (fil B [0] (p1 A)).length < 100000 := (by rw [hpA1]; have := @fil_len B hB.2.2.2 X [0]; have := hX.2.2.2; omega)
  show pG m_K_derive τ _ 0 0 69 _ _ _
  refine g_aload_n (pc := 69) d_K_derive_69 rfl ?_
  refine gx_K_shelf (pc := 70) d_K_derive_70 lf_K_19 ?_
  refine g_aload_n (pc := 73) d_K_derive_73 rfl ?_
  refine gx_K_draft (pc := 74) d_K_derive_74 lf_K_28 ?_
  refine g_callV (M' := m_S_keep) (pc := 77) (q := 2) d_K_derive_77 lm_K_60 (c_S_keep Tm _ hI2.2.1 hI2.2.2.1 h4k hlk) v_S_keep rfl rfl rfl (by decide) rfl (Nat.le_of_ble_eq_true rfl) ?_
  rintro _ _ ⟨i9, r9, rfl, rfl, hS9, hk9⟩
  show pG m_K_derive τ _ 0 0 80 _ (.int _ :: _) _
  refine g_istore (pc := 80) [(8, _), (6, _), (5, _), (4, _), (0, _), (1, _), (2, _), (3, _)] d_K_derive_80 (by decide) rfl ?_
  refine g_iload (pc := 82) d_K_derive_82 rfl ?_
  refine g_bipush (pc := 84) (v := -4) d_K_derive_84 (by decide) ?_
  refine g_icmp_ne (pc := 86) (tgt := 110) d_K_derive_86 (by decide) (fun h86 => ?_) (fun h86 => ?_)
  · have hI9 := hI2.kp hk9 hS9
    obtain ⟨c, hc1, hc2, he, -⟩ := sKeep_nI h86 b2
    refine g_aload_n (pc := 110) d_K_derive_110 rfl ?_
    refine gx_K_book (pc := 111) d_K_derive_111 lf_K_35 ?_
    refine g_iload_n (pc := 114) d_K_derive_114 rfl ?_
    refine g_iload_n (pc := 115) d_K_derive_115 rfl ?_
    refine g_iload_n (pc := 116) d_K_derive_116 rfl ?_
    refine g_lload (pc := 117) d_K_derive_117 rfl ?_
    refine g_iload (pc := 119) d_K_derive_119 rfl ?_
    rw [he]
    refine g_callV (M' := m_B_add) (pc := 121) (q := 4) d_K_derive_121 lm_K_212 (c_B_add Th 5 x y _ c _ _ hI9.2.2.2 hf (by decide) (fun _ => ⟨rfl, by omega⟩) (fun e => absurd e (by decide))) v_B_add rfl rfl rfl (by decide) rfl (Nat.le_of_ble_eq_true rfl) ?_
    rintro _ _ ⟨i8, r8, L8, rfl, rfl, hB8, hk8⟩
    show pG m_K_derive τ _ 0 0 124 _ (.int _ :: _) _
    refine g_iret (pc := 124) d_K_derive_124 rfl (Nat.le_refl _) (Nat.le_refl _) ?_
    exact ⟨i8, r8, L8, _, by rw [sFin, if_neg h86], rfl, by rw [sFin, if_neg h86, he, nI_clamp (by omega)]; exact hI9.bk hk8 hB8⟩
  · have hk4 := h86
    have hXS := hS9
    rw [sKeep_m4 hk4 b2] at hXS
    have hI9 := hI2.kp hk9 hXS
    refine g_aload_n (pc := 89) d_K_derive_89 rfl ?_
    refine gx_K_shelf (pc := 90) d_K_derive_90 lf_K_19 ?_
    refine g_iload (pc := 93) d_K_derive_93 rfl ?_
    refine g_callV (M' := m_S_cutTo) (pc := 95) (q := 2) d_K_derive_95 lm_K_211 (c_S_cutTo _) v_S_cutTo rfl rfl rfl (by decide) rfl (Nat.le_of_ble_eq_true rfl) ?_
    rintro _ _ ⟨rfl, rfl⟩
    show pG m_K_derive τ _ 0 0 98 _ _ _
    refine g_aload_n (pc := 98) d_K_derive_98 rfl ?_
    refine gx_K_types (pc := 99) d_K_derive_99 lf_K_10 ?_
    refine g_iload (pc := 102) d_K_derive_102 rfl ?_
    refine g_callV (M' := m_T_cutTo) (pc := 104) (q := 1) d_K_derive_104 lm_K_100 (c_T_cutTo _) v_T_cutTo rfl rfl rfl (by decide) rfl (Nat.le_of_ble_eq_true rfl) ?_
    rintro _ _ ⟨rfl, rfl⟩
    show pG m_K_derive τ _ 0 0 107 _ _ _
    refine g_bipush (pc := 107) (v := -4) d_K_derive_107 (by decide) ?_
    refine g_iret (pc := 109) d_K_derive_109 rfl (Nat.le_refl _) (Nat.le_refl _) ?_
    exact ⟨_, _, L, _, by rw [sFin, if_pos hk4], rfl, by rw [sFin, if_pos hk4]; exact hI9.scut hpre b1 (fun _ _ h => h) b2 b4 b5⟩
set_option maxRecDepth 100000 in
set_option maxHeartbeats 4000000 in
theorem c_K_derive_6 {τ : Nat × Nat} {a : Nat → Nat} {i : Nat → Int32} {r : Nat → Nat → Int32} {L : Nat → Int64} {wr : pW} {Ty : List (Nat × Nat)} {Tm : List (List Nat)} {Th : List Thm} {d : List Nat} (x : Nat) (A : List Nat) (hA0 : Tm[x]? = some A) (y : Int32) (hI : XI Ty Tm Th d i r L) (ok : TmOk Ty Tm) (okT : ThOk Tm Th) (hf : Th.length ≠ 40)  : pC m_K_derive τ [.ref (a 0), .int (nI 6), .int (nI x), .int y] (wX a i r L ++ wr) ((fun rr w2 => ∃ i2 r2 L2 d2, rr = some (.int ((sFin Ty Tm Th 6 x y.toNatClampNeg (0) Ty Tm (sJn 7 A A)).1)) ∧ w2 = wX a i2 r2 L2 ++ wr ∧ XI ((sFin Ty Tm Th 6 x y.toNatClampNeg (0) Ty Tm (sJn 7 A A)).2.1) ((sFin Ty Tm Th 6 x y.toNatClampNeg (0) Ty Tm (sJn 7 A A)).2.2.1) ((sFin Ty Tm Th 6 x y.toNatClampNeg (0) Ty Tm (sJn 7 A A)).2.2.2) d2 i2 r2 L2)) := by
  refine pC.of rfl (Nat.le_of_ble_eq_true rfl) ?_
  show pG m_K_derive τ _ 0 0 0 [(0, _), (1, _), (2, _), (3, _)] [] _
  obtain ⟨b1, b2, b3, b4, b5, b6⟩ := hI.b
  have hA := hI.2.1.pa ok hA0
  have hxl := (List.getElem?_eq_some_iff.mp hA0).1
  refine g_aload_n (pc := 0) d_K_derive_0 rfl ?_
  refine gx_K_shelf (pc := 1) d_K_derive_1 lf_K_19 ?_
  refine g_callV (M' := m_S_count) (pc := 4) (q := 2) d_K_derive_4 lm_K_131 (c_S_count) v_S_count rfl rfl rfl (by decide) rfl (Nat.le_of_ble_eq_true rfl) ?_
  rintro _ _ ⟨rfl, rfl⟩
  show pG m_K_derive τ _ 0 0 7 _ (.int _ :: _) _
  refine g_istore (pc := 7) [(4, _), (0, _), (1, _), (2, _), (3, _)] d_K_derive_7 (by decide) rfl ?_
  refine g_aload_n (pc := 9) d_K_derive_9 rfl ?_
  refine gx_K_types (pc := 10) d_K_derive_10 lf_K_10 ?_
  refine g_callV (M' := m_T_count) (pc := 13) (q := 1) d_K_derive_13 lm_K_86 (c_T_count) v_T_count rfl rfl rfl (by decide) rfl (Nat.le_of_ble_eq_true rfl) ?_
  rintro _ _ ⟨rfl, rfl⟩
  show pG m_K_derive τ _ 0 0 16 _ (.int _ :: _) _
  refine g_istore (pc := 16) [(5, _), (4, _), (0, _), (1, _), (2, _), (3, _)] d_K_derive_16 (by decide) rfl ?_
  refine g_iload_n (pc := 18) d_K_derive_18 rfl ?_
  refine g_bipush (pc := 19) (v := nI 13) d_K_derive_19 (by decide) ?_
  refine g_nicmp_ne (pc := 21) (tgt := 33) d_K_derive_21 (by decide) (by omega) (by omega) (fun h21 => ?_) (fun h => absurd h (by decide))
  refine g_aload_n (pc := 33) d_K_derive_33 rfl ?_
  refine g_iload_n (pc := 34) d_K_derive_34 rfl ?_
  refine g_iload_n (pc := 35) d_K_derive_35 rfl ?_
  refine g_iload_n (pc := 36) d_K_derive_36 rfl ?_
  refine g_callV (M' := m_K_joinedHypotheses) (pc := 37) (q := 0) d_K_derive_37 lm_K_202 (c_K_joined_6 x y) v_K_joinedHypotheses rfl rfl rfl (by decide) rfl (Nat.le_of_ble_eq_true rfl) ?_
  rintro _ _ ⟨rfl, rfl⟩
  show pG m_K_derive τ _ 0 0 40 _ (.long _ :: _) _
  refine g_lstore (pc := 40) [(6, _), (5, _), (4, _), (0, _), (1, _), (2, _), (3, _)] d_K_derive_40 (by decide) rfl ?_
  refine g_bipush (pc := 42) (v := -4) d_K_derive_42 (by decide) ?_
  refine g_istore (pc := 44) [(8, _), (6, _), (5, _), (4, _), (0, _), (1, _), (2, _), (3, _)] d_K_derive_44 (by decide) rfl ?_
  refine g_lload (pc := 46) d_K_derive_46 rfl ?_
  refine g_ldc2 (pc := 48) d_K_derive_48 lk_K_206 ?_
  refine g_lcmp (pc := 51) d_K_derive_51 ?_
  refine g_if_eq (pc := 52) (tgt := 82) d_K_derive_52 (by decide) (fun h => absurd h (lb_cmp4 (by decide))) (fun h52 => ?_)
  refine g_aload_n (pc := 55) d_K_derive_55 rfl ?_
  refine gx_K_draft (pc := 56) d_K_derive_56 lf_K_28 ?_
  refine g_callV (M' := m_D_clear) (pc := 59) (q := 3) d_K_derive_59 lm_K_47 (c_D_clear) v_D_clear rfl rfl rfl (by decide) rfl (Nat.le_of_ble_eq_true rfl) ?_
  rintro _ _ ⟨rfl, rfl⟩
  have hI1 := hI.cl
  show pG m_K_derive τ _ 0 0 62 _ _ _
  refine g_aload_n (pc := 62) d_K_derive_62 rfl ?_
  refine g_iload_n (pc := 63) d_K_derive_63 rfl ?_
  refine g_iload_n (pc := 64) d_K_derive_64 rfl ?_
  refine g_iload_n (pc := 65) d_K_derive_65 rfl ?_
  refine g_callV (M' := m_K_draftConclusion) (pc := 66) (q := 0) d_K_derive_66 lm_K_208 (c_K_conc_6 x y A hA hI1.2.2.1) v_K_draftConclusion rfl rfl rfl (by decide) rfl (Nat.le_of_ble_eq_true rfl) ?_
  rintro _ _ ⟨i3, r3, rfl, rfl, hx3, hk3⟩
  have hI2 := hI1.dw hk3 hx3
  have hpre : ∀ (z : Nat) (p : Nat × Nat), Ty[z]? = some p → Ty[z]? = some p := fun _ _ h => h
  have h4k : ∀ x, x ∈ (sJn 7 A A) → x < 4096 := tok_b (by decide) (by decide) (by decide) (app_b hA.lt hA.lt)
  have hlk : (sJn 7 A A).length < 100000 := (by have := hA.2.2.2; simp [sJn]; omega)
  show pG m_K_derive τ _ 0 0 69 _ _ _
  refine g_aload_n (pc := 69) d_K_derive_69 rfl ?_
  refine gx_K_shelf (pc := 70) d_K_derive_70 lf_K_19 ?_
  refine g_aload_n (pc := 73) d_K_derive_73 rfl ?_
  refine gx_K_draft (pc := 74) d_K_derive_74 lf_K_28 ?_
  refine g_callV (M' := m_S_keep) (pc := 77) (q := 2) d_K_derive_77 lm_K_60 (c_S_keep Tm _ hI2.2.1 hI2.2.2.1 h4k hlk) v_S_keep rfl rfl rfl (by decide) rfl (Nat.le_of_ble_eq_true rfl) ?_
  rintro _ _ ⟨i9, r9, rfl, rfl, hS9, hk9⟩
  show pG m_K_derive τ _ 0 0 80 _ (.int _ :: _) _
  refine g_istore (pc := 80) [(8, _), (6, _), (5, _), (4, _), (0, _), (1, _), (2, _), (3, _)] d_K_derive_80 (by decide) rfl ?_
  refine g_iload (pc := 82) d_K_derive_82 rfl ?_
  refine g_bipush (pc := 84) (v := -4) d_K_derive_84 (by decide) ?_
  refine g_icmp_ne (pc := 86) (tgt := 110) d_K_derive_86 (by decide) (fun h86 => ?_) (fun h86 => ?_)
  · have hI9 := hI2.kp hk9 hS9
    obtain ⟨c, hc1, hc2, he, -⟩ := sKeep_nI h86 b2
    refine g_aload_n (pc := 110) d_K_derive_110 rfl ?_
    refine gx_K_book (pc := 111) d_K_derive_111 lf_K_35 ?_
    refine g_iload_n (pc := 114) d_K_derive_114 rfl ?_
    refine g_iload_n (pc := 115) d_K_derive_115 rfl ?_
    refine g_iload_n (pc := 116) d_K_derive_116 rfl ?_
    refine g_lload (pc := 117) d_K_derive_117 rfl ?_
    refine g_iload (pc := 119) d_K_derive_119 rfl ?_
    rw [he]
    refine g_callV (M' := m_B_add) (pc := 121) (q := 4) d_K_derive_121 lm_K_212 (c_B_add Th 6 x y.toNatClampNeg _ c _ _ hI9.2.2.2 hf (by decide) (fun e => absurd e (by decide)) (fun e => absurd e (by decide))) v_B_add rfl rfl rfl (by decide) rfl (Nat.le_of_ble_eq_true rfl) ?_
    rintro _ _ ⟨i8, r8, L8, rfl, rfl, hB8, hk8⟩
    show pG m_K_derive τ _ 0 0 124 _ (.int _ :: _) _
    refine g_iret (pc := 124) d_K_derive_124 rfl (Nat.le_refl _) (Nat.le_refl _) ?_
    exact ⟨i8, r8, L8, _, by rw [sFin, if_neg h86], rfl, by rw [sFin, if_neg h86, he, nI_clamp (by omega)]; exact hI9.bk hk8 hB8⟩
  · have hk4 := h86
    have hXS := hS9
    rw [sKeep_m4 hk4 b2] at hXS
    have hI9 := hI2.kp hk9 hXS
    refine g_aload_n (pc := 89) d_K_derive_89 rfl ?_
    refine gx_K_shelf (pc := 90) d_K_derive_90 lf_K_19 ?_
    refine g_iload (pc := 93) d_K_derive_93 rfl ?_
    refine g_callV (M' := m_S_cutTo) (pc := 95) (q := 2) d_K_derive_95 lm_K_211 (c_S_cutTo _) v_S_cutTo rfl rfl rfl (by decide) rfl (Nat.le_of_ble_eq_true rfl) ?_
    rintro _ _ ⟨rfl, rfl⟩
    show pG m_K_derive τ _ 0 0 98 _ _ _
    refine g_aload_n (pc := 98) d_K_derive_98 rfl ?_
    refine gx_K_types (pc := 99) d_K_derive_99 lf_K_10 ?_
    refine g_iload (pc := 102) d_K_derive_102 rfl ?_
    refine g_callV (M' := m_T_cutTo) (pc := 104) (q := 1) d_K_derive_104 lm_K_100 (c_T_cutTo _) v_T_cutTo rfl rfl rfl (by decide) rfl (Nat.le_of_ble_eq_true rfl) ?_
    rintro _ _ ⟨rfl, rfl⟩
    show pG m_K_derive τ _ 0 0 107 _ _ _
    refine g_bipush (pc := 107) (v := -4) d_K_derive_107 (by decide) ?_
    refine g_iret (pc := 109) d_K_derive_109 rfl (Nat.le_refl _) (Nat.le_refl _) ?_
    exact ⟨_, _, L, _, by rw [sFin, if_pos hk4], rfl, by rw [sFin, if_pos hk4]; exact hI9.scut hpre b1 (fun _ _ h => h) b2 b4 b5⟩
set_option maxRecDepth 100000 in
set_option maxHeartbeats 4000000 in
theorem c_K_derive_7 {τ : Nat × Nat} {a : Nat → Nat} {i : Nat → Int32} {r : Nat → Nat → Int32} {L : Nat → Int64} {wr : pW} {Ty : List (Nat × Nat)} {Tm : List (List Nat)} {Th : List Thm} {d : List Nat} (x ux vx zx hx cx : Nat) (A : List Nat) (tx : Th[x]? = some (ux, vx, zx, hx, cx)) (hA0 : Tm[cx]? = some A) (y : Int32) (hI : XI Ty Tm Th d i r L) (ok : TmOk Ty Tm) (okT : ThOk Tm Th) (hf : Th.length ≠ 40) (hk : tgR A = 7) : pC m_K_derive τ [.ref (a 0), .int (nI 7), .int (nI x), .int y] (wX a i r L ++ wr) ((fun rr w2 => ∃ i2 r2 L2 d2, rr = some (.int ((sFin Ty Tm Th 7 x y.toNatClampNeg (hx) Ty Tm (sJn 7 (p2 A) (p1 A))).1)) ∧ w2 = wX a i2 r2 L2 ++ wr ∧ XI ((sFin Ty Tm Th 7 x y.toNatClampNeg (hx) Ty Tm (sJn 7 (p2 A) (p1 A))).2.1) ((sFin Ty Tm Th 7 x y.toNatClampNeg (hx) Ty Tm (sJn 7 (p2 A) (p1 A))).2.2.1) ((sFin Ty Tm Th 7 x y.toNatClampNeg (hx) Ty Tm (sJn 7 (p2 A) (p1 A))).2.2.2) d2 i2 r2 L2)) := by
  refine pC.of rfl (Nat.le_of_ble_eq_true rfl) ?_
  show pG m_K_derive τ _ 0 0 0 [(0, _), (1, _), (2, _), (3, _)] [] _
  obtain ⟨b1, b2, b3, b4, b5, b6⟩ := hI.b
  have hA := hI.2.1.pa ok hA0
  obtain ⟨hx4, hxT, hx6, hxh⟩ := hI.th tx
  obtain ⟨-, hxb⟩ := okT.b b2 tx
  obtain ⟨X, Y, hAe, hX, hY, hpA1, hpA2⟩ := hA.two (kPt_2 (show 5 ≤ tgR _ by rw [hk]; decide))
  refine g_aload_n (pc := 0) d_K_derive_0 rfl ?_
  refine gx_K_shelf (pc := 1) d_K_derive_1 lf_K_19 ?_
  refine g_callV (M' := m_S_count) (pc := 4) (q := 2) d_K_derive_4 lm_K_131 (c_S_count) v_S_count rfl rfl rfl (by decide) rfl (Nat.le_of_ble_eq_true rfl) ?_
  rintro _ _ ⟨rfl, rfl⟩
  show pG m_K_derive τ _ 0 0 7 _ (.int _ :: _) _
  refine g_istore (pc := 7) [(4, _), (0, _), (1, _), (2, _), (3, _)] d_K_derive_7 (by decide) rfl ?_
  refine g_aload_n (pc := 9) d_K_derive_9 rfl ?_
  refine gx_K_types (pc := 10) d_K_derive_10 lf_K_10 ?_
  refine g_callV (M' := m_T_count) (pc := 13) (q := 1) d_K_derive_13 lm_K_86 (c_T_count) v_T_count rfl rfl rfl (by decide) rfl (Nat.le_of_ble_eq_true rfl) ?_
  rintro _ _ ⟨rfl, rfl⟩
  show pG m_K_derive τ _ 0 0 16 _ (.int _ :: _) _
  refine g_istore (pc := 16) [(5, _), (4, _), (0, _), (1, _), (2, _), (3, _)] d_K_derive_16 (by decide) rfl ?_
  refine g_iload_n (pc := 18) d_K_derive_18 rfl ?_
  refine g_bipush (pc := 19) (v := nI 13) d_K_derive_19 (by decide) ?_
  refine g_nicmp_ne (pc := 21) (tgt := 33) d_K_derive_21 (by decide) (by omega) (by omega) (fun h21 => ?_) (fun h => absurd h (by decide))
  refine g_aload_n (pc := 33) d_K_derive_33 rfl ?_
  refine g_iload_n (pc := 34) d_K_derive_34 rfl ?_
  refine g_iload_n (pc := 35) d_K_derive_35 rfl ?_
  refine g_iload_n (pc := 36) d_K_derive_36 rfl ?_
  refine g_callV (M' := m_K_joinedHypotheses) (pc := 37) (q := 0) d_K_derive_37 lm_K_202 (c_K_joined_7 x hx hx4 hxh hxb y) v_K_joinedHypotheses rfl rfl rfl (by decide) rfl (Nat.le_of_ble_eq_true rfl) ?_
  rintro _ _ ⟨rfl, rfl⟩
  show pG m_K_derive τ _ 0 0 40 _ (.long _ :: _) _
  refine g_lstore (pc := 40) [(6, _), (5, _), (4, _), (0, _), (1, _), (2, _), (3, _)] d_K_derive_40 (by decide) rfl ?_
  refine g_bipush (pc := 42) (v := -4) d_K_derive_42 (by decide) ?_
  refine g_istore (pc := 44) [(8, _), (6, _), (5, _), (4, _), (0, _), (1, _), (2, _), (3, _)] d_K_derive_44 (by decide) rfl ?_
  refine g_lload (pc := 46) d_K_derive_46 rfl ?_
  refine g_ldc2 (pc := 48) d_K_derive_48 lk_K_206 ?_
  refine g_lcmp (pc := 51) d_K_derive_51 ?_
  refine g_if_eq (pc := 52) (tgt := 82) d_K_derive_52 (by decide) (fun h => absurd h (lb_cmp4 (by omega))) (fun h52 => ?_)
  refine g_aload_n (pc := 55) d_K_derive_55 rfl ?_
  refine gx_K_draft (pc := 56) d_K_derive_56 lf_K_28 ?_
  refine g_callV (M' := m_D_clear) (pc := 59) (q := 3) d_K_derive_59 lm_K_47 (c_D_clear) v_D_clear rfl rfl rfl (by decide) rfl (Nat.le_of_ble_eq_true rfl) ?_
  rintro _ _ ⟨rfl, rfl⟩
  have hI1 := hI.cl
  show pG m_K_derive τ _ 0 0 62 _ _ _
  refine g_aload_n (pc := 62) d_K_derive_62 rfl ?_
  refine g_iload_n (pc := 63) d_K_derive_63 rfl ?_
  refine g_iload_n (pc := 64) d_K_derive_64 rfl ?_
  refine g_iload_n (pc := 65) d_K_derive_65 rfl ?_
  refine g_callV (M' := m_K_draftConclusion) (pc := 66) (q := 0) d_K_derive_66 lm_K_208 (c_K_conc_7 x cx hx4 hx6 y A hA hI1.2.2.1 hk) v_K_draftConclusion rfl rfl rfl (by decide) rfl (Nat.le_of_ble_eq_true rfl) ?_
  rintro _ _ ⟨i3, r3, rfl, rfl, hx3, hk3⟩
  have hI2 := hI1.dw hk3 hx3
  have hpre : ∀ (z : Nat) (p : Nat × Nat), Ty[z]? = some p → Ty[z]? = some p := fun _ _ h => h
  have h4k : ∀ x, x ∈ (sJn 7 (p2 A) (p1 A)) → x < 4096 := (by rw [hpA1, hpA2]; exact tok_b (by decide) (by decide) (by decide) (app_b hY.lt hX.lt))
  have hlk : (sJn 7 (p2 A) (p1 A)).length < 100000 := (by rw [hpA1, hpA2]; have := hX.2.2.2; have := hY.2.2.2; simp [sJn]; omega)
  show pG m_K_derive τ _ 0 0 69 _ _ _
  refine g_aload_n (pc := 69) d_K_derive_69 rfl ?_
  refine gx_K_shelf (pc := 70) d_K_derive_70 lf_K_19 ?_
  refine g_aload_n (pc := 73) d_K_derive_73 rfl ?_
  refine gx_K_draft (pc := 74) d_K_derive_74 lf_K_28 ?_
  refine g_callV (M' := m_S_keep) (pc := 77) (q := 2) d_K_derive_77 lm_K_60 (c_S_keep Tm _ hI2.2.1 hI2.2.2.1 h4k hlk) v_S_keep rfl rfl rfl (by decide) rfl (Nat.le_of_ble_eq_true rfl) ?_
  rintro _ _ ⟨i9, r9, rfl, rfl, hS9, hk9⟩
  show pG m_K_derive τ _ 0 0 80 _ (.int _ :: _) _
  refine g_istore (pc := 80) [(8, _), (6, _), (5, _), (4, _), (0, _), (1, _), (2, _), (3, _)] d_K_derive_80 (by decide) rfl ?_
  refine g_iload (pc := 82) d_K_derive_82 rfl ?_
  refine g_bipush (pc := 84) (v := -4) d_K_derive_84 (by decide) ?_
  refine g_icmp_ne (pc := 86) (tgt := 110) d_K_derive_86 (by decide) (fun h86 => ?_) (fun h86 => ?_)
  · have hI9 := hI2.kp hk9 hS9
    obtain ⟨c, hc1, hc2, he, -⟩ := sKeep_nI h86 b2
    refine g_aload_n (pc := 110) d_K_derive_110 rfl ?_
    refine gx_K_book (pc := 111) d_K_derive_111 lf_K_35 ?_
    refine g_iload_n (pc := 114) d_K_derive_114 rfl ?_
    refine g_iload_n (pc := 115) d_K_derive_115 rfl ?_
    refine g_iload_n (pc := 116) d_K_derive_116 rfl ?_
    refine g_lload (pc := 117) d_K_derive_117 rfl ?_
    refine g_iload (pc := 119) d_K_derive_119 rfl ?_
    rw [he]
    refine g_callV (M' := m_B_add) (pc := 121) (q := 4) d_K_derive_121 lm_K_212 (c_B_add Th 7 x y.toNatClampNeg _ c _ _ hI9.2.2.2 hf (by decide) (fun _ => ⟨rfl, by omega⟩) (fun e => absurd e (by decide))) v_B_add rfl rfl rfl (by decide) rfl (Nat.le_of_ble_eq_true rfl) ?_
    rintro _ _ ⟨i8, r8, L8, rfl, rfl, hB8, hk8⟩
    show pG m_K_derive τ _ 0 0 124 _ (.int _ :: _) _
    refine g_iret (pc := 124) d_K_derive_124 rfl (Nat.le_refl _) (Nat.le_refl _) ?_
    exact ⟨i8, r8, L8, _, by rw [sFin, if_neg h86], rfl, by rw [sFin, if_neg h86, he, nI_clamp (by omega)]; exact hI9.bk hk8 hB8⟩
  · have hk4 := h86
    have hXS := hS9
    rw [sKeep_m4 hk4 b2] at hXS
    have hI9 := hI2.kp hk9 hXS
    refine g_aload_n (pc := 89) d_K_derive_89 rfl ?_
    refine gx_K_shelf (pc := 90) d_K_derive_90 lf_K_19 ?_
    refine g_iload (pc := 93) d_K_derive_93 rfl ?_
    refine g_callV (M' := m_S_cutTo) (pc := 95) (q := 2) d_K_derive_95 lm_K_211 (c_S_cutTo _) v_S_cutTo rfl rfl rfl (by decide) rfl (Nat.le_of_ble_eq_true rfl) ?_
    rintro _ _ ⟨rfl, rfl⟩
    show pG m_K_derive τ _ 0 0 98 _ _ _
    refine g_aload_n (pc := 98) d_K_derive_98 rfl ?_
    refine gx_K_types (pc := 99) d_K_derive_99 lf_K_10 ?_
    refine g_iload (pc := 102) d_K_derive_102 rfl ?_
    refine g_callV (M' := m_T_cutTo) (pc := 104) (q := 1) d_K_derive_104 lm_K_100 (c_T_cutTo _) v_T_cutTo rfl rfl rfl (by decide) rfl (Nat.le_of_ble_eq_true rfl) ?_
    rintro _ _ ⟨rfl, rfl⟩
    show pG m_K_derive τ _ 0 0 107 _ _ _
    refine g_bipush (pc := 107) (v := -4) d_K_derive_107 (by decide) ?_
    refine g_iret (pc := 109) d_K_derive_109 rfl (Nat.le_refl _) (Nat.le_refl _) ?_
    exact ⟨_, _, L, _, by rw [sFin, if_pos hk4], rfl, by rw [sFin, if_pos hk4]; exact hI9.scut hpre b1 (fun _ _ h => h) b2 b4 b5⟩
set_option maxRecDepth 100000 in
set_option maxHeartbeats 4000000 in
theorem c_K_derive_8 {τ : Nat × Nat} {a : Nat → Nat} {i : Nat → Int32} {r : Nat → Nat → Int32} {L : Nat → Int64} {wr : pW} {Ty : List (Nat × Nat)} {Tm : List (List Nat)} {Th : List Thm} {d : List Nat} (x ux vx zx hx cx : Nat) (A : List Nat) (tx : Th[x]? = some (ux, vx, zx, hx, cx)) (hA0 : Tm[cx]? = some A) (y uy vy zy hy cy : Nat) (B : List Nat) (ty : Th[y]? = some (uy, vy, zy, hy, cy)) (hB0 : Tm[cy]? = some B) (hI : XI Ty Tm Th d i r L) (ok : TmOk Ty Tm) (okT : ThOk Tm Th) (hf : Th.length ≠ 40) (hk : tgR A = 7) (hk2 : tgR B = 7) : pC m_K_derive τ [.ref (a 0), .int (nI 8), .int (nI x), .int (nI y)] (wX a i r L ++ wr) ((fun rr w2 => ∃ i2 r2 L2 d2, rr = some (.int ((sFin Ty Tm Th 8 x y (hx ||| hy) Ty Tm (sJn 7 (p1 A) (p2 B))).1)) ∧ w2 = wX a i2 r2 L2 ++ wr ∧ XI ((sFin Ty Tm Th 8 x y (hx ||| hy) Ty Tm (sJn 7 (p1 A) (p2 B))).2.1) ((sFin Ty Tm Th 8 x y (hx ||| hy) Ty Tm (sJn 7 (p1 A) (p2 B))).2.2.1) ((sFin Ty Tm Th 8 x y (hx ||| hy) Ty Tm (sJn 7 (p1 A) (p2 B))).2.2.2) d2 i2 r2 L2)) := by
  refine pC.of rfl (Nat.le_of_ble_eq_true rfl) ?_
  show pG m_K_derive τ _ 0 0 0 [(0, _), (1, _), (2, _), (3, _)] [] _
  obtain ⟨b1, b2, b3, b4, b5, b6⟩ := hI.b
  have hA := hI.2.1.pa ok hA0
  obtain ⟨hx4, hxT, hx6, hxh⟩ := hI.th tx
  obtain ⟨-, hxb⟩ := okT.b b2 tx
  have hB := hI.2.1.pa ok hB0
  obtain ⟨hy4, hyT, hy6, hyh⟩ := hI.th ty
  obtain ⟨-, hyb⟩ := okT.b b2 ty
  obtain ⟨X, Y, hAe, hX, hY, hpA1, hpA2⟩ := hA.two (kPt_2 (show 5 ≤ tgR _ by rw [hk]; decide))
  obtain ⟨Z, U, hBe, hZ, hU, hpB1, hpB2⟩ := hB.two (kPt_2 (show 5 ≤ tgR _ by rw [hk2]; decide))
  refine g_aload_n (pc := 0) d_K_derive_0 rfl ?_
  refine gx_K_shelf (pc := 1) d_K_derive_1 lf_K_19 ?_
  refine g_callV (M' := m_S_count) (pc := 4) (q := 2) d_K_derive_4 lm_K_131 (c_S_count) v_S_count rfl rfl rfl (by decide) rfl (Nat.le_of_ble_eq_true rfl) ?_
  rintro _ _ ⟨rfl, rfl⟩
  show pG m_K_derive τ _ 0 0 7 _ (.int _ :: _) _
  refine g_istore (pc := 7) [(4, _), (0, _), (1, _), (2, _), (3, _)] d_K_derive_7 (by decide) rfl ?_
  refine g_aload_n (pc := 9) d_K_derive_9 rfl ?_
  refine gx_K_types (pc := 10) d_K_derive_10 lf_K_10 ?_
  refine g_callV (M' := m_T_count) (pc := 13) (q := 1) d_K_derive_13 lm_K_86 (c_T_count) v_T_count rfl rfl rfl (by decide) rfl (Nat.le_of_ble_eq_true rfl) ?_
  rintro _ _ ⟨rfl, rfl⟩
  show pG m_K_derive τ _ 0 0 16 _ (.int _ :: _) _
  refine g_istore (pc := 16) [(5, _), (4, _), (0, _), (1, _), (2, _), (3, _)] d_K_derive_16 (by decide) rfl ?_
  refine g_iload_n (pc := 18) d_K_derive_18 rfl ?_
  refine g_bipush (pc := 19) (v := nI 13) d_K_derive_19 (by decide) ?_
  refine g_nicmp_ne (pc := 21) (tgt := 33) d_K_derive_21 (by decide) (by omega) (by omega) (fun h21 => ?_) (fun h => absurd h (by decide))
  refine g_aload_n (pc := 33) d_K_derive_33 rfl ?_
  refine g_iload_n (pc := 34) d_K_derive_34 rfl ?_
  refine g_iload_n (pc := 35) d_K_derive_35 rfl ?_
  refine g_iload_n (pc := 36) d_K_derive_36 rfl ?_
  refine g_callV (M' := m_K_joinedHypotheses) (pc := 37) (q := 0) d_K_derive_37 lm_K_202 (c_K_joined_8 x hx hx4 hxh hxb y hy hy4 hyh hyb) v_K_joinedHypotheses rfl rfl rfl (by decide) rfl (Nat.le_of_ble_eq_true rfl) ?_
  rintro _ _ ⟨rfl, rfl⟩
  show pG m_K_derive τ _ 0 0 40 _ (.long _ :: _) _
  refine g_lstore (pc := 40) [(6, _), (5, _), (4, _), (0, _), (1, _), (2, _), (3, _)] d_K_derive_40 (by decide) rfl ?_
  refine g_bipush (pc := 42) (v := -4) d_K_derive_42 (by decide) ?_
  refine g_istore (pc := 44) [(8, _), (6, _), (5, _), (4, _), (0, _), (1, _), (2, _), (3, _)] d_K_derive_44 (by decide) rfl ?_
  refine g_lload (pc := 46) d_K_derive_46 rfl ?_
  refine g_ldc2 (pc := 48) d_K_derive_48 lk_K_206 ?_
  refine g_lcmp (pc := 51) d_K_derive_51 ?_
  refine g_if_eq (pc := 52) (tgt := 82) d_K_derive_52 (by decide) (fun h => absurd h (lb_cmp4 (Nat.lt_trans (Nat.or_lt_two_pow hxb hyb) (by decide)))) (fun h52 => ?_)
  refine g_aload_n (pc := 55) d_K_derive_55 rfl ?_
  refine gx_K_draft (pc := 56) d_K_derive_56 lf_K_28 ?_
  refine g_callV (M' := m_D_clear) (pc := 59) (q := 3) d_K_derive_59 lm_K_47 (c_D_clear) v_D_clear rfl rfl rfl (by decide) rfl (Nat.le_of_ble_eq_true rfl) ?_
  rintro _ _ ⟨rfl, rfl⟩
  have hI1 := hI.cl
  show pG m_K_derive τ _ 0 0 62 _ _ _
  refine g_aload_n (pc := 62) d_K_derive_62 rfl ?_
  refine g_iload_n (pc := 63) d_K_derive_63 rfl ?_
  refine g_iload_n (pc := 64) d_K_derive_64 rfl ?_
  refine g_iload_n (pc := 65) d_K_derive_65 rfl ?_
  refine g_callV (M' := m_K_draftConclusion) (pc := 66) (q := 0) d_K_derive_66 lm_K_208 (c_K_conc_8 x cx hx4 hx6 y cy hy4 hy6 A hA B hB hI1.2.2.1 hk hk2) v_K_draftConclusion rfl rfl rfl (by decide) rfl (Nat.le_of_ble_eq_true rfl) ?_
  rintro _ _ ⟨i3, r3, rfl, rfl, hx3, hk3⟩
  have hI2 := hI1.dw hk3 hx3
  have hpre : ∀ (z : Nat) (p : Nat × Nat), Ty[z]? = some p → Ty[z]? = some p := fun _ _ h => h
  have h4k : ∀ x, x ∈ (sJn 7 (p1 A) (p2 B)) → x < 4096 := (by rw [hpA1, hpB2]; exact tok_b (by decide) (by decide) (by decide) (app_b hX.lt hU.lt))
  have hlk : (sJn 7 (p1 A) (p2 B)).length < 100000 := (by rw [hpA1, hpB2]; have := hX.2.2.2; have := hU.2.2.2; simp [sJn]; omega)
  show pG m_K_derive τ _ 0 0 69 _ _ _
  refine g_aload_n (pc := 69) d_K_derive_69 rfl ?_
  refine gx_K_shelf (pc := 70) d_K_derive_70 lf_K_19 ?_
  refine g_aload_n (pc := 73) d_K_derive_73 rfl ?_
  refine gx_K_draft (pc := 74) d_K_derive_74 lf_K_28 ?_
  refine g_callV (M' := m_S_keep) (pc := 77) (q := 2) d_K_derive_77 lm_K_60 (c_S_keep Tm _ hI2.2.1 hI2.2.2.1 h4k hlk) v_S_keep rfl rfl rfl (by decide) rfl (Nat.le_of_ble_eq_true rfl) ?_
  rintro _ _ ⟨i9, r9, rfl, rfl, hS9, hk9⟩
  show pG m_K_derive τ _ 0 0 80 _ (.int _ :: _) _
  refine g_istore (pc := 80) [(8, _), (6, _), (5, _), (4, _), (0, _), (1, _), (2, _), (3, _)] d_K_derive_80 (by decide) rfl ?_
  refine g_iload (pc := 82) d_K_derive_82 rfl ?_
  refine g_bipush (pc := 84) (v := -4) d_K_derive_84 (by decide) ?_
  refine g_icmp_ne (pc := 86) (tgt := 110) d_K_derive_86 (by decide) (fun h86 => ?_) (fun h86 => ?_)
  · have hI9 := hI2.kp hk9 hS9
    obtain ⟨c, hc1, hc2, he, -⟩ := sKeep_nI h86 b2
    refine g_aload_n (pc := 110) d_K_derive_110 rfl ?_
    refine gx_K_book (pc := 111) d_K_derive_111 lf_K_35 ?_
    refine g_iload_n (pc := 114) d_K_derive_114 rfl ?_
    refine g_iload_n (pc := 115) d_K_derive_115 rfl ?_
    refine g_iload_n (pc := 116) d_K_derive_116 rfl ?_
    refine g_lload (pc := 117) d_K_derive_117 rfl ?_
    refine g_iload (pc := 119) d_K_derive_119 rfl ?_
    rw [he]
    refine g_callV (M' := m_B_add) (pc := 121) (q := 4) d_K_derive_121 lm_K_212 (c_B_add Th 8 x y _ c _ _ hI9.2.2.2 hf (by decide) (fun _ => ⟨rfl, by omega⟩) (fun _ => ⟨rfl, by omega⟩)) v_B_add rfl rfl rfl (by decide) rfl (Nat.le_of_ble_eq_true rfl) ?_
    rintro _ _ ⟨i8, r8, L8, rfl, rfl, hB8, hk8⟩
    show pG m_K_derive τ _ 0 0 124 _ (.int _ :: _) _
    refine g_iret (pc := 124) d_K_derive_124 rfl (Nat.le_refl _) (Nat.le_refl _) ?_
    exact ⟨i8, r8, L8, _, by rw [sFin, if_neg h86], rfl, by rw [sFin, if_neg h86, he, nI_clamp (by omega)]; exact hI9.bk hk8 hB8⟩
  · have hk4 := h86
    have hXS := hS9
    rw [sKeep_m4 hk4 b2] at hXS
    have hI9 := hI2.kp hk9 hXS
    refine g_aload_n (pc := 89) d_K_derive_89 rfl ?_
    refine gx_K_shelf (pc := 90) d_K_derive_90 lf_K_19 ?_
    refine g_iload (pc := 93) d_K_derive_93 rfl ?_
    refine g_callV (M' := m_S_cutTo) (pc := 95) (q := 2) d_K_derive_95 lm_K_211 (c_S_cutTo _) v_S_cutTo rfl rfl rfl (by decide) rfl (Nat.le_of_ble_eq_true rfl) ?_
    rintro _ _ ⟨rfl, rfl⟩
    show pG m_K_derive τ _ 0 0 98 _ _ _
    refine g_aload_n (pc := 98) d_K_derive_98 rfl ?_
    refine gx_K_types (pc := 99) d_K_derive_99 lf_K_10 ?_
    refine g_iload (pc := 102) d_K_derive_102 rfl ?_
    refine g_callV (M' := m_T_cutTo) (pc := 104) (q := 1) d_K_derive_104 lm_K_100 (c_T_cutTo _) v_T_cutTo rfl rfl rfl (by decide) rfl (Nat.le_of_ble_eq_true rfl) ?_
    rintro _ _ ⟨rfl, rfl⟩
    show pG m_K_derive τ _ 0 0 107 _ _ _
    refine g_bipush (pc := 107) (v := -4) d_K_derive_107 (by decide) ?_
    refine g_iret (pc := 109) d_K_derive_109 rfl (Nat.le_refl _) (Nat.le_refl _) ?_
    exact ⟨_, _, L, _, by rw [sFin, if_pos hk4], rfl, by rw [sFin, if_pos hk4]; exact hI9.scut hpre b1 (fun _ _ h => h) b2 b4 b5⟩
set_option maxRecDepth 100000 in
set_option maxHeartbeats 4000000 in
theorem c_K_derive_9 {τ : Nat × Nat} {a : Nat → Nat} {i : Nat → Int32} {r : Nat → Nat → Int32} {L : Nat → Int64} {wr : pW} {Ty : List (Nat × Nat)} {Tm : List (List Nat)} {Th : List Thm} {d : List Nat} (x ux vx zx hx cx : Nat) (A : List Nat) (tx : Th[x]? = some (ux, vx, zx, hx, cx)) (hA0 : Tm[cx]? = some A) (y uy vy zy hy cy : Nat) (B : List Nat) (ty : Th[y]? = some (uy, vy, zy, hy, cy)) (hB0 : Tm[cy]? = some B) (hI : XI Ty Tm Th d i r L) (ok : TmOk Ty Tm) (okT : ThOk Tm Th) (hf : Th.length ≠ 40) (hk : tgR A = 7) (hk2 : tgR B = 7) (ht : tks Ty (tyR (p1 A)) (tyR (p1 B)) = true) (hEq : tyR (p2 A) = tyR (p1 A)) : pC m_K_derive τ [.ref (a 0), .int (nI 9), .int (nI x), .int (nI y)] (wX a i r L ++ wr) ((fun rr w2 => ∃ i2 r2 L2 d2, rr = some (.int ((sFin Ty Tm Th 9 x y (hx ||| hy) Ty Tm (tok 7 0 0 :: (sAp Ty (p1 A) (p1 B) ++ sAp Ty (p2 A) (p2 B)))).1)) ∧ w2 = wX a i2 r2 L2 ++ wr ∧ XI ((sFin Ty Tm Th 9 x y (hx ||| hy) Ty Tm (tok 7 0 0 :: (sAp Ty (p1 A) (p1 B) ++ sAp Ty (p2 A) (p2 B)))).2.1) ((sFin Ty Tm Th 9 x y (hx ||| hy) Ty Tm (tok 7 0 0 :: (sAp Ty (p1 A) (p1 B) ++ sAp Ty (p2 A) (p2 B)))).2.2.1) ((sFin Ty Tm Th 9 x y (hx ||| hy) Ty Tm (tok 7 0 0 :: (sAp Ty (p1 A) (p1 B) ++ sAp Ty (p2 A) (p2 B)))).2.2.2) d2 i2 r2 L2)) := by
  refine pC.of rfl (Nat.le_of_ble_eq_true rfl) ?_
  show pG m_K_derive τ _ 0 0 0 [(0, _), (1, _), (2, _), (3, _)] [] _
  obtain ⟨b1, b2, b3, b4, b5, b6⟩ := hI.b
  have hA := hI.2.1.pa ok hA0
  obtain ⟨hx4, hxT, hx6, hxh⟩ := hI.th tx
  obtain ⟨-, hxb⟩ := okT.b b2 tx
  have hB := hI.2.1.pa ok hB0
  obtain ⟨hy4, hyT, hy6, hyh⟩ := hI.th ty
  obtain ⟨-, hyb⟩ := okT.b b2 ty
  obtain ⟨X, Y, hAe, hX, hY, hpA1, hpA2⟩ := hA.two (kPt_2 (show 5 ≤ tgR _ by rw [hk]; decide))
  obtain ⟨Z, U, hBe, hZ, hU, hpB1, hpB2⟩ := hB.two (kPt_2 (show 5 ≤ tgR _ by rw [hk2]; decide))
  have hres := res_at hI.1 ht
  rw [hpA1] at hres
  have hEq0 := hEq
  refine g_aload_n (pc := 0) d_K_derive_0 rfl ?_
  refine gx_K_shelf (pc := 1) d_K_derive_1 lf_K_19 ?_
  refine g_callV (M' := m_S_count) (pc := 4) (q := 2) d_K_derive_4 lm_K_131 (c_S_count) v_S_count rfl rfl rfl (by decide) rfl (Nat.le_of_ble_eq_true rfl) ?_
  rintro _ _ ⟨rfl, rfl⟩
  show pG m_K_derive τ _ 0 0 7 _ (.int _ :: _) _
  refine g_istore (pc := 7) [(4, _), (0, _), (1, _), (2, _), (3, _)] d_K_derive_7 (by decide) rfl ?_
  refine g_aload_n (pc := 9) d_K_derive_9 rfl ?_
  refine gx_K_types (pc := 10) d_K_derive_10 lf_K_10 ?_
  refine g_callV (M' := m_T_count) (pc := 13) (q := 1) d_K_derive_13 lm_K_86 (c_T_count) v_T_count rfl rfl rfl (by decide) rfl (Nat.le_of_ble_eq_true rfl) ?_
  rintro _ _ ⟨rfl, rfl⟩
  show pG m_K_derive τ _ 0 0 16 _ (.int _ :: _) _
  refine g_istore (pc := 16) [(5, _), (4, _), (0, _), (1, _), (2, _), (3, _)] d_K_derive_16 (by decide) rfl ?_
  refine g_iload_n (pc := 18) d_K_derive_18 rfl ?_
  refine g_bipush (pc := 19) (v := nI 13) d_K_derive_19 (by decide) ?_
  refine g_nicmp_ne (pc := 21) (tgt := 33) d_K_derive_21 (by decide) (by omega) (by omega) (fun h21 => ?_) (fun h => absurd h (by decide))
  refine g_aload_n (pc := 33) d_K_derive_33 rfl ?_
  refine g_iload_n (pc := 34) d_K_derive_34 rfl ?_
  refine g_iload_n (pc := 35) d_K_derive_35 rfl ?_
  refine g_iload_n (pc := 36) d_K_derive_36 rfl ?_
  refine g_callV (M' := m_K_joinedHypotheses) (pc := 37) (q := 0) d_K_derive_37 lm_K_202 (c_K_joined_9 x hx hx4 hxh hxb y hy hy4 hyh hyb) v_K_joinedHypotheses rfl rfl rfl (by decide) rfl (Nat.le_of_ble_eq_true rfl) ?_
  rintro _ _ ⟨rfl, rfl⟩
  show pG m_K_derive τ _ 0 0 40 _ (.long _ :: _) _
  refine g_lstore (pc := 40) [(6, _), (5, _), (4, _), (0, _), (1, _), (2, _), (3, _)] d_K_derive_40 (by decide) rfl ?_
  refine g_bipush (pc := 42) (v := -4) d_K_derive_42 (by decide) ?_
  refine g_istore (pc := 44) [(8, _), (6, _), (5, _), (4, _), (0, _), (1, _), (2, _), (3, _)] d_K_derive_44 (by decide) rfl ?_
  refine g_lload (pc := 46) d_K_derive_46 rfl ?_
  refine g_ldc2 (pc := 48) d_K_derive_48 lk_K_206 ?_
  refine g_lcmp (pc := 51) d_K_derive_51 ?_
  refine g_if_eq (pc := 52) (tgt := 82) d_K_derive_52 (by decide) (fun h => absurd h (lb_cmp4 (Nat.lt_trans (Nat.or_lt_two_pow hxb hyb) (by decide)))) (fun h52 => ?_)
  refine g_aload_n (pc := 55) d_K_derive_55 rfl ?_
  refine gx_K_draft (pc := 56) d_K_derive_56 lf_K_28 ?_
  refine g_callV (M' := m_D_clear) (pc := 59) (q := 3) d_K_derive_59 lm_K_47 (c_D_clear) v_D_clear rfl rfl rfl (by decide) rfl (Nat.le_of_ble_eq_true rfl) ?_
  rintro _ _ ⟨rfl, rfl⟩
  have hI1 := hI.cl
  show pG m_K_derive τ _ 0 0 62 _ _ _
  refine g_aload_n (pc := 62) d_K_derive_62 rfl ?_
  refine g_iload_n (pc := 63) d_K_derive_63 rfl ?_
  refine g_iload_n (pc := 64) d_K_derive_64 rfl ?_
  refine g_iload_n (pc := 65) d_K_derive_65 rfl ?_
  refine g_callV (M' := m_K_draftConclusion) (pc := 66) (q := 0) d_K_derive_66 lm_K_208 (c_K_conc_9 x cx hx4 hx6 y cy hy4 hy6 A hA B hB hI1.2.2.1 Ty hI1.1 hk hk2 ht hEq) v_K_draftConclusion rfl rfl rfl (by decide) rfl (Nat.le_of_ble_eq_true rfl) ?_
  rintro _ _ ⟨i3, r3, rfl, rfl, hx3, hk3⟩
  have hI2 := hI1.dw hk3 hx3
  have hpre : ∀ (z : Nat) (p : Nat × Nat), Ty[z]? = some p → Ty[z]? = some p := fun _ _ h => h
  have h4k : ∀ x, x ∈ (tok 7 0 0 :: (sAp Ty (p1 A) (p1 B) ++ sAp Ty (p2 A) (p2 B))) → x < 4096 := (by rw [hpA1, hpA2, hpB1, hpB2]; exact tok_b (by decide) (by decide) (by decide) (app_b (tok_b (by decide) (by decide) hres.2.1 (app_b hX.lt hZ.lt)) (tok_b (by decide) (by decide) (by rw [← hpA2, hEq, hpA1]; exact hres.2.1) (app_b hY.lt hU.lt))))
  have hlk : (tok 7 0 0 :: (sAp Ty (p1 A) (p1 B) ++ sAp Ty (p2 A) (p2 B))).length < 100000 := (by rw [hpA1, hpA2, hpB1, hpB2]; have := hX.2.2.2; have := hY.2.2.2; have := hZ.2.2.2; have := hU.2.2.2; simp [sAp]; omega)
  show pG m_K_derive τ _ 0 0 69 _ _ _
  refine g_aload_n (pc := 69) d_K_derive_69 rfl ?_
  refine gx_K_shelf (pc := 70) d_K_derive_70 lf_K_19 ?_
  refine g_aload_n (pc := 73) d_K_derive_73 rfl ?_
  refine gx_K_draft (pc := 74) d_K_derive_74 lf_K_28 ?_
  refine g_callV (M' := m_S_keep) (pc := 77) (q := 2) d_K_derive_77 lm_K_60 (c_S_keep Tm _ hI2.2.1 hI2.2.2.1 h4k hlk) v_S_keep rfl rfl rfl (by decide) rfl (Nat.le_of_ble_eq_true rfl) ?_
  rintro _ _ ⟨i9, r9, rfl, rfl, hS9, hk9⟩
  show pG m_K_derive τ _ 0 0 80 _ (.int _ :: _) _
  refine g_istore (pc := 80) [(8, _), (6, _), (5, _), (4, _), (0, _), (1, _), (2, _), (3, _)] d_K_derive_80 (by decide) rfl ?_
  refine g_iload (pc := 82) d_K_derive_82 rfl ?_
  refine g_bipush (pc := 84) (v := -4) d_K_derive_84 (by decide) ?_
  refine g_icmp_ne (pc := 86) (tgt := 110) d_K_derive_86 (by decide) (fun h86 => ?_) (fun h86 => ?_)
  · have hI9 := hI2.kp hk9 hS9
    obtain ⟨c, hc1, hc2, he, -⟩ := sKeep_nI h86 b2
    refine g_aload_n (pc := 110) d_K_derive_110 rfl ?_
    refine gx_K_book (pc := 111) d_K_derive_111 lf_K_35 ?_
    refine g_iload_n (pc := 114) d_K_derive_114 rfl ?_
    refine g_iload_n (pc := 115) d_K_derive_115 rfl ?_
    refine g_iload_n (pc := 116) d_K_derive_116 rfl ?_
    refine g_lload (pc := 117) d_K_derive_117 rfl ?_
    refine g_iload (pc := 119) d_K_derive_119 rfl ?_
    rw [he]
    refine g_callV (M' := m_B_add) (pc := 121) (q := 4) d_K_derive_121 lm_K_212 (c_B_add Th 9 x y _ c _ _ hI9.2.2.2 hf (by decide) (fun _ => ⟨rfl, by omega⟩) (fun _ => ⟨rfl, by omega⟩)) v_B_add rfl rfl rfl (by decide) rfl (Nat.le_of_ble_eq_true rfl) ?_
    rintro _ _ ⟨i8, r8, L8, rfl, rfl, hB8, hk8⟩
    show pG m_K_derive τ _ 0 0 124 _ (.int _ :: _) _
    refine g_iret (pc := 124) d_K_derive_124 rfl (Nat.le_refl _) (Nat.le_refl _) ?_
    exact ⟨i8, r8, L8, _, by rw [sFin, if_neg h86], rfl, by rw [sFin, if_neg h86, he, nI_clamp (by omega)]; exact hI9.bk hk8 hB8⟩
  · have hk4 := h86
    have hXS := hS9
    rw [sKeep_m4 hk4 b2] at hXS
    have hI9 := hI2.kp hk9 hXS
    refine g_aload_n (pc := 89) d_K_derive_89 rfl ?_
    refine gx_K_shelf (pc := 90) d_K_derive_90 lf_K_19 ?_
    refine g_iload (pc := 93) d_K_derive_93 rfl ?_
    refine g_callV (M' := m_S_cutTo) (pc := 95) (q := 2) d_K_derive_95 lm_K_211 (c_S_cutTo _) v_S_cutTo rfl rfl rfl (by decide) rfl (Nat.le_of_ble_eq_true rfl) ?_
    rintro _ _ ⟨rfl, rfl⟩
    show pG m_K_derive τ _ 0 0 98 _ _ _
    refine g_aload_n (pc := 98) d_K_derive_98 rfl ?_
    refine gx_K_types (pc := 99) d_K_derive_99 lf_K_10 ?_
    refine g_iload (pc := 102) d_K_derive_102 rfl ?_
    refine g_callV (M' := m_T_cutTo) (pc := 104) (q := 1) d_K_derive_104 lm_K_100 (c_T_cutTo _) v_T_cutTo rfl rfl rfl (by decide) rfl (Nat.le_of_ble_eq_true rfl) ?_
    rintro _ _ ⟨rfl, rfl⟩
    show pG m_K_derive τ _ 0 0 107 _ _ _
    refine g_bipush (pc := 107) (v := -4) d_K_derive_107 (by decide) ?_
    refine g_iret (pc := 109) d_K_derive_109 rfl (Nat.le_refl _) (Nat.le_refl _) ?_
    exact ⟨_, _, L, _, by rw [sFin, if_pos hk4], rfl, by rw [sFin, if_pos hk4]; exact hI9.scut hpre b1 (fun _ _ h => h) b2 b4 b5⟩
set_option maxRecDepth 100000 in
set_option maxHeartbeats 4000000 in
theorem c_K_derive_10 {τ : Nat × Nat} {a : Nat → Nat} {i : Nat → Int32} {r : Nat → Nat → Int32} {L : Nat → Int64} {wr : pW} {Ty : List (Nat × Nat)} {Tm : List (List Nat)} {Th : List Thm} {d : List Nat} (x ux vx zx hx cx : Nat) (A : List Nat) (tx : Th[x]? = some (ux, vx, zx, hx, cx)) (hA0 : Tm[cx]? = some A) (y : Nat) (B : List Nat) (hB0 : Tm[y]? = some B) (hI : XI Ty Tm Th d i r L) (ok : TmOk Ty Tm) (okT : ThOk Tm Th) (hf : Th.length ≠ 40) (hk : tgR A = 7) : pC m_K_derive τ [.ref (a 0), .int (nI 10), .int (nI x), .int (nI y)] (wX a i r L ++ wr) ((fun rr w2 => ∃ i2 r2 L2 d2, rr = some (.int ((sFin Ty Tm Th 10 x y (hx) (sAb2 Ty (hdt B) A).1 Tm ((sAb2 Ty (hdt B) A).2)).1)) ∧ w2 = wX a i2 r2 L2 ++ wr ∧ XI ((sFin Ty Tm Th 10 x y (hx) (sAb2 Ty (hdt B) A).1 Tm ((sAb2 Ty (hdt B) A).2)).2.1) ((sFin Ty Tm Th 10 x y (hx) (sAb2 Ty (hdt B) A).1 Tm ((sAb2 Ty (hdt B) A).2)).2.2.1) ((sFin Ty Tm Th 10 x y (hx) (sAb2 Ty (hdt B) A).1 Tm ((sAb2 Ty (hdt B) A).2)).2.2.2) d2 i2 r2 L2)) := by
  refine pC.of rfl (Nat.le_of_ble_eq_true rfl) ?_
  show pG m_K_derive τ _ 0 0 0 [(0, _), (1, _), (2, _), (3, _)] [] _
  obtain ⟨b1, b2, b3, b4, b5, b6⟩ := hI.b
  have hA := hI.2.1.pa ok hA0
  obtain ⟨hx4, hxT, hx6, hxh⟩ := hI.th tx
  obtain ⟨-, hxb⟩ := okT.b b2 tx
  have hB := hI.2.1.pa ok hB0
  have hyl := (List.getElem?_eq_some_iff.mp hB0).1
  obtain ⟨X, Y, hAe, hX, hY, hpA1, hpA2⟩ := hA.two (kPt_2 (show 5 ≤ tgR _ by rw [hk]; decide))
  refine g_aload_n (pc := 0) d_K_derive_0 rfl ?_
  refine gx_K_shelf (pc := 1) d_K_derive_1 lf_K_19 ?_
  refine g_callV (M' := m_S_count) (pc := 4) (q := 2) d_K_derive_4 lm_K_131 (c_S_count) v_S_count rfl rfl rfl (by decide) rfl (Nat.le_of_ble_eq_true rfl) ?_
  rintro _ _ ⟨rfl, rfl⟩
  show pG m_K_derive τ _ 0 0 7 _ (.int _ :: _) _
  refine g_istore (pc := 7) [(4, _), (0, _), (1, _), (2, _), (3, _)] d_K_derive_7 (by decide) rfl ?_
  refine g_aload_n (pc := 9) d_K_derive_9 rfl ?_
  refine gx_K_types (pc := 10) d_K_derive_10 lf_K_10 ?_
  refine g_callV (M' := m_T_count) (pc := 13) (q := 1) d_K_derive_13 lm_K_86 (c_T_count) v_T_count rfl rfl rfl (by decide) rfl (Nat.le_of_ble_eq_true rfl) ?_
  rintro _ _ ⟨rfl, rfl⟩
  show pG m_K_derive τ _ 0 0 16 _ (.int _ :: _) _
  refine g_istore (pc := 16) [(5, _), (4, _), (0, _), (1, _), (2, _), (3, _)] d_K_derive_16 (by decide) rfl ?_
  refine g_iload_n (pc := 18) d_K_derive_18 rfl ?_
  refine g_bipush (pc := 19) (v := nI 13) d_K_derive_19 (by decide) ?_
  refine g_nicmp_ne (pc := 21) (tgt := 33) d_K_derive_21 (by decide) (by omega) (by omega) (fun h21 => ?_) (fun h => absurd h (by decide))
  refine g_aload_n (pc := 33) d_K_derive_33 rfl ?_
  refine g_iload_n (pc := 34) d_K_derive_34 rfl ?_
  refine g_iload_n (pc := 35) d_K_derive_35 rfl ?_
  refine g_iload_n (pc := 36) d_K_derive_36 rfl ?_
  refine g_callV (M' := m_K_joinedHypotheses) (pc := 37) (q := 0) d_K_derive_37 lm_K_202 (c_K_joined_10 x hx hx4 hxh hxb (nI y)) v_K_joinedHypotheses rfl rfl rfl (by decide) rfl (Nat.le_of_ble_eq_true rfl) ?_
  rintro _ _ ⟨rfl, rfl⟩
  show pG m_K_derive τ _ 0 0 40 _ (.long _ :: _) _
  refine g_lstore (pc := 40) [(6, _), (5, _), (4, _), (0, _), (1, _), (2, _), (3, _)] d_K_derive_40 (by decide) rfl ?_
  refine g_bipush (pc := 42) (v := -4) d_K_derive_42 (by decide) ?_
  refine g_istore (pc := 44) [(8, _), (6, _), (5, _), (4, _), (0, _), (1, _), (2, _), (3, _)] d_K_derive_44 (by decide) rfl ?_
  refine g_lload (pc := 46) d_K_derive_46 rfl ?_
  refine g_ldc2 (pc := 48) d_K_derive_48 lk_K_206 ?_
  refine g_lcmp (pc := 51) d_K_derive_51 ?_
  refine g_if_eq (pc := 52) (tgt := 82) d_K_derive_52 (by decide) (fun h => absurd h (lb_cmp4 (by omega))) (fun h52 => ?_)
  refine g_aload_n (pc := 55) d_K_derive_55 rfl ?_
  refine gx_K_draft (pc := 56) d_K_derive_56 lf_K_28 ?_
  refine g_callV (M' := m_D_clear) (pc := 59) (q := 3) d_K_derive_59 lm_K_47 (c_D_clear) v_D_clear rfl rfl rfl (by decide) rfl (Nat.le_of_ble_eq_true rfl) ?_
  rintro _ _ ⟨rfl, rfl⟩
  have hI1 := hI.cl
  show pG m_K_derive τ _ 0 0 62 _ _ _
  refine g_aload_n (pc := 62) d_K_derive_62 rfl ?_
  refine g_iload_n (pc := 63) d_K_derive_63 rfl ?_
  refine g_iload_n (pc := 64) d_K_derive_64 rfl ?_
  refine g_iload_n (pc := 65) d_K_derive_65 rfl ?_
  refine g_callV (M' := m_K_draftConclusion) (pc := 66) (q := 0) d_K_derive_66 lm_K_208 (c_K_conc_10 x cx hx4 hx6 y A hA B hB hI1.2.2.1 Ty hI1.1 hk) v_K_draftConclusion rfl rfl rfl (by decide) rfl (Nat.le_of_ble_eq_true rfl) ?_
  rintro _ _ ⟨i3, r3, rfl, rfl, hT3, hx3, hk3⟩
  have hI2 := hI1.tw hk3 hT3 hx3
  have hpre := sAb2_ext (v := hdt B) (A := A) b1
  have t7 : ∀ x, x ∈ [tok 7 0 0] → x < 4096 := fun x hx => by rw [List.mem_singleton.mp hx]; decide
  have h4k : ∀ x, x ∈ (sAb2 Ty (hdt B) A).2 → x < 4096 := by
    unfold sAb2
    rw [hpA1, hpA2]
    exact sAb_lt (sAb_tl b1) (sAb_lt b1 t7 hX.lt hX.2.2.2) hY.lt hY.2.2.2
  have hlk : (sAb2 Ty (hdt B) A).2.length < 100000 := by
    unfold sAb2
    rw [hpA1, hpA2]
    have q1 := sAb_len (Ty := Ty) (d := [tok 7 0 0]) (v := hdt B) hX.2.2.2
    have q2 := sAb_len (Ty := (sAb Ty [tok 7 0 0] (hdt B) X).1) (d := (sAb Ty [tok 7 0 0] (hdt B) X).2) (v := hdt B) hY.2.2.2
    rw [show ([tok 7 0 0] : List Nat).length = 1 from rfl] at q1
    omega
  show pG m_K_derive τ _ 0 0 69 _ _ _
  refine g_aload_n (pc := 69) d_K_derive_69 rfl ?_
  refine gx_K_shelf (pc := 70) d_K_derive_70 lf_K_19 ?_
  refine g_aload_n (pc := 73) d_K_derive_73 rfl ?_
  refine gx_K_draft (pc := 74) d_K_derive_74 lf_K_28 ?_
  refine g_callV (M' := m_S_keep) (pc := 77) (q := 2) d_K_derive_77 lm_K_60 (c_S_keep Tm _ hI2.2.1 hI2.2.2.1 h4k hlk) v_S_keep rfl rfl rfl (by decide) rfl (Nat.le_of_ble_eq_true rfl) ?_
  rintro _ _ ⟨i9, r9, rfl, rfl, hS9, hk9⟩
  show pG m_K_derive τ _ 0 0 80 _ (.int _ :: _) _
  refine g_istore (pc := 80) [(8, _), (6, _), (5, _), (4, _), (0, _), (1, _), (2, _), (3, _)] d_K_derive_80 (by decide) rfl ?_
  refine g_iload (pc := 82) d_K_derive_82 rfl ?_
  refine g_bipush (pc := 84) (v := -4) d_K_derive_84 (by decide) ?_
  refine g_icmp_ne (pc := 86) (tgt := 110) d_K_derive_86 (by decide) (fun h86 => ?_) (fun h86 => ?_)
  · have hI9 := hI2.kp hk9 hS9
    obtain ⟨c, hc1, hc2, he, -⟩ := sKeep_nI h86 b2
    refine g_aload_n (pc := 110) d_K_derive_110 rfl ?_
    refine gx_K_book (pc := 111) d_K_derive_111 lf_K_35 ?_
    refine g_iload_n (pc := 114) d_K_derive_114 rfl ?_
    refine g_iload_n (pc := 115) d_K_derive_115 rfl ?_
    refine g_iload_n (pc := 116) d_K_derive_116 rfl ?_
    refine g_lload (pc := 117) d_K_derive_117 rfl ?_
    refine g_iload (pc := 119) d_K_derive_119 rfl ?_
    rw [he]
    refine g_callV (M' := m_B_add) (pc := 121) (q := 4) d_K_derive_121 lm_K_212 (c_B_add Th 10 x y _ c _ _ hI9.2.2.2 hf (by decide) (fun _ => ⟨rfl, by omega⟩) (fun e => absurd e (by decide))) v_B_add rfl rfl rfl (by decide) rfl (Nat.le_of_ble_eq_true rfl) ?_
    rintro _ _ ⟨i8, r8, L8, rfl, rfl, hB8, hk8⟩
    show pG m_K_derive τ _ 0 0 124 _ (.int _ :: _) _
    refine g_iret (pc := 124) d_K_derive_124 rfl (Nat.le_refl _) (Nat.le_refl _) ?_
    exact ⟨i8, r8, L8, _, by rw [sFin, if_neg h86], rfl, by rw [sFin, if_neg h86, he, nI_clamp (by omega)]; exact hI9.bk hk8 hB8⟩
  · have hk4 := h86
    have hXS := hS9
    rw [sKeep_m4 hk4 b2] at hXS
    have hI9 := hI2.kp hk9 hXS
    refine g_aload_n (pc := 89) d_K_derive_89 rfl ?_
    refine gx_K_shelf (pc := 90) d_K_derive_90 lf_K_19 ?_
    refine g_iload (pc := 93) d_K_derive_93 rfl ?_
    refine g_callV (M' := m_S_cutTo) (pc := 95) (q := 2) d_K_derive_95 lm_K_211 (c_S_cutTo _) v_S_cutTo rfl rfl rfl (by decide) rfl (Nat.le_of_ble_eq_true rfl) ?_
    rintro _ _ ⟨rfl, rfl⟩
    show pG m_K_derive τ _ 0 0 98 _ _ _
    refine g_aload_n (pc := 98) d_K_derive_98 rfl ?_
    refine gx_K_types (pc := 99) d_K_derive_99 lf_K_10 ?_
    refine g_iload (pc := 102) d_K_derive_102 rfl ?_
    refine g_callV (M' := m_T_cutTo) (pc := 104) (q := 1) d_K_derive_104 lm_K_100 (c_T_cutTo _) v_T_cutTo rfl rfl rfl (by decide) rfl (Nat.le_of_ble_eq_true rfl) ?_
    rintro _ _ ⟨rfl, rfl⟩
    show pG m_K_derive τ _ 0 0 107 _ _ _
    refine g_bipush (pc := 107) (v := -4) d_K_derive_107 (by decide) ?_
    refine g_iret (pc := 109) d_K_derive_109 rfl (Nat.le_refl _) (Nat.le_refl _) ?_
    exact ⟨_, _, L, _, by rw [sFin, if_pos hk4], rfl, by rw [sFin, if_pos hk4]; exact hI9.scut hpre b1 (fun _ _ h => h) b2 b4 b5⟩
set_option maxRecDepth 100000 in
set_option maxHeartbeats 4000000 in
theorem c_K_derive_11 {τ : Nat × Nat} {a : Nat → Nat} {i : Nat → Int32} {r : Nat → Nat → Int32} {L : Nat → Int64} {wr : pW} {Ty : List (Nat × Nat)} {Tm : List (List Nat)} {Th : List Thm} {d : List Nat} (x : Nat) (A : List Nat) (hA0 : Tm[x]? = some A) (y : Int32) (hI : XI Ty Tm Th d i r L) (ok : TmOk Ty Tm) (okT : ThOk Tm Th) (hf : Th.length ≠ 40) (hk : tgR A = 5) (hk2 : tgR (p1 A) = 3) : pC m_K_derive τ [.ref (a 0), .int (nI 11), .int (nI x), .int y] (wX a i r L ++ wr) ((fun rr w2 => ∃ i2 r2 L2 d2, rr = some (.int ((sFin Ty Tm Th 11 x y.toNatClampNeg (0) Ty Tm (tok 7 0 0 :: (A ++ fil (p2 A) [0] (p1 (p1 A))))).1)) ∧ w2 = wX a i2 r2 L2 ++ wr ∧ XI ((sFin Ty Tm Th 11 x y.toNatClampNeg (0) Ty Tm (tok 7 0 0 :: (A ++ fil (p2 A) [0] (p1 (p1 A))))).2.1) ((sFin Ty Tm Th 11 x y.toNatClampNeg (0) Ty Tm (tok 7 0 0 :: (A ++ fil (p2 A) [0] (p1 (p1 A))))).2.2.1) ((sFin Ty Tm Th 11 x y.toNatClampNeg (0) Ty Tm (tok 7 0 0 :: (A ++ fil (p2 A) [0] (p1 (p1 A))))).2.2.2) d2 i2 r2 L2)) := by
  refine pC.of rfl (Nat.le_of_ble_eq_true rfl) ?_
  show pG m_K_derive τ _ 0 0 0 [(0, _), (1, _), (2, _), (3, _)] [] _
  obtain ⟨b1, b2, b3, b4, b5, b6⟩ := hI.b
  have hA := hI.2.1.pa ok hA0
  have hxl := (List.getElem?_eq_some_iff.mp hA0).1
  obtain ⟨X, Y, hAe, hX, hY, hpA1, hpA2⟩ := hA.two (kPt_2 (show 5 ≤ tgR _ by rw [hk]; decide))
  have hk3 := hk2
  rw [hpA1] at hk3
  obtain ⟨Z, hXe, hZ, hpX1⟩ := hX.one (kPt_1 (Or.inl hk3))
  refine g_aload_n (pc := 0) d_K_derive_0 rfl ?_
  refine gx_K_shelf (pc := 1) d_K_derive_1 lf_K_19 ?_
  refine g_callV (M' := m_S_count) (pc := 4) (q := 2) d_K_derive_4 lm_K_131 (c_S_count) v_S_count rfl rfl rfl (by decide) rfl (Nat.le_of_ble_eq_true rfl) ?_
  rintro _ _ ⟨rfl, rfl⟩
  show pG m_K_derive τ _ 0 0 7 _ (.int _ :: _) _
  refine g_istore (pc := 7) [(4, _), (0, _), (1, _), (2, _), (3, _)] d_K_derive_7 (by decide) rfl ?_
  refine g_aload_n (pc := 9) d_K_derive_9 rfl ?_
  refine gx_K_types (pc := 10) d_K_derive_10 lf_K_10 ?_
  refine g_callV (M' := m_T_count) (pc := 13) (q := 1) d_K_derive_13 lm_K_86 (c_T_count) v_T_count rfl rfl rfl (by decide) rfl (Nat.le_of_ble_eq_true rfl) ?_
  rintro _ _ ⟨rfl, rfl⟩
  show pG m_K_derive τ _ 0 0 16 _ (.int _ :: _) _
  refine g_istore (pc := 16) [(5, _), (4, _), (0, _), (1, _), (2, _), (3, _)] d_K_derive_16 (by decide) rfl ?_
  refine g_iload_n (pc := 18) d_K_derive_18 rfl ?_
  refine g_bipush (pc := 19) (v := nI 13) d_K_derive_19 (by decide) ?_
  refine g_nicmp_ne (pc := 21) (tgt := 33) d_K_derive_21 (by decide) (by omega) (by omega) (fun h21 => ?_) (fun h => absurd h (by decide))
  refine g_aload_n (pc := 33) d_K_derive_33 rfl ?_
  refine g_iload_n (pc := 34) d_K_derive_34 rfl ?_
  refine g_iload_n (pc := 35) d_K_derive_35 rfl ?_
  refine g_iload_n (pc := 36) d_K_derive_36 rfl ?_
  refine g_callV (M' := m_K_joinedHypotheses) (pc := 37) (q := 0) d_K_derive_37 lm_K_202 (c_K_joined_11 x y) v_K_joinedHypotheses rfl rfl rfl (by decide) rfl (Nat.le_of_ble_eq_true rfl) ?_
  rintro _ _ ⟨rfl, rfl⟩
  show pG m_K_derive τ _ 0 0 40 _ (.long _ :: _) _
  refine g_lstore (pc := 40) [(6, _), (5, _), (4, _), (0, _), (1, _), (2, _), (3, _)] d_K_derive_40 (by decide) rfl ?_
  refine g_bipush (pc := 42) (v := -4) d_K_derive_42 (by decide) ?_
  refine g_istore (pc := 44) [(8, _), (6, _), (5, _), (4, _), (0, _), (1, _), (2, _), (3, _)] d_K_derive_44 (by decide) rfl ?_
  refine g_lload (pc := 46) d_K_derive_46 rfl ?_
  refine g_ldc2 (pc := 48) d_K_derive_48 lk_K_206 ?_
  refine g_lcmp (pc := 51) d_K_derive_51 ?_
  refine g_if_eq (pc := 52) (tgt := 82) d_K_derive_52 (by decide) (fun h => absurd h (lb_cmp4 (by decide))) (fun h52 => ?_)
  refine g_aload_n (pc := 55) d_K_derive_55 rfl ?_
  refine gx_K_draft (pc := 56) d_K_derive_56 lf_K_28 ?_
  refine g_callV (M' := m_D_clear) (pc := 59) (q := 3) d_K_derive_59 lm_K_47 (c_D_clear) v_D_clear rfl rfl rfl (by decide) rfl (Nat.le_of_ble_eq_true rfl) ?_
  rintro _ _ ⟨rfl, rfl⟩
  have hI1 := hI.cl
  show pG m_K_derive τ _ 0 0 62 _ _ _
  refine g_aload_n (pc := 62) d_K_derive_62 rfl ?_
  refine g_iload_n (pc := 63) d_K_derive_63 rfl ?_
  refine g_iload_n (pc := 64) d_K_derive_64 rfl ?_
  refine g_iload_n (pc := 65) d_K_derive_65 rfl ?_
  refine g_callV (M' := m_K_draftConclusion) (pc := 66) (q := 0) d_K_derive_66 lm_K_208 (c_K_conc_11 x y A hA hI1.2.2.1 hk hk2) v_K_draftConclusion rfl rfl rfl (by decide) rfl (Nat.le_of_ble_eq_true rfl) ?_
  rintro _ _ ⟨i3, r3, rfl, rfl, hx3, hk3⟩
  have hI2 := hI1.dw hk3 hx3
  have hpre : ∀ (z : Nat) (p : Nat × Nat), Ty[z]? = some p → Ty[z]? = some p := fun _ _ h => h
  have h4k : ∀ x, x ∈ (tok 7 0 0 :: (A ++ fil (p2 A) [0] (p1 (p1 A)))) → x < 4096 := (by rw [hpA2, hpA1, hpX1]; exact tok_b (by decide) (by decide) (by decide) (app_b hA.lt (fil_lt hY.lt hZ.lt)))
  have hlk : (tok 7 0 0 :: (A ++ fil (p2 A) [0] (p1 (p1 A)))).length < 100000 := (by rw [hpA2, hpA1, hpX1]; have := @fil_len Y hY.2.2.2 Z [0]; have := hA.2.2.2; have := hZ.2.2.2; simp; omega)
  show pG m_K_derive τ _ 0 0 69 _ _ _
  refine g_aload_n (pc := 69) d_K_derive_69 rfl ?_
  refine gx_K_shelf (pc := 70) d_K_derive_70 lf_K_19 ?_
  refine g_aload_n (pc := 73) d_K_derive_73 rfl ?_
  refine gx_K_draft (pc := 74) d_K_derive_74 lf_K_28 ?_
  refine g_callV (M' := m_S_keep) (pc := 77) (q := 2) d_K_derive_77 lm_K_60 (c_S_keep Tm _ hI2.2.1 hI2.2.2.1 h4k hlk) v_S_keep rfl rfl rfl (by decide) rfl (Nat.le_of_ble_eq_true rfl) ?_
  rintro _ _ ⟨i9, r9, rfl, rfl, hS9, hk9⟩
  show pG m_K_derive τ _ 0 0 80 _ (.int _ :: _) _
  refine g_istore (pc := 80) [(8, _), (6, _), (5, _), (4, _), (0, _), (1, _), (2, _), (3, _)] d_K_derive_80 (by decide) rfl ?_
  refine g_iload (pc := 82) d_K_derive_82 rfl ?_
  refine g_bipush (pc := 84) (v := -4) d_K_derive_84 (by decide) ?_
  refine g_icmp_ne (pc := 86) (tgt := 110) d_K_derive_86 (by decide) (fun h86 => ?_) (fun h86 => ?_)
  · have hI9 := hI2.kp hk9 hS9
    obtain ⟨c, hc1, hc2, he, -⟩ := sKeep_nI h86 b2
    refine g_aload_n (pc := 110) d_K_derive_110 rfl ?_
    refine gx_K_book (pc := 111) d_K_derive_111 lf_K_35 ?_
    refine g_iload_n (pc := 114) d_K_derive_114 rfl ?_
    refine g_iload_n (pc := 115) d_K_derive_115 rfl ?_
    refine g_iload_n (pc := 116) d_K_derive_116 rfl ?_
    refine g_lload (pc := 117) d_K_derive_117 rfl ?_
    refine g_iload (pc := 119) d_K_derive_119 rfl ?_
    rw [he]
    refine g_callV (M' := m_B_add) (pc := 121) (q := 4) d_K_derive_121 lm_K_212 (c_B_add Th 11 x y.toNatClampNeg _ c _ _ hI9.2.2.2 hf (by decide) (fun e => absurd e (by decide)) (fun e => absurd e (by decide))) v_B_add rfl rfl rfl (by decide) rfl (Nat.le_of_ble_eq_true rfl) ?_
    rintro _ _ ⟨i8, r8, L8, rfl, rfl, hB8, hk8⟩
    show pG m_K_derive τ _ 0 0 124 _ (.int _ :: _) _
    refine g_iret (pc := 124) d_K_derive_124 rfl (Nat.le_refl _) (Nat.le_refl _) ?_
    exact ⟨i8, r8, L8, _, by rw [sFin, if_neg h86], rfl, by rw [sFin, if_neg h86, he, nI_clamp (by omega)]; exact hI9.bk hk8 hB8⟩
  · have hk4 := h86
    have hXS := hS9
    rw [sKeep_m4 hk4 b2] at hXS
    have hI9 := hI2.kp hk9 hXS
    refine g_aload_n (pc := 89) d_K_derive_89 rfl ?_
    refine gx_K_shelf (pc := 90) d_K_derive_90 lf_K_19 ?_
    refine g_iload (pc := 93) d_K_derive_93 rfl ?_
    refine g_callV (M' := m_S_cutTo) (pc := 95) (q := 2) d_K_derive_95 lm_K_211 (c_S_cutTo _) v_S_cutTo rfl rfl rfl (by decide) rfl (Nat.le_of_ble_eq_true rfl) ?_
    rintro _ _ ⟨rfl, rfl⟩
    show pG m_K_derive τ _ 0 0 98 _ _ _
    refine g_aload_n (pc := 98) d_K_derive_98 rfl ?_
    refine gx_K_types (pc := 99) d_K_derive_99 lf_K_10 ?_
    refine g_iload (pc := 102) d_K_derive_102 rfl ?_
    refine g_callV (M' := m_T_cutTo) (pc := 104) (q := 1) d_K_derive_104 lm_K_100 (c_T_cutTo _) v_T_cutTo rfl rfl rfl (by decide) rfl (Nat.le_of_ble_eq_true rfl) ?_
    rintro _ _ ⟨rfl, rfl⟩
    show pG m_K_derive τ _ 0 0 107 _ _ _
    refine g_bipush (pc := 107) (v := -4) d_K_derive_107 (by decide) ?_
    refine g_iret (pc := 109) d_K_derive_109 rfl (Nat.le_refl _) (Nat.le_refl _) ?_
    exact ⟨_, _, L, _, by rw [sFin, if_pos hk4], rfl, by rw [sFin, if_pos hk4]; exact hI9.scut hpre b1 (fun _ _ h => h) b2 b4 b5⟩
set_option maxRecDepth 100000 in
set_option maxHeartbeats 4000000 in
theorem c_K_derive_12 {τ : Nat × Nat} {a : Nat → Nat} {i : Nat → Int32} {r : Nat → Nat → Int32} {L : Nat → Int64} {wr : pW} {Ty : List (Nat × Nat)} {Tm : List (List Nat)} {Th : List Thm} {d : List Nat} (x ux vx zx hx cx : Nat) (A : List Nat) (tx : Th[x]? = some (ux, vx, zx, hx, cx)) (hA0 : Tm[cx]? = some A) (y uy vy zy hy cy : Nat) (B : List Nat) (ty : Th[y]? = some (uy, vy, zy, hy, cy)) (hB0 : Tm[cy]? = some B) (hI : XI Ty Tm Th d i r L) (ok : TmOk Ty Tm) (okT : ThOk Tm Th) (hf : Th.length ≠ 40) (hk : tgR A = 7) : pC m_K_derive τ [.ref (a 0), .int (nI 12), .int (nI x), .int (nI y)] (wX a i r L ++ wr) ((fun rr w2 => ∃ i2 r2 L2 d2, rr = some (.int ((sFin Ty Tm Th 12 x y (hx ||| hy) Ty Tm (p2 A)).1)) ∧ w2 = wX a i2 r2 L2 ++ wr ∧ XI ((sFin Ty Tm Th 12 x y (hx ||| hy) Ty Tm (p2 A)).2.1) ((sFin Ty Tm Th 12 x y (hx ||| hy) Ty Tm (p2 A)).2.2.1) ((sFin Ty Tm Th 12 x y (hx ||| hy) Ty Tm (p2 A)).2.2.2) d2 i2 r2 L2)) := by
  refine pC.of rfl (Nat.le_of_ble_eq_true rfl) ?_
  show pG m_K_derive τ _ 0 0 0 [(0, _), (1, _), (2, _), (3, _)] [] _
  obtain ⟨b1, b2, b3, b4, b5, b6⟩ := hI.b
  have hA := hI.2.1.pa ok hA0
  obtain ⟨hx4, hxT, hx6, hxh⟩ := hI.th tx
  obtain ⟨-, hxb⟩ := okT.b b2 tx
  have hB := hI.2.1.pa ok hB0
  obtain ⟨hy4, hyT, hy6, hyh⟩ := hI.th ty
  obtain ⟨-, hyb⟩ := okT.b b2 ty
  obtain ⟨X, Y, hAe, hX, hY, hpA1, hpA2⟩ := hA.two (kPt_2 (show 5 ≤ tgR _ by rw [hk]; decide))
  refine g_aload_n (pc := 0) d_K_derive_0 rfl ?_
  refine gx_K_shelf (pc := 1) d_K_derive_1 lf_K_19 ?_
  refine g_callV (M' := m_S_count) (pc := 4) (q := 2) d_K_derive_4 lm_K_131 (c_S_count) v_S_count rfl rfl rfl (by decide) rfl (Nat.le_of_ble_eq_true rfl) ?_
  rintro _ _ ⟨rfl, rfl⟩
  show pG m_K_derive τ _ 0 0 7 _ (.int _ :: _) _
  refine g_istore (pc := 7) [(4, _), (0, _), (1, _), (2, _), (3, _)] d_K_derive_7 (by decide) rfl ?_
  refine g_aload_n (pc := 9) d_K_derive_9 rfl ?_
  refine gx_K_types (pc := 10) d_K_derive_10 lf_K_10 ?_
  refine g_callV (M' := m_T_count) (pc := 13) (q := 1) d_K_derive_13 lm_K_86 (c_T_count) v_T_count rfl rfl rfl (by decide) rfl (Nat.le_of_ble_eq_true rfl) ?_
  rintro _ _ ⟨rfl, rfl⟩
  show pG m_K_derive τ _ 0 0 16 _ (.int _ :: _) _
  refine g_istore (pc := 16) [(5, _), (4, _), (0, _), (1, _), (2, _), (3, _)] d_K_derive_16 (by decide) rfl ?_
  refine g_iload_n (pc := 18) d_K_derive_18 rfl ?_
  refine g_bipush (pc := 19) (v := nI 13) d_K_derive_19 (by decide) ?_
  refine g_nicmp_ne (pc := 21) (tgt := 33) d_K_derive_21 (by decide) (by omega) (by omega) (fun h21 => ?_) (fun h => absurd h (by decide))
  refine g_aload_n (pc := 33) d_K_derive_33 rfl ?_
  refine g_iload_n (pc := 34) d_K_derive_34 rfl ?_
  refine g_iload_n (pc := 35) d_K_derive_35 rfl ?_
  refine g_iload_n (pc := 36) d_K_derive_36 rfl ?_
  refine g_callV (M' := m_K_joinedHypotheses) (pc := 37) (q := 0) d_K_derive_37 lm_K_202 (c_K_joined_12 x hx hx4 hxh hxb y hy hy4 hyh hyb) v_K_joinedHypotheses rfl rfl rfl (by decide) rfl (Nat.le_of_ble_eq_true rfl) ?_
  rintro _ _ ⟨rfl, rfl⟩
  show pG m_K_derive τ _ 0 0 40 _ (.long _ :: _) _
  refine g_lstore (pc := 40) [(6, _), (5, _), (4, _), (0, _), (1, _), (2, _), (3, _)] d_K_derive_40 (by decide) rfl ?_
  refine g_bipush (pc := 42) (v := -4) d_K_derive_42 (by decide) ?_
  refine g_istore (pc := 44) [(8, _), (6, _), (5, _), (4, _), (0, _), (1, _), (2, _), (3, _)] d_K_derive_44 (by decide) rfl ?_
  refine g_lload (pc := 46) d_K_derive_46 rfl ?_
  refine g_ldc2 (pc := 48) d_K_derive_48 lk_K_206 ?_
  refine g_lcmp (pc := 51) d_K_derive_51 ?_
  refine g_if_eq (pc := 52) (tgt := 82) d_K_derive_52 (by decide) (fun h => absurd h (lb_cmp4 (Nat.lt_trans (Nat.or_lt_two_pow hxb hyb) (by decide)))) (fun h52 => ?_)
  refine g_aload_n (pc := 55) d_K_derive_55 rfl ?_
  refine gx_K_draft (pc := 56) d_K_derive_56 lf_K_28 ?_
  refine g_callV (M' := m_D_clear) (pc := 59) (q := 3) d_K_derive_59 lm_K_47 (c_D_clear) v_D_clear rfl rfl rfl (by decide) rfl (Nat.le_of_ble_eq_true rfl) ?_
  rintro _ _ ⟨rfl, rfl⟩
  have hI1 := hI.cl
  show pG m_K_derive τ _ 0 0 62 _ _ _
  refine g_aload_n (pc := 62) d_K_derive_62 rfl ?_
  refine g_iload_n (pc := 63) d_K_derive_63 rfl ?_
  refine g_iload_n (pc := 64) d_K_derive_64 rfl ?_
  refine g_iload_n (pc := 65) d_K_derive_65 rfl ?_
  refine g_callV (M' := m_K_draftConclusion) (pc := 66) (q := 0) d_K_derive_66 lm_K_208 (c_K_conc_12 x cx hx4 hx6 y cy hy4 hy6 A hA B hB hI1.2.2.1 hk) v_K_draftConclusion rfl rfl rfl (by decide) rfl (Nat.le_of_ble_eq_true rfl) ?_
  rintro _ _ ⟨i3, r3, rfl, rfl, hx3, hk3⟩
  have hI2 := hI1.dw hk3 hx3
  have hpre : ∀ (z : Nat) (p : Nat × Nat), Ty[z]? = some p → Ty[z]? = some p := fun _ _ h => h
  have h4k : ∀ x, x ∈ (p2 A) → x < 4096 := (by rw [hpA2]; exact hY.lt)
  have hlk : (p2 A).length < 100000 := (by rw [hpA2]; have := hY.2.2.2; omega)
  show pG m_K_derive τ _ 0 0 69 _ _ _
  refine g_aload_n (pc := 69) d_K_derive_69 rfl ?_
  refine gx_K_shelf (pc := 70) d_K_derive_70 lf_K_19 ?_
  refine g_aload_n (pc := 73) d_K_derive_73 rfl ?_
  refine gx_K_draft (pc := 74) d_K_derive_74 lf_K_28 ?_
  refine g_callV (M' := m_S_keep) (pc := 77) (q := 2) d_K_derive_77 lm_K_60 (c_S_keep Tm _ hI2.2.1 hI2.2.2.1 h4k hlk) v_S_keep rfl rfl rfl (by decide) rfl (Nat.le_of_ble_eq_true rfl) ?_
  rintro _ _ ⟨i9, r9, rfl, rfl, hS9, hk9⟩
  show pG m_K_derive τ _ 0 0 80 _ (.int _ :: _) _
  refine g_istore (pc := 80) [(8, _), (6, _), (5, _), (4, _), (0, _), (1, _), (2, _), (3, _)] d_K_derive_80 (by decide) rfl ?_
  refine g_iload (pc := 82) d_K_derive_82 rfl ?_
  refine g_bipush (pc := 84) (v := -4) d_K_derive_84 (by decide) ?_
  refine g_icmp_ne (pc := 86) (tgt := 110) d_K_derive_86 (by decide) (fun h86 => ?_) (fun h86 => ?_)
  · have hI9 := hI2.kp hk9 hS9
    obtain ⟨c, hc1, hc2, he, -⟩ := sKeep_nI h86 b2
    refine g_aload_n (pc := 110) d_K_derive_110 rfl ?_
    refine gx_K_book (pc := 111) d_K_derive_111 lf_K_35 ?_
    refine g_iload_n (pc := 114) d_K_derive_114 rfl ?_
    refine g_iload_n (pc := 115) d_K_derive_115 rfl ?_
    refine g_iload_n (pc := 116) d_K_derive_116 rfl ?_
    refine g_lload (pc := 117) d_K_derive_117 rfl ?_
    refine g_iload (pc := 119) d_K_derive_119 rfl ?_
    rw [he]
    refine g_callV (M' := m_B_add) (pc := 121) (q := 4) d_K_derive_121 lm_K_212 (c_B_add Th 12 x y _ c _ _ hI9.2.2.2 hf (by decide) (fun _ => ⟨rfl, by omega⟩) (fun _ => ⟨rfl, by omega⟩)) v_B_add rfl rfl rfl (by decide) rfl (Nat.le_of_ble_eq_true rfl) ?_
    rintro _ _ ⟨i8, r8, L8, rfl, rfl, hB8, hk8⟩
    show pG m_K_derive τ _ 0 0 124 _ (.int _ :: _) _
    refine g_iret (pc := 124) d_K_derive_124 rfl (Nat.le_refl _) (Nat.le_refl _) ?_
    exact ⟨i8, r8, L8, _, by rw [sFin, if_neg h86], rfl, by rw [sFin, if_neg h86, he, nI_clamp (by omega)]; exact hI9.bk hk8 hB8⟩
  · have hk4 := h86
    have hXS := hS9
    rw [sKeep_m4 hk4 b2] at hXS
    have hI9 := hI2.kp hk9 hXS
    refine g_aload_n (pc := 89) d_K_derive_89 rfl ?_
    refine gx_K_shelf (pc := 90) d_K_derive_90 lf_K_19 ?_
    refine g_iload (pc := 93) d_K_derive_93 rfl ?_
    refine g_callV (M' := m_S_cutTo) (pc := 95) (q := 2) d_K_derive_95 lm_K_211 (c_S_cutTo _) v_S_cutTo rfl rfl rfl (by decide) rfl (Nat.le_of_ble_eq_true rfl) ?_
    rintro _ _ ⟨rfl, rfl⟩
    show pG m_K_derive τ _ 0 0 98 _ _ _
    refine g_aload_n (pc := 98) d_K_derive_98 rfl ?_
    refine gx_K_types (pc := 99) d_K_derive_99 lf_K_10 ?_
    refine g_iload (pc := 102) d_K_derive_102 rfl ?_
    refine g_callV (M' := m_T_cutTo) (pc := 104) (q := 1) d_K_derive_104 lm_K_100 (c_T_cutTo _) v_T_cutTo rfl rfl rfl (by decide) rfl (Nat.le_of_ble_eq_true rfl) ?_
    rintro _ _ ⟨rfl, rfl⟩
    show pG m_K_derive τ _ 0 0 107 _ _ _
    refine g_bipush (pc := 107) (v := -4) d_K_derive_107 (by decide) ?_
    refine g_iret (pc := 109) d_K_derive_109 rfl (Nat.le_refl _) (Nat.le_refl _) ?_
    exact ⟨_, _, L, _, by rw [sFin, if_pos hk4], rfl, by rw [sFin, if_pos hk4]; exact hI9.scut hpre b1 (fun _ _ h => h) b2 b4 b5⟩
