/-! What a call answers, in terms of types, rows and theorems. -/
def hdt (row : List Nat) : Nat := row.headD 0
abbrev tyR (row : List Nat) : Nat := hdt row % 16
abbrev tgR (row : List Nat) : Nat := hdt row / 512
abbrev inR (row : List Nat) : Nat := hdt row / 16 % 32
def arw (Ty : List (Nat × Nat)) (t : Nat) : Option (Nat × Nat) := if 3 ≤ t then Ty[t - 3]? else none
def tks (Ty : List (Nat × Nat)) (f x : Nat) : Bool := match arw Ty f with
  | some p => decide (p.1 = x)
  | none => false
def res (Ty : List (Nat × Nat)) (f : Nat) : Nat := match arw Ty f with
  | some p => p.2
  | none => 0
def cut : Nat → List Nat → List Nat × List Nat
  | 0, r => ([], r)
  | _ + 1, [] => ([], [])
  | n + 1, t :: r => (t :: (cut (n + kPt t) r).1, (cut (n + kPt t) r).2)
theorem cut_app : ∀ {x : List Nat} {n : Nat} (y : List Nat), Pol n x → cut n (x ++ y) = (x, y)
  | [], n, y, h => by
    have e : n = 0 := h
    rw [e]
    cases y <;> rfl
  | t :: x, n, y, h => by
    obtain ⟨m, rfl, h2⟩ := Pol_cons h
    show (t :: (cut (m + kPt t) (x ++ y)).1, (cut (m + kPt t) (x ++ y)).2) = _
    rw [cut_app y h2]
def p1 (row : List Nat) : List Nat := (cut 1 row.tail).1
def p2 (row : List Nat) : List Nat := (cut 1 (cut 1 row.tail).2).1
theorem p1_eq {t : Nat} {x y : List Nat} (h : Pol 1 x) : p1 (t :: (x ++ y)) = x := by
  show (cut 1 (x ++ y)).1 = x
  rw [cut_app y h]
theorem p2_eq {t : Nat} {x y z : List Nat} (h : Pol 1 x) (g : Pol 1 y) : p2 (t :: (x ++ (y ++ z))) = y := by
  show (cut 1 (cut 1 (x ++ (y ++ z))).2).1 = y
  rw [cut_app _ h]
  show (cut 1 (y ++ z)).1 = y
  rw [cut_app z g]
def sAp (Ty : List (Nat × Nat)) (f x : List Nat) : List Nat := tok 5 0 (res Ty (tyR f)) :: (f ++ x)
def sJn (tg : Nat) (x y : List Nat) : List Nat := tok tg 0 0 :: (x ++ y)
def sBd (tg ty v : Nat) (row : List Nat) : List Nat := tok tg (v % 16) ty :: cls v [0] row
/-- an abstraction behind the draft d: without room for its type the draft is spoilt -/
def sAb (Ty : List (Nat × Nat)) (d : List Nat) (v : Nat) (row : List Nat) : List (Nat × Nat) × List Nat :=
  if (sNum Ty (v % 16) (tyR row)).1 = -4 then (Ty, List.replicate 31 0) else ((sNum Ty (v % 16) (tyR row)).2, d ++ sBd 3 (sNum Ty (v % 16) (tyR row)).1.toNatClampNeg v row)
/-- the declared type of a constant -/
def dcl (Tm : List (List Nat)) (n : Nat) : Option Nat := (Tm.find? (fun row => decide (tgR row = 1) && decide (inR row = n))).map tyR
def rwT (Tm : List (List Nat)) (x : Int32) : List Nat := Tm.getD x.toNatClampNeg []
/-- what holds of the rows of kept terms -/
def RowOk (Ty : List (Nat × Nat)) (row : List Nat) : Prop := Pol 1 row ∧ row.length ≤ 30 ∧ ∀ x, x ∈ row → x < 4096 ∧ x % 16 < 3 + Ty.length
def TmOk (Ty : List (Nat × Nat)) (Tm : List (List Nat)) : Prop := ∀ (t : Nat) (row : List Nat), Tm[t]? = some row → RowOk Ty row
def ThOk (Tm : List (List Nat)) (Th : List Thm) : Prop := ∀ (k rl x y h c : Nat), Th[k]? = some (rl, x, y, h, c) → c < Tm.length ∧ ∀ t : Nat, h.testBit t = true → t < Tm.length
abbrev pR3 : Type := Int32 × List (Nat × Nat) × List (List Nat) × List Thm
def sArrow (Ty : List (Nat × Nat)) (f t : Int32) : Int32 × List (Nat × Nat) := if ixB f (3 + Ty.length) && ixB t (3 + Ty.length) then sNum Ty f.toNatClampNeg t.toNatClampNeg else (-1, Ty)
def sVariable (Ty : List (Nat × Nat)) (Tm : List (List Nat)) (x t : Int32) : Int32 × List (List Nat) := if ixB x 10 && ixB t (3 + Ty.length) then sKeep Tm [tok 0 x.toNatClampNeg t.toNatClampNeg] else (-1, Tm)
def sConstant (Ty : List (Nat × Nat)) (Tm : List (List Nat)) (x t : Int32) : Int32 × List (List Nat) := if ixB x 4 && ixB t (3 + Ty.length) then
    (if (dcl Tm x.toNatClampNeg).getD t.toNatClampNeg = t.toNatClampNeg then sKeep Tm [tok 1 x.toNatClampNeg t.toNatClampNeg] else (-2, Tm)) else (-1, Tm)
def sApply (Ty : List (Nat × Nat)) (Tm : List (List Nat)) (f x : Int32) : Int32 × List (List Nat) := if ixB f Tm.length && ixB x Tm.length then
    (if tks Ty (tyR (rwT Tm f)) (tyR (rwT Tm x)) then sKeep Tm (sAp Ty (rwT Tm f) (rwT Tm x)) else (-2, Tm)) else (-1, Tm)
def sJoin (Tm : List (List Nat)) (e : Int32) (x y : Int32) : Int32 × List (List Nat) := if ixB x Tm.length && ixB y Tm.length then
    (if tyR (rwT Tm x) = tyR (rwT Tm y) ∧ (e = 0 → tyR (rwT Tm x) = 0) then sKeep Tm (sJn (if e = 0 then 6 else 7) (rwT Tm x) (rwT Tm y)) else (-2, Tm)) else (-1, Tm)
/-- the draft of a binder, and the types with it -/
def sBdr (Ty : List (Nat × Nat)) (al : Int32) (v row : List Nat) : List (Nat × Nat) × List Nat := if al = 0 then sAb Ty [] (hdt v) row else (Ty, sBd 4 0 (hdt v) row)
def sBind (Ty : List (Nat × Nat)) (Tm : List (List Nat)) (al : Int32) (v t : Int32) : Int32 × List (Nat × Nat) × List (List Nat) := if ixB v Tm.length && ixB t Tm.length then
    (if tgR (rwT Tm v) = 0 ∧ (al = 0 ∨ tyR (rwT Tm t) = 0) then
      (if (sKeep Tm (sBdr Ty al (rwT Tm v) (rwT Tm t)).2).1 = -4 then (-4, Ty, Tm) else ((sKeep Tm (sBdr Ty al (rwT Tm v) (rwT Tm t)).2).1, (sBdr Ty al (rwT Tm v) (rwT Tm t)).1, (sKeep Tm (sBdr Ty al (rwT Tm v) (rwT Tm t)).2).2))
    else (-2, Ty, Tm)) else (-1, Ty, Tm)
/-- the end of a rule: the draft d is kept, and the theorem added; or nothing has happened -/
def sFin (Ty : List (Nat × Nat)) (Tm : List (List Nat)) (Th : List Thm) (R x y h : Nat) (Ty1 : List (Nat × Nat)) (Tm1 : List (List Nat)) (d : List Nat) : pR3 :=
  if (sKeep Tm1 d).1 = -4 then (-4, Ty, Tm, Th) else (nI Th.length, Ty1, (sKeep Tm1 d).2, Th ++ [(R, x, y, h, (sKeep Tm1 d).1.toNatClampNeg)])
/-- at a place of the shelf a row stands -/
def PA (f : Nat → Int32) (k : Nat) (row : List Nat) : Prop := Seg f k row ∧ Pol 1 row ∧ k + row.length ≤ 1800 ∧ row.length ≤ 30
theorem PA.hd {f : Nat → Int32} {k : Nat} {row : List Nat} (h : PA f k row) : k < 1800 ∧ f k = nI (hdt row) ∧ hdt row < 4096 := by
  obtain ⟨h1, h2, h3, h4⟩ := h
  have hp := Pol_pos h2
  obtain ⟨h5, h6⟩ := h1 0 (hdt row) (by cases row with | nil => simp at hp | cons t r => rfl)
  exact ⟨by omega, h5, h6⟩
theorem XS.pa {Ty : List (Nat × Nat)} {Tm : List (List Nat)} {i : Nat → Int32} {r : Nat → Nat → Int32} {t : Nat} {row : List Nat} (h : XS Tm i r) (ok : TmOk Ty Tm) (ht : Tm[t]? = some row) : PA (r 2) (30 * t) row := by
  obtain ⟨h1, h2, h3⟩ := h.2.2 t row ht
  have := (List.getElem?_eq_some_iff.mp ht).1
  have := h.2.1
  exact ⟨h3, (ok t row ht).1, by omega, h1⟩
/-- the parts of a row of two -/
theorem PA.two {f : Nat → Int32} {k : Nat} {row : List Nat} (h : PA f k row) (g : kPt (hdt row) = 2) : ∃ x y, row = hdt row :: (x ++ y) ∧ PA f (k + 1) x ∧ PA f (k + 1 + x.length) y ∧ p1 row = x ∧ p2 row = y := by
  obtain ⟨h1, h2, h3, h4⟩ := h
  cases row with
  | nil => exact absurd h2 (by intro e; cases e)
  | cons t r =>
    have g : kPt t = 2 := g
    have h2 : Pol (0 + kPt t) r := h2
    rw [g] at h2
    obtain ⟨x, y, rfl, hx, hy⟩ := Pol_split (n := 1) (m := 1) h2
    obtain ⟨-, h5⟩ := Seg_cons h1
    obtain ⟨h6, h7⟩ := Seg_app h5
    simp only [List.length_cons, List.length_append] at h3 h4
    exact ⟨x, y, rfl, ⟨h6, hx, by omega, by omega⟩, ⟨h7, hy, by omega, by omega⟩, p1_eq hx, by have := p2_eq (t := t) (z := []) hx hy; rw [List.append_nil] at this; exact this⟩
theorem PA.one {f : Nat → Int32} {k : Nat} {row : List Nat} (h : PA f k row) (g : kPt (hdt row) = 1) : ∃ x, row = hdt row :: x ∧ PA f (k + 1) x ∧ p1 row = x := by
  obtain ⟨h1, h2, h3, h4⟩ := h
  cases row with
  | nil => exact absurd h2 (by intro e; cases e)
  | cons t r =>
    have g : kPt t = 1 := g
    have h2 : Pol (0 + kPt t) r := h2
    rw [g] at h2
    obtain ⟨-, h5⟩ := Seg_cons h1
    simp only [List.length_cons] at h3 h4
    exact ⟨r, rfl, ⟨h5, h2, by omega, by omega⟩, by have := p1_eq (t := t) (y := []) h2; rw [List.append_nil] at this; exact this⟩
theorem kPt_2 {x : Nat} (h : 5 ≤ x / 512) : kPt x = 2 := by unfold kPt; rw [if_neg (by omega), if_neg (by omega)]
theorem kPt_1 {x : Nat} (h : x / 512 = 3 ∨ x / 512 = 4) : kPt x = 1 := by unfold kPt; rw [if_neg (by omega), if_pos (by omega)]
theorem kPt_0 {x : Nat} (h : x / 512 < 3) : kPt x = 0 := by unfold kPt; rw [if_pos h]
theorem XT.mv {Ty : List (Nat × Nat)} {i i2 : Nat → Int32} {r r2 : Nat → Nat → Int32} (h : XT Ty i r) (e0 : i2 0 = i 0) (e1 : r2 0 = r 0) (e2 : r2 1 = r 1) : XT Ty i2 r2 := by
  unfold XT at *
  rw [e0, e1, e2]
  exact h
theorem XS.mv {Tm : List (List Nat)} {i i2 : Nat → Int32} {r r2 : Nat → Nat → Int32} (h : XS Tm i r) (e0 : i2 1 = i 1) (e1 : r2 2 = r 2) (e2 : r2 3 = r 3) : XS Tm i2 r2 := by
  unfold XS at *
  rw [e0, e1, e2]
  exact h
theorem XB.mv {Th : List Thm} {i i2 : Nat → Int32} {r r2 : Nat → Nat → Int32} {L : Nat → Int64} (h : XB Th i r L) (e0 : i2 4 = i 4) (e1 : r2 6 = r 6) (e2 : r2 7 = r 7) (e3 : r2 8 = r 8) (e4 : r2 9 = r 9) : XB Th i2 r2 L := by
  unfold XB at *
  rw [e0, e1, e2, e3, e4]
  exact h
theorem XI.dw {Ty : List (Nat × Nat)} {Tm : List (List Nat)} {Th : List Thm} {d d2 : List Nat} {i i2 : Nat → Int32} {r r2 : Nat → Nat → Int32} {L : Nat → Int64} (h : XI Ty Tm Th d i r L) (k : DW i r i2 r2) (hd : XD d2 i2 r2) : XI Ty Tm Th d2 i2 r2 L :=
  ⟨h.1.mv (k.1 0 (by decide) (by decide)) (k.2 0 (by decide) (by decide)) (k.2 1 (by decide) (by decide)), h.2.1.mv (k.1 1 (by decide) (by decide)) (k.2 2 (by decide) (by decide)) (k.2 3 (by decide) (by decide)), hd, h.2.2.2.mv (k.1 4 (by decide) (by decide)) (k.2 6 (by decide) (by decide)) (k.2 7 (by decide) (by decide)) (k.2 8 (by decide) (by decide)) (k.2 9 (by decide) (by decide))⟩
theorem XI.cl {Ty : List (Nat × Nat)} {Tm : List (List Nat)} {Th : List Thm} {d : List Nat} {i : Nat → Int32} {r : Nat → Nat → Int32} {L : Nat → Int64} (h : XI Ty Tm Th d i r L) : XI Ty Tm Th [] (upd i 2 (nI 0)) r L :=
  h.dw ⟨fun j h2 _ => pk_un h2, fun _ _ _ => rfl⟩ ⟨pk_us, fun _ j x hj => by simp at hj⟩
theorem XI.kp {Ty : List (Nat × Nat)} {Tm Tm2 : List (List Nat)} {Th : List Thm} {d : List Nat} {i i2 : Nat → Int32} {r r2 : Nat → Nat → Int32} {L : Nat → Int64} (h : XI Ty Tm Th d i r L) (k : SKp i r i2 r2) (hs : XS Tm2 i2 r2) : XI Ty Tm2 Th d i2 r2 L :=
  ⟨h.1.mv (k.1 0 (by decide)) (k.2 0 (by decide) (by decide)) (k.2 1 (by decide) (by decide)), hs, h.2.2.1.mv (k.1 2 (by decide)) (k.2 4 (by decide) (by decide)), h.2.2.2.mv (k.1 4 (by decide)) (k.2 6 (by decide) (by decide)) (k.2 7 (by decide) (by decide)) (k.2 8 (by decide) (by decide)) (k.2 9 (by decide) (by decide))⟩
theorem rwT_at {Tm : List (List Nat)} {t : Nat} {row : List Nat} (h : Tm[t]? = some row) (hl : Tm.length ≤ 60) : rwT Tm (nI t) = row := by
  have := (List.getElem?_eq_some_iff.mp h).1
  unfold rwT
  rw [nI_clamp (by omega), List.getD_eq_getElem?_getD, h]
  rfl
theorem tks_iff {Ty : List (Nat × Nat)} {i : Nat → Int32} {r : Nat → Nat → Int32} {f x : Nat} (h : XT Ty i r) (hf : f < 3 + Ty.length) (hx : x < 16) : decide (r 0 f = nI x) = tks Ty f x := by
  obtain ⟨h0, h1, h2, h3⟩ := h
  unfold tks arw
  by_cases c : 3 ≤ f
  · rw [if_pos c]
    obtain ⟨p, hp⟩ : ∃ p, Ty[f - 3]? = some p := ⟨_, List.getElem?_eq_getElem (by omega)⟩
    obtain ⟨⟨g1, -⟩, g2, -⟩ := h3 _ _ hp
    rw [show 3 + (f - 3) = f by omega] at g1
    rw [hp, g1]
    simp only [nI_eq (show p.1 < 2 ^ 31 by omega) (show x < 2 ^ 31 by omega)]
  · rw [if_neg c, h2 f (by omega), decide_eq_false_iff_not]
    exact fun e => nI_m1 (by omega) e.symm
theorem res_at {Ty : List (Nat × Nat)} {i : Nat → Int32} {r : Nat → Nat → Int32} {f x : Nat} (h : XT Ty i r) (ht : tks Ty f x = true) : r 1 f = nI (res Ty f) ∧ res Ty f < 16 ∧ 3 ≤ f ∧ f < 3 + Ty.length ∧ arw Ty f = some (x, res Ty f) := by
  obtain ⟨h0, h1, h2, h3⟩ := h
  unfold tks arw at ht
  by_cases c : 3 ≤ f
  · rw [if_pos c] at ht
    cases hp : Ty[f - 3]? with
    | none => rw [hp] at ht; simp at ht
    | some p =>
      rw [hp] at ht
      obtain ⟨⟨-, g1⟩, -, g2⟩ := h3 _ _ hp
      rw [show 3 + (f - 3) = f by omega] at g1
      have hl := (List.getElem?_eq_some_iff.mp hp).1
      have e : res Ty f = p.2 := by unfold res arw; rw [if_pos c, hp]
      have e2 : p.1 = x := by simpa using ht
      rw [e]
      refine ⟨g1, g2, c, by omega, ?_⟩
      unfold arw
      rw [if_pos c, hp, ← e2]
  · rw [if_neg c] at ht
    simp at ht
