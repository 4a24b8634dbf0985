/-! Rows of tokens in Polish order; what the class's cells stand for. -/
def Pol : Nat → List Nat → Prop
  | n, [] => n = 0
  | 0, _ :: _ => False
  | n + 1, t :: r => Pol (n + kPt t) r
theorem Pol_cons {n t : Nat} {r : List Nat} (h : Pol n (t :: r)) : ∃ m, n = m + 1 ∧ Pol (m + kPt t) r := by
  cases n with
  | zero => exact h.elim
  | succ m => exact ⟨m, rfl, h⟩
theorem Pol_nil {n : Nat} (h : Pol n []) : n = 0 := h
theorem Pol_0 {r : List Nat} (h : Pol 0 r) : r = [] := by
  cases r with
  | nil => rfl
  | cons t r => exact h.elim
theorem Pol_pos {n : Nat} {r : List Nat} (h : Pol (n + 1) r) : 0 < r.length := by
  cases r with
  | nil => exact absurd h (Nat.succ_ne_zero n)
  | cons t r => exact Nat.succ_pos _
theorem Pol_app : ∀ {r s : List Nat} {n m : Nat}, Pol n r → Pol m s → Pol (n + m) (r ++ s)
  | [], s, n, m, h, g => by
    have e : n = 0 := h
    rw [e, Nat.zero_add]
    exact g
  | t :: r, s, n, m, h, g => by
    obtain ⟨j, rfl, h2⟩ := Pol_cons h
    have := Pol_app h2 g
    show Pol (j + 1 + m) (t :: (r ++ s))
    rw [show j + 1 + m = (j + m) + 1 by omega]
    show Pol (j + m + kPt t) (r ++ s)
    rw [show j + m + kPt t = j + kPt t + m by omega]
    exact this
theorem Pol_split : ∀ {r : List Nat} {n m : Nat}, Pol (n + m) r → ∃ a b, r = a ++ b ∧ Pol n a ∧ Pol m b
  | r, 0, m, h => ⟨[], r, rfl, rfl, by rw [Nat.zero_add] at h; exact h⟩
  | [], n + 1, m, h => by
    have e : n + 1 + m = 0 := h
    omega
  | t :: r, n + 1, m, h => by
    rw [show n + 1 + m = (n + m) + 1 by omega] at h
    have h2 : Pol (n + m + kPt t) r := h
    rw [show n + m + kPt t = (n + kPt t) + m by omega] at h2
    obtain ⟨a, b, e, ha, hb⟩ := Pol_split h2
    exact ⟨t :: a, b, by rw [e]; rfl, ha, hb⟩
/-- a row is no beginning of another -/
theorem Pol_pre : ∀ {r s x y : List Nat} {n : Nat}, Pol n r → Pol n s → r ++ x = s ++ y → r = s ∧ x = y
  | [], s, x, y, n, h, g, e => by
    have e0 : n = 0 := h
    rw [e0] at g
    rw [Pol_0 g] at e ⊢
    exact ⟨rfl, e⟩
  | t :: r, [], x, y, n, h, g, e => by
    have e0 : n = 0 := g
    rw [e0] at h
    exact h.elim
  | t :: r, u :: s, x, y, n, h, g, e => by
    obtain ⟨j, rfl, h2⟩ := Pol_cons h
    have e1 : t = u := by simpa using (List.cons.inj e).1
    have e2 : r ++ x = s ++ y := (List.cons.inj e).2
    subst e1
    obtain ⟨a, b⟩ := Pol_pre h2 g e2
    exact ⟨by rw [a], b⟩
/-- the cells of f from k on hold the row -/
def Seg (f : Nat → Int32) (k : Nat) (row : List Nat) : Prop := ∀ j x, row[j]? = some x → f (k + j) = nI x ∧ x < 4096
theorem Seg_cons {f : Nat → Int32} {k t : Nat} {r : List Nat} (h : Seg f k (t :: r)) : (f k = nI t ∧ t < 4096) ∧ Seg f (k + 1) r := by
  refine ⟨h 0 t rfl, fun j x hj => ?_⟩
  have := h (j + 1) x (by simpa using hj)
  rw [show k + 1 + j = k + (j + 1) by omega]
  exact this
theorem Seg_app {f : Nat → Int32} {k : Nat} {r s : List Nat} (h : Seg f k (r ++ s)) : Seg f k r ∧ Seg f (k + r.length) s := by
  refine ⟨fun j x hj => h j x ?_, fun j x hj => ?_⟩
  · rw [List.getElem?_append_left (List.getElem?_eq_some_iff.mp hj).1]
    exact hj
  · have := h (r.length + j) x (by rw [List.getElem?_append_right (by omega)]; simpa using hj)
    rw [show k + r.length + j = k + (r.length + j) by omega]
    exact this
def fnd {α : Type} [DecidableEq α] (l : List α) (x : α) : Option Nat := l.findIdx? (fun y => decide (y = x))
theorem fnd_some {α : Type} [DecidableEq α] {l : List α} {x : α} {j : Nat} (h : l[j]? = some x) (g : ∀ i, i < j → l[i]? ≠ some x) : fnd l x = some j := by
  unfold fnd
  obtain ⟨hj, e⟩ := List.getElem?_eq_some_iff.mp h
  rw [List.findIdx?_eq_some_iff_getElem]
  refine ⟨hj, by simp [e], fun i hi => ?_⟩
  have := g i hi
  rw [List.getElem?_eq_getElem (by omega)] at this
  simpa using this
theorem fnd_none {α : Type} [DecidableEq α] {l : List α} {x : α} (g : ∀ i, i < l.length → l[i]? ≠ some x) : fnd l x = none := by
  unfold fnd
  rw [List.findIdx?_eq_none_iff]
  intro y hy
  obtain ⟨i, hi⟩ := List.mem_iff_getElem?.mp hy
  have := g i (List.getElem?_eq_some_iff.mp hi).1
  simp only [decide_eq_false_iff_not]
  intro e
  rw [e] at hi
  exact this hi
theorem fnd_at {α : Type} [DecidableEq α] {l : List α} {x : α} {j : Nat} (h : fnd l x = some j) : l[j]? = some x := by
  unfold fnd at h
  rw [List.findIdx?_eq_some_iff_getElem] at h
  obtain ⟨hj, e, -⟩ := h
  rw [List.getElem?_eq_getElem hj]
  simpa using e
theorem fnd_not {α : Type} [DecidableEq α] {l : List α} {x : α} (h : fnd l x = none) : x ∉ l := by
  unfold fnd at h
  rw [List.findIdx?_eq_none_iff] at h
  intro hx
  have := h x hx
  simp at this
/-- an int names one of n things -/
def ixB (x : Int32) (n : Nat) : Bool := decide (0 ≤ x.toInt) && decide (x.toInt < (n : Int))
theorem ixB_of {x : Int32} {n : Nat} (h : ixB x n = true) (hn : n < 2 ^ 31) : ∃ j, j < n ∧ x = nI j := by
  simp only [ixB, Bool.and_eq_true, decide_eq_true_eq] at h
  exact vp_in_of (vp_in_iff.mpr h) hn
theorem ixB_nI {j n : Nat} (hj : j < 2 ^ 31) : ixB (nI j) n = decide (j < n) := by
  unfold ixB
  rw [nI_toInt hj]
  simp
theorem ixB_neg {x : Int32} {n : Nat} (h : x < 0) : ixB x n = false := by
  have := Int32.lt_iff_toInt_lt.mp h
  simp only [Int32.toInt_zero] at this
  simp [ixB]
  omega
theorem ixB_big {x : Int32} {n : Nat} (hn : n < 2 ^ 31) (h : nI n ≤ x) : ixB x n = false := by
  have := Int32.le_iff_toInt_le.mp h
  rw [nI_toInt hn] at this
  simp [ixB]
  omega
theorem ixB_in {x : Int32} {n : Nat} (hn : n < 2 ^ 31) (h0 : ¬ x < 0) (h : ¬ nI n ≤ x) : ixB x n = true := by
  have h1 : ¬ x.toInt < 0 := fun e => h0 (Int32.lt_iff_toInt_lt.mpr (by rw [Int32.toInt_zero]; exact e))
  have h2 : ¬ (n : Int) ≤ x.toInt := fun e => h (Int32.le_iff_toInt_le.mpr (by rw [nI_toInt hn]; exact e))
  simp [ixB]
  omega
/-- the types: the arrows, from number 3 on -/
def XT (Ty : List (Nat × Nat)) (i : Nat → Int32) (r : Nat → Nat → Int32) : Prop := i 0 = nI (3 + Ty.length) ∧ Ty.length ≤ 13 ∧ (∀ j, j < 3 → r 0 j = -1) ∧ ∀ j p, Ty[j]? = some p → (r 0 (3 + j) = nI p.1 ∧ r 1 (3 + j) = nI p.2) ∧ p.1 < 16 ∧ p.2 < 16
/-- the kept terms -/
def XS (Tm : List (List Nat)) (i : Nat → Int32) (r : Nat → Nat → Int32) : Prop := i 1 = nI Tm.length ∧ Tm.length ≤ 60 ∧ ∀ t row, Tm[t]? = some row → row.length ≤ 30 ∧ r 3 t = nI row.length ∧ Seg (r 2) (30 * t) row
/-- the draft -/
def XD (d : List Nat) (i : Nat → Int32) (r : Nat → Nat → Int32) : Prop := i 2 = nI d.length ∧ (d.length ≤ 30 → ∀ j x, d[j]? = some x → r 4 j = nI x)
abbrev Thm : Type := Nat × Nat × Nat × Nat × Nat
/-- the theorems: rule, what it named, hypotheses, conclusion -/
def XB (Th : List Thm) (i : Nat → Int32) (r : Nat → Nat → Int32) (L : Nat → Int64) : Prop := i 4 = nI Th.length ∧ Th.length ≤ 40 ∧ ∀ k rl x y h c, Th[k]? = some (rl, x, y, h, c) → (r 7 k = nI rl ∧ rl < 14) ∧ (nbx rl = 2 → r 8 k = nI x ∧ x < k) ∧ (nby rl = 2 → r 9 k = nI y ∧ y < k) ∧ L k = lN h ∧ r 6 k = nI c
/-- all of the class's cells -/
def XI (Ty : List (Nat × Nat)) (Tm : List (List Nat)) (Th : List Thm) (d : List Nat) (i : Nat → Int32) (r : Nat → Nat → Int32) (L : Nat → Int64) : Prop := XT Ty i r ∧ XS Tm i r ∧ XD d i r ∧ XB Th i r L
theorem up_s {α : Type} {f : Nat → α} {k : Nat} {v : α} : va_up f k v k = v := if_pos rfl
theorem up_n {α : Type} {f : Nat → α} {k j : Nat} {v : α} (h : j ≠ k) : va_up f k v j = f j := if_neg h
