/-! More of rows: bounds, agreement; the draft's neighbours. -/
theorem Pol_le : ∀ {r : List Nat} {n : Nat}, Pol n r → n ≤ r.length
  | [], n, h => Nat.le_of_eq h
  | t :: r, n, h => by
    obtain ⟨m, rfl, h2⟩ := Pol_cons h
    have := Pol_le h2
    simp
    omega
theorem nI_opn (m p : Nat) : nI (m + 1) + (nI p - nI 1) = nI (m + p) := by
  rw [nI_succ, show nI 1 = 1 from rfl, Int32.sub_eq_add_neg, Int32.add_comm (nI p) (-1), ← Int32.add_assoc, Int32.add_assoc (nI m) 1 (-1), show (1 : Int32) + (-1) = 0 from rfl, Int32.add_zero, nI_add]
theorem take_agree {R S : List Nat} {z : Nat} (hz : z ≤ R.length) (hz2 : z ≤ S.length) (ag : ∀ y, y < z → R[y]? = S[y]?) : R.take z = S.take z := by
  apply List.ext_getElem?
  intro y
  by_cases h : y < z
  · rw [List.getElem?_take_of_lt h, List.getElem?_take_of_lt h]
    exact ag y h
  · rw [List.getElem?_eq_none (by simp; omega), List.getElem?_eq_none (by simp; omega)]
theorem Pol_agree {R S : List Nat} {n z : Nat} (h1 : Pol n R) (h2 : Pol n S) (hz : z < R.length) (ag : ∀ y, y < z → R[y]? = S[y]?) : z < S.length := by
  rcases Nat.lt_or_ge z S.length with h | h
  · exact h
  · exfalso
    have e := take_agree (R := R) (S := S) (z := S.length) (by omega) (Nat.le_refl _) (fun y hy => ag y (by omega))
    rw [List.take_length] at e
    have e2 : R ++ [] = S ++ R.drop S.length := by
      rw [List.append_nil]
      conv => lhs; rw [← List.take_append_drop S.length R]
      rw [e]
    have := (Pol_pre h1 h2 e2).1
    rw [this] at hz
    omega
theorem Pol_same {R S : List Nat} {n : Nat} (h1 : Pol n R) (h2 : Pol n S) (ag : ∀ y, y < R.length → R[y]? = S[y]?) : R = S := by
  rcases Nat.lt_or_ge S.length R.length with h | h
  · exact absurd (Pol_agree h1 h2 h (fun y hy => ag y (by omega))) (by omega)
  · have e := take_agree (R := R) (S := S) (z := R.length) (Nat.le_refl _) h ag
    rw [List.take_length] at e
    have e2 : R ++ S.drop R.length = S ++ [] := by
      rw [List.append_nil]
      conv => rhs; rw [← List.take_append_drop R.length S]
      rw [← e]
    exact (Pol_pre h1 h2 e2).1
/-- only the draft's row and length have changed -/
def DK (i : Nat → Int32) (r : Nat → Nat → Int32) (i2 : Nat → Int32) (r2 : Nat → Nat → Int32) : Prop := (∀ j, j ≠ 2 → i2 j = i j) ∧ ∀ j, j ≠ 4 → r2 j = r j
theorem DK.rf {i : Nat → Int32} {r : Nat → Nat → Int32} : DK i r i r := ⟨fun _ _ => rfl, fun _ _ => rfl⟩
theorem DK.tr {i i2 i3 : Nat → Int32} {r r2 r3 : Nat → Nat → Int32} (h : DK i r i2 r2) (g : DK i2 r2 i3 r3) : DK i r i3 r3 := ⟨fun j hj => (g.1 j hj).trans (h.1 j hj), fun j hj => (g.2 j hj).trans (h.2 j hj)⟩
/-- only the draft's walk has changed -/
def WKp (i : Nat → Int32) (r : Nat → Nat → Int32) (i2 : Nat → Int32) (r2 : Nat → Nat → Int32) : Prop := (∀ j, j ≠ 3 → i2 j = i j) ∧ ∀ j, j ≠ 5 → r2 j = r j
/-- only the draft has changed -/
def DW (i : Nat → Int32) (r : Nat → Nat → Int32) (i2 : Nat → Int32) (r2 : Nat → Nat → Int32) : Prop := (∀ j, j ≠ 2 → j ≠ 3 → i2 j = i j) ∧ ∀ j, j ≠ 4 → j ≠ 5 → r2 j = r j
theorem DW.rf {i : Nat → Int32} {r : Nat → Nat → Int32} : DW i r i r := ⟨fun _ _ _ => rfl, fun _ _ _ => rfl⟩
theorem DW.tr {i i2 i3 : Nat → Int32} {r r2 r3 : Nat → Nat → Int32} (h : DW i r i2 r2) (g : DW i2 r2 i3 r3) : DW i r i3 r3 := ⟨fun j h1 h2 => (g.1 j h1 h2).trans (h.1 j h1 h2), fun j h1 h2 => (g.2 j h1 h2).trans (h.2 j h1 h2)⟩
theorem DK.w {i i2 : Nat → Int32} {r r2 : Nat → Nat → Int32} (h : DK i r i2 r2) : DW i r i2 r2 := ⟨fun j h1 _ => h.1 j h1, fun j h1 _ => h.2 j h1⟩
theorem WKp.w {i i2 : Nat → Int32} {r r2 : Nat → Nat → Int32} (h : WKp i r i2 r2) : DW i r i2 r2 := ⟨fun j _ h1 => h.1 j h1, fun j _ h1 => h.2 j h1⟩
theorem XD_add {d : List Nat} {i i2 : Nat → Int32} {r r2 : Nat → Nat → Int32} {x : Nat} (h : XD d i r) (hi : i2 2 = nI (d.length + 1)) (hr : d.length < 30 → r2 4 = upd (r 4) d.length (nI x)) : XD (d ++ [x]) i2 r2 := by
  refine ⟨by rw [hi]; simp, fun hl j y hj => ?_⟩
  have hl : d.length < 30 := by simp at hl; omega
  rw [hr hl]
  by_cases c : j < d.length
  · rw [List.getElem?_append_left c] at hj
    rw [pk_un (by omega)]
    exact h.2 (by omega) j y hj
  · rw [List.getElem?_append_right (by omega)] at hj
    have hz : j - d.length < 1 := (List.getElem?_eq_some_iff.mp hj).1
    have hj2 : j = d.length := by omega
    subst hj2
    simp at hj
    rw [pk_us, hj]
theorem XD.mv {d : List Nat} {i i2 : Nat → Int32} {r r2 : Nat → Nat → Int32} (h : XD d i r) (hi : i2 2 = i 2) (hr : r2 4 = r 4) : XD d i2 r2 := ⟨by rw [hi]; exact h.1, fun hl j x hj => by rw [hr]; exact h.2 hl j x hj⟩
/-- the walk's stack: the depths of the parts to come, the next first -/
def WK (s : List Nat) (i : Nat → Int32) (r : Nat → Nat → Int32) : Prop := i 3 = nI s.length ∧ s.length ≤ 30 ∧ ∀ j x, s[j]? = some x → r 5 (s.length - 1 - j) = nI x
theorem WK.mv {s : List Nat} {i i2 : Nat → Int32} {r r2 : Nat → Nat → Int32} (h : WK s i r) (hi : i2 3 = i 3) (hr : r2 5 = r 5) : WK s i2 r2 := ⟨by rw [hi]; exact h.1, h.2.1, fun j x hj => by rw [hr]; exact h.2.2 j x hj⟩
theorem WK.push {s : List Nat} {i i2 : Nat → Int32} {r r2 : Nat → Nat → Int32} {x : Nat} (h : WK s i r) (hl : s.length < 30) (hi : i2 3 = nI (s.length + 1)) (hr : r2 5 = upd (r 5) s.length (nI x)) : WK (x :: s) i2 r2 := by
  refine ⟨by rw [hi]; rfl, by simp; omega, fun j y hj => ?_⟩
  rw [hr]
  cases j with
  | zero =>
    simp at hj ⊢
    rw [pk_us, hj]
  | succ j =>
    have hj2 : s[j]? = some y := by simpa using hj
    have hlt := (List.getElem?_eq_some_iff.mp hj2).1
    have := h.2.2 j y hj2
    simp only [List.length_cons]
    rw [pk_un (by omega), show s.length + 1 - 1 - (j + 1) = s.length - 1 - j by omega]
    exact this
theorem WK.pop {s : List Nat} {i i2 : Nat → Int32} {r r2 : Nat → Nat → Int32} {x : Nat} (h : WK (x :: s) i r) (hi : i2 3 = nI s.length) (hr : r2 5 = r 5) : WK s i2 r2 ∧ r 5 s.length = nI x := by
  refine ⟨⟨hi, by have := h.2.1; simp at this; omega, fun j y hj => ?_⟩, ?_⟩
  · have := h.2.2 (j + 1) y (by simpa using hj)
    have hlt := (List.getElem?_eq_some_iff.mp hj).1
    rw [hr]
    simp only [List.length_cons] at this
    rw [show s.length + 1 - 1 - (j + 1) = s.length - 1 - j by omega] at this
    exact this
  · have := h.2.2 0 x rfl
    simpa using this
def nxt (x d : Nat) (s : List Nat) : List Nat := List.replicate (kPt x) (if kBd x then d + 1 else d) ++ s
theorem kPt_le (x : Nat) : kPt x ≤ 2 := by unfold kPt; split <;> (try split) <;> omega
/-- the body of a binder, the variable v replaced by places -/
def cls (v : Nat) : List Nat → List Nat → List Nat
  | _, [] => []
  | [], _ :: _ => []
  | d :: s, t :: r => (if t = v then tok 2 d (v % 16) else t) :: cls v (nxt t d s) r
/-- the body of a binder, its places replaced by the row f -/
def fil (f : List Nat) : List Nat → List Nat → List Nat
  | _, [] => []
  | [], _ :: _ => []
  | d :: s, t :: r => (if t / 512 = 2 ∧ t / 16 % 32 = d then f else [t]) ++ fil f (nxt t d s) r
def rpl (v : Nat) (f : List Nat) : List Nat → List Nat
  | [] => []
  | t :: r => (if t = v then f else [t]) ++ rpl v f r
