/-! Depths and binders: by a stack from the left, and as the reference finds them. -/
/-- the length of the term that begins here -/
def tl (r : List Nat) : Nat := (cut 1 r).1.length
theorem tl_app {x : List Nat} (y : List Nat) (h : Pol 1 x) : tl (x ++ y) = x.length := by unfold tl; rw [cut_app y h]
/-- a term begins at every place of a row -/
theorem Pol_at : ∀ {r : List Nat} {n j : Nat}, Pol n r → j < r.length → ∃ x y, r.drop j = x ++ y ∧ Pol 1 x
  | [], n, j, _, hj => by simp at hj
  | t :: r, n, 0, h, _ => by
    obtain ⟨m, rfl, -⟩ := Pol_cons h
    rw [Nat.add_comm] at h
    obtain ⟨x, y, e, hx, -⟩ := Pol_split (n := 1) h
    exact ⟨x, y, e, hx⟩
  | t :: r, n, j + 1, h, hj => by
    obtain ⟨m, rfl, h2⟩ := Pol_cons h
    simp only [List.length_cons] at hj
    rw [List.drop_succ_cons]
    exact Pol_at h2 (by omega)
/-- of the binders ahead of M, the infos of those around place j, the innermost first -/
def EP : List Nat → Nat → Nat → List Nat
  | [], _, _ => []
  | _ :: _, _, 0 => []
  | _ :: _, 0, _ + 1 => []
  | t :: r, j + 1, M + 1 => EP r j M ++ (if kBd t = true ∧ j < tl r then [t / 16 % 32] else [])
theorem EP_0 (r : List Nat) (j : Nat) : EP r j 0 = [] := by cases r <;> rfl
theorem EP_peel : ∀ {r : List Nat} {j m : Nat} {x : Nat}, m < j → r[m]? = some x → EP r j (m + 1) = (if kBd x = true ∧ j - (m + 1) < tl (r.drop (m + 1)) then [x / 16 % 32] else []) ++ EP r j m
  | [], j, m, x, _, h => by simp at h
  | t :: r, 0, m, x, hm, _ => by omega
  | t :: r, j + 1, 0, x, _, h => by
    have e : t = x := by simpa using h
    subst e
    show EP r j 0 ++ _ = _ ++ []
    rw [EP_0, List.nil_append, List.append_nil]
    rfl
  | t :: r, j + 1, m + 1, x, hm, h => by
    have h : r[m]? = some x := by simpa using h
    show EP r j (m + 1) ++ _ = _
    rw [EP_peel (by omega) h, List.append_assoc]
    show _ = _ ++ (EP r j m ++ _)
    rw [List.drop_succ_cons, show j + 1 - (m + 1 + 1) = j - (m + 1) by omega]
theorem EP_len : ∀ {r : List Nat} {j M : Nat}, (EP r j M).length ≤ M
  | [], _, _ => by simp [EP]
  | _ :: _, _, 0 => by simp [EP]
  | _ :: _, 0, _ + 1 => by simp [EP]
  | t :: r, j + 1, M + 1 => by
    have := EP_len (r := r) (j := j) (M := M)
    simp only [EP, List.length_append]
    split <;> simp <;> omega
def ixc : List Nat → Nat → Nat
  | [], _ => 0
  | _ :: _, 0 => 0
  | t :: r, j + 1 => if ixc r j < kPt t then 0 else ixc r j - kPt t + 1
theorem ixc_lt : ∀ {r : List Nat} {j n : Nat}, j < r.length → (ixc r j < n ↔ j < (cut n r).1.length)
  | [], j, n, h => by simp at h
  | t :: r, 0, n, _ => by
    cases n with
    | zero => simp [cut]
    | succ n =>
      show 0 < n + 1 ↔ 0 < (t :: (cut (n + kPt t) r).1).length
      simp
  | t :: r, j + 1, n, h => by
    simp only [List.length_cons] at h
    cases n with
    | zero => simp [cut]
    | succ n =>
      have ih := ixc_lt (r := r) (j := j) (n := n + kPt t) (by omega)
      show (if ixc r j < kPt t then 0 else ixc r j - kPt t + 1) < n + 1 ↔ j + 1 < (t :: (cut (n + kPt t) r).1).length
      rw [List.length_cons, Nat.add_lt_add_iff_right, ← ih]
      split <;> omega
def nxc (t : Nat) (G : List Nat) (s : List (List Nat)) : List (List Nat) := List.replicate (kPt t) (if kBd t then t / 16 % 32 :: G else G) ++ s
/-- the contexts of the terms to come, at place j -/
def ckA : List (List Nat) → List Nat → Nat → List (List Nat)
  | s, _, 0 => s
  | s, [], _ + 1 => s
  | [], _ :: _, _ + 1 => []
  | G :: s, t :: r, j + 1 => ckA (nxc t G s) r j
def skA : List Nat → List Nat → Nat → List Nat
  | s, _, 0 => s
  | s, [], _ + 1 => s
  | [], _ :: _, _ + 1 => []
  | d :: s, t :: r, j + 1 => skA (nxt t d s) r j
theorem nxc_len (t : Nat) (G : List Nat) (s : List (List Nat)) : (nxc t G s).map List.length = nxt t G.length (s.map List.length) := by
  unfold nxc nxt
  rw [List.map_append, List.map_replicate]
  congr 2
  split <;> simp
theorem skA_ckA : ∀ {r : List Nat} {s : List (List Nat)} {j : Nat}, skA (s.map List.length) r j = (ckA s r j).map List.length
  | r, s, 0 => by cases s <;> cases r <;> rfl
  | [], s, j + 1 => by cases s <;> rfl
  | t :: r, [], j + 1 => rfl
  | t :: r, G :: s, j + 1 => by
    show skA (nxt t G.length (s.map List.length)) r j = (ckA (nxc t G s) r j).map List.length
    rw [← nxc_len]
    exact skA_ckA
theorem ckA_hd : ∀ {r : List Nat} {s : List (List Nat)} {j : Nat}, Pol s.length r → j < r.length → ∃ T, ckA s r j = (EP r j j ++ s.getD (ixc r j) []) :: T
  | [], s, j, _, hj => by simp at hj
  | t :: r, s, 0, h, _ => by
    cases s with
    | nil => exact h.elim
    | cons G s => exact ⟨s, rfl⟩
  | t :: r, s, j + 1, h, hj => by
    cases s with
    | nil => exact h.elim
    | cons G s =>
      simp only [List.length_cons] at hj
      have h2 : Pol (s.length + kPt t) r := h
      obtain ⟨T, hT⟩ := ckA_hd (s := nxc t G s) (r := r) (j := j) (by rw [nxc, List.length_append, List.length_replicate, Nat.add_comm]; exact h2) (by omega)
      refine ⟨T, ?_⟩
      show ckA (nxc t G s) r j = _
      rw [hT]
      congr 1
      show _ = (EP r j j ++ _) ++ _
      rw [List.append_assoc]
      congr 1
      have hx := ixc_lt (r := r) (j := j) (n := 1) (by omega)
      show (nxc t G s).getD (ixc r j) [] = _ ++ (G :: s).getD (if ixc r j < kPt t then 0 else ixc r j - kPt t + 1) []
      by_cases c : ixc r j < kPt t
      · rw [if_pos c]
        have e1 : (nxc t G s).getD (ixc r j) [] = if kBd t then t / 16 % 32 :: G else G := by
          unfold nxc
          rw [List.getD_eq_getElem?_getD, List.getElem?_append_left (by simp; exact c), List.getElem?_replicate, if_pos c]
          rfl
        rw [e1]
        show _ = _ ++ G
        by_cases b : kBd t = true
        · have hp : kPt t = 1 := kPt_1 (by simpa [kBd] using b)
          have : j < tl r := hx.mp (by omega)
          rw [if_pos b, if_pos ⟨b, this⟩]
          rfl
        · rw [if_neg b, if_neg (fun q => b q.1)]
          rfl
      · rw [if_neg c]
        have e1 : (nxc t G s).getD (ixc r j) [] = s.getD (ixc r j - kPt t) [] := by
          unfold nxc
          rw [List.getD_eq_getElem?_getD, List.getElem?_append_right (by simp; omega), List.getD_eq_getElem?_getD, List.length_replicate]
        rw [e1]
        have e2 : (G :: s).getD (ixc r j - kPt t + 1) [] = s.getD (ixc r j - kPt t) [] := by
          rw [List.getD_eq_getElem?_getD, List.getD_eq_getElem?_getD, List.getElem?_cons_succ]
        rw [e2, if_neg]
        · rfl
        · rintro ⟨b, q⟩
          have hp : kPt t = 1 := kPt_1 (by simpa [kBd] using b)
          have := hx.mpr q
          omega
/-- the depth at place j: by the stack, and by the binders around it -/
theorem skA_hd {r : List Nat} {j : Nat} (h : Pol 1 r) (hj : j < r.length) : ∃ T, skA [0] r j = (EP r j j).length :: T := by
  obtain ⟨T, hT⟩ := ckA_hd (s := [[]]) (r := r) (j := j) h hj
  refine ⟨T.map List.length, ?_⟩
  have := skA_ckA (s := [[]]) (r := r) (j := j)
  rw [show ([[]] : List (List Nat)).map List.length = [0] from rfl] at this
  rw [this, hT]
  have e : ([[]] : List (List Nat)).getD (ixc r j) [] = [] := by
    cases ixc r j <;> rfl
  rw [e, List.append_nil]
  rfl
theorem skA_cons {y : List Nat} {t d : Nat} {k : List Nat} : ∀ {x : List Nat} {s : List Nat}, skA s (x ++ t :: y) x.length = d :: k → skA s (x ++ t :: y) (x.length + 1) = nxt t d k
  | [], s, h => by
    have h : s = d :: k := h
    subst h
    show skA (nxt t d k) y 0 = _
    cases nxt t d k <;> cases y <;> rfl
  | u :: x, [], h => by
    have h : ([] : List Nat) = d :: k := h
    cases h
  | u :: x, e :: s, h => skA_cons (x := x) (s := nxt u e s) h
theorem skA_0 (s r : List Nat) : skA s r 0 = s := by cases s <;> cases r <;> rfl
section Loc
variable {Ty : List (Nat × Nat)} {Cn : Nat → Option Nat}
/-- what holds of the token at each place -/
def locT (Ty : List (Nat × Nat)) (Cn : Nat → Option Nat) (G : List Nat) (r : List Nat) (j x : Nat) : Prop :=
  (x / 512 = 1 → Cn (x / 16 % 32) = some (x % 16)) ∧ (x / 512 = 2 → G[x / 16 % 32]? = some (x % 16)) ∧ (x / 512 = 3 → ∃ y, r[j + 1]? = some y ∧ arw Ty (x % 16) = some (x / 16 % 32, y % 16)) ∧ (x / 512 = 5 → ∃ y z, r[j + 1]? = some y ∧ arw Ty (y % 16) = some (z, x % 16)) ∧ (x / 512 = 4 ∨ 6 ≤ x / 512 → x % 16 = 0)
theorem chk_next {r : List Nat} {G : List Nat} {e : Nat} {s : List (List Nat × Nat)} (h : chk Ty Cn ((G, e) :: s) r) : ∃ y, r[0]? = some y ∧ y % 16 = e := by
  cases r with
  | nil => exact h.elim
  | cons t r => exact ⟨t, rfl, h.1.2.1⟩
theorem chk_loc : ∀ {r : List Nat} {s : List (List Nat × Nat)} {j x : Nat} {G : List Nat} {T : List (List Nat)}, chk Ty Cn s r → r[j]? = some x → ckA (s.map (·.1)) r j = G :: T → locT Ty Cn G r j x
  | [], _, j, x, G, T, _, hj, _ => by simp at hj
  | t :: r, [], _, _, _, _, h, _, _ => h.elim
  | t :: r, (G0, e) :: s, 0, x, G, T, h, hj, hc => by
    have ex : t = x := by simpa using hj
    subst ex
    have eG : G0 = G := (List.cons.inj hc).1
    subst eG
    obtain ⟨⟨h0, h00, -⟩, h⟩ := h
    unfold locT
    rw [h00]
    rcases h with ⟨h1, h⟩ | ⟨h1, h2, h⟩ | ⟨h1, h2, h⟩ | ⟨h1, b, h2, h⟩ | ⟨h1, h2, h⟩ | ⟨h1, f, z, h2, h⟩ | ⟨h1, h2, h⟩ | ⟨h1, h2, z, h⟩
    · exact ⟨fun q => by omega, fun q => by omega, fun q => by omega, fun q => by omega, fun q => by omega⟩
    · exact ⟨fun q => h2, fun q => by omega, fun q => by omega, fun q => by omega, fun q => by omega⟩
    · exact ⟨fun q => by omega, fun q => h2, fun q => by omega, fun q => by omega, fun q => by omega⟩
    · obtain ⟨y, hy1, hy2⟩ := chk_next h
      exact ⟨fun q => by omega, fun q => by omega, fun q => ⟨y, by simpa using hy1, by rw [hy2]; exact h2⟩, fun q => by omega, fun q => by omega⟩
    · exact ⟨fun q => by omega, fun q => by omega, fun q => by omega, fun q => by omega, fun q => h2⟩
    · obtain ⟨y, hy1, hy2⟩ := chk_next h
      exact ⟨fun q => by omega, fun q => by omega, fun q => by omega, fun q => ⟨y, z, by simpa using hy1, by rw [hy2]; exact h2⟩, fun q => by omega⟩
    · exact ⟨fun q => by omega, fun q => by omega, fun q => by omega, fun q => by omega, fun q => h2⟩
    · exact ⟨fun q => by omega, fun q => by omega, fun q => by omega, fun q => by omega, fun q => h2⟩
  | t :: r, (G0, e) :: s, j + 1, x, G, T, h, hj, hc => by
    have hj : r[j]? = some x := by simpa using hj
    have hc : ckA (nxc t G0 (s.map (·.1))) r j = G :: T := hc
    obtain ⟨⟨h0, h00, -⟩, h⟩ := h
    have go : ∀ {s2 : List (List Nat × Nat)}, s2.map (·.1) = nxc t G0 (s.map (·.1)) → chk Ty Cn s2 r → locT Ty Cn G (t :: r) (j + 1) x := by
      intro s2 e2 hs
      have := chk_loc hs hj (by rw [e2]; exact hc)
      unfold locT at this ⊢
      simpa using this
    have b0 : ∀ {c : Nat}, t / 512 = c → c < 3 → nxc t G0 (s.map (·.1)) = s.map (·.1) := by
      intro c h1 h2
      unfold nxc
      rw [kPt_0 (by omega)]
      rfl
    have b1 : t / 512 = 3 ∨ t / 512 = 4 → nxc t G0 (s.map (·.1)) = (t / 16 % 32 :: G0) :: s.map (·.1) := by
      intro h1
      unfold nxc
      rw [kPt_1 h1, if_pos (by simp [kBd]; exact h1)]
      rfl
    have b2 : 5 ≤ t / 512 → nxc t G0 (s.map (·.1)) = G0 :: G0 :: s.map (·.1) := by
      intro h1
      unfold nxc
      rw [kPt_2 h1, if_neg (by simp [kBd]; omega)]
      rfl
    rcases h with ⟨h1, h⟩ | ⟨h1, h2, h⟩ | ⟨h1, h2, h⟩ | ⟨h1, b, h2, h⟩ | ⟨h1, h2, h⟩ | ⟨h1, f, z, h2, h⟩ | ⟨h1, h2, h⟩ | ⟨h1, h2, z, h⟩
    · exact go (b0 h1 (by decide)).symm h
    · exact go (b0 h1 (by decide)).symm h
    · exact go (b0 h1 (by decide)).symm h
    · exact go (s2 := (t / 16 % 32 :: G0, b) :: s) (b1 (Or.inl h1)).symm h
    · exact go (s2 := (t / 16 % 32 :: G0, 0) :: s) (b1 (Or.inr h1)).symm h
    · exact go (s2 := (G0, f) :: (G0, z) :: s) (b2 (by omega)).symm h
    · exact go (s2 := (G0, 0) :: (G0, 0) :: s) (b2 (by omega)).symm h
    · exact go (s2 := (G0, z) :: (G0, z) :: s) (b2 (by omega)).symm h
/-- the same for a row by itself, with the binders around each place -/
theorem chk_locE {r : List Nat} {e j x : Nat} (h : chk Ty Cn [([], e)] r) (hj : r[j]? = some x) : locT Ty Cn (EP r j j) r j x := by
  obtain ⟨T, hT⟩ := ckA_hd (s := [[]]) (r := r) (j := j) (chk_pol h) (List.getElem?_eq_some_iff.mp hj).1
  have e : ([[]] : List (List Nat)).getD (ixc r j) [] = [] := by
    cases ixc r j <;> rfl
  rw [e, List.append_nil] at hT
  exact chk_loc h hj hT
end Loc
