/-! Typed rows: what holds of kept terms; the reference's tokens. -/
/-- the reference's token of a token -/
def mu (x : Nat) : Nat := if x / 512 = 0 then 64 + 16 * (x / 16 % 32) + x % 16 else if x / 512 = 1 then 240 + x / 16 % 32 else if x / 512 = 2 then 256 + x / 16 % 32 else if x / 512 = 3 then 16 + x / 16 % 32 else if x / 512 = 4 then 32 + x / 16 % 32 else if x / 512 = 5 then 1 else if x / 512 = 6 then 2 else 3
def mPt (c : Nat) : Nat := if c ≤ 3 then 2 else if c < 64 then 1 else 0
/-- a token that may stand in a row -/
def GT (x : Nat) : Prop := x < 4096 ∧ (x / 512 = 0 → x / 16 % 32 < 10) ∧ (x / 512 = 1 → x / 16 % 32 < 4) ∧ (x / 512 = 3 ∨ x / 512 = 4 → x / 16 % 32 < 16) ∧ (5 ≤ x / 512 → x / 16 % 32 = 0)
theorem tag8 {x : Nat} (h : x < 4096) : x / 512 = 0 ∨ x / 512 = 1 ∨ x / 512 = 2 ∨ x / 512 = 3 ∨ x / 512 = 4 ∨ x / 512 = 5 ∨ x / 512 = 6 ∨ x / 512 = 7 := by omega
theorem mu_lt (x : Nat) : mu x < 4096 := by unfold mu; (repeat' split) <;> omega
theorem mPt_mu {x : Nat} (h : GT x) : mPt (mu x) = kPt x := by
  obtain ⟨h0, h1, h2, h3, h4⟩ := h
  unfold mPt mu kPt
  rcases tag8 h0 with e | e | e | e | e | e | e | e <;> simp only [e] <;> simp <;> (repeat' split) <;> omega
/-- the reference's token tells all of a token but its type -/
theorem mu_tag {x y : Nat} (hx : GT x) (hy : GT y) (h : mu x = mu y) : x / 512 = y / 512 ∧ x / 16 % 32 = y / 16 % 32 ∧ (x / 512 = 0 → x = y) := by
  obtain ⟨h0, h1, h2, h3, h4⟩ := hx
  obtain ⟨g0, g1, g2, g3, g4⟩ := hy
  unfold mu at h
  rcases tag8 h0 with e | e | e | e | e | e | e | e <;> rcases tag8 g0 with f | f | f | f | f | f | f | f <;> simp only [e, f] at h <;> simp at h <;> simp only [e, f] at h1 h2 h3 h4 g1 g2 g3 g4 <;> simp at h1 h2 h3 h4 g1 g2 g3 g4 <;> first | (refine ⟨by omega, by omega, fun _ => by omega⟩; done) | (exfalso; omega)
def chk (Ty : List (Nat × Nat)) (Cn : Nat → Option Nat) : List (List Nat × Nat) → List Nat → Prop
  | [], [] => True
  | [], _ :: _ => False
  | _ :: _, [] => False
  | (G, e) :: s, t :: r => (GT t ∧ t % 16 = e ∧ e < 3 + Ty.length) ∧
      ((t / 512 = 0 ∧ chk Ty Cn s r) ∨ (t / 512 = 1 ∧ Cn (t / 16 % 32) = some e ∧ chk Ty Cn s r) ∨ (t / 512 = 2 ∧ G[t / 16 % 32]? = some e ∧ chk Ty Cn s r)
      ∨ (t / 512 = 3 ∧ ∃ b, arw Ty e = some (t / 16 % 32, b) ∧ chk Ty Cn ((t / 16 % 32 :: G, b) :: s) r) ∨ (t / 512 = 4 ∧ e = 0 ∧ chk Ty Cn ((t / 16 % 32 :: G, 0) :: s) r)
      ∨ (t / 512 = 5 ∧ ∃ f x, arw Ty f = some (x, e) ∧ chk Ty Cn ((G, f) :: (G, x) :: s) r) ∨ (t / 512 = 6 ∧ e = 0 ∧ chk Ty Cn ((G, 0) :: (G, 0) :: s) r) ∨ (t / 512 = 7 ∧ e = 0 ∧ ∃ x, chk Ty Cn ((G, x) :: (G, x) :: s) r))
section Chk
variable {Ty Ty2 : List (Nat × Nat)} {Cn Cn2 : Nat → Option Nat}
theorem chk_pol : ∀ {r : List Nat} {s : List (List Nat × Nat)}, chk Ty Cn s r → Pol s.length r
  | [], [], _ => rfl
  | t :: r, [], h => h.elim
  | [], _ :: _, h => h.elim
  | t :: r, (G, e) :: s, h => by
    show Pol (s.length + kPt t) r
    obtain ⟨-, h | ⟨h1, -, h⟩ | ⟨h1, -, h⟩ | ⟨h1, b, -, h⟩ | ⟨h1, -, h⟩ | ⟨h1, f, x, -, h⟩ | ⟨h1, -, h⟩ | ⟨h1, -, x, h⟩⟩ := h
    · rw [kPt_0 (by omega)]; exact chk_pol h.2
    · rw [kPt_0 (by omega)]; exact chk_pol h
    · rw [kPt_0 (by omega)]; exact chk_pol h
    · rw [kPt_1 (by omega)]; exact chk_pol h
    · rw [kPt_1 (by omega)]; exact chk_pol h
    · rw [kPt_2 (by omega)]; exact chk_pol h
    · rw [kPt_2 (by omega)]; exact chk_pol h
    · rw [kPt_2 (by omega)]; exact chk_pol h
theorem chk_gt : ∀ {r : List Nat} {s : List (List Nat × Nat)}, chk Ty Cn s r → ∀ x, x ∈ r → GT x ∧ x % 16 < 3 + Ty.length
  | [], _, _, x, hx => by simp at hx
  | t :: r, [], h, _, _ => h.elim
  | t :: r, (G, e) :: s, h, x, hx => by
    obtain ⟨⟨h0, h00, h000⟩, h⟩ := h
    rcases List.mem_cons.mp hx with rfl | hx
    · exact ⟨h0, by rw [h00]; exact h000⟩
    · rcases h with h | ⟨h1, -, h⟩ | ⟨h1, -, h⟩ | ⟨h1, b, -, h⟩ | ⟨h1, -, h⟩ | ⟨h1, f, y, -, h⟩ | ⟨h1, -, h⟩ | ⟨h1, -, y, h⟩
      · exact chk_gt h.2 x hx
      all_goals exact chk_gt h x hx
theorem chk_split : ∀ {r : List Nat} {s1 s2 : List (List Nat × Nat)}, chk Ty Cn (s1 ++ s2) r → ∃ x y, r = x ++ y ∧ chk Ty Cn s1 x ∧ chk Ty Cn s2 y
  | r, [], s2, h => ⟨[], r, rfl, trivial, h⟩
  | [], _ :: _, s2, h => h.elim
  | t :: r, (G, e) :: s1, s2, h => by
    obtain ⟨h0, h⟩ := h
    rcases h with ⟨h1, h⟩ | ⟨h1, h2, h⟩ | ⟨h1, h2, h⟩ | ⟨h1, b, h2, h⟩ | ⟨h1, h2, h⟩ | ⟨h1, f, z, h2, h⟩ | ⟨h1, h2, h⟩ | ⟨h1, h2, z, h⟩
    · obtain ⟨x, y, rfl, hx, hy⟩ := chk_split (s1 := s1) h
      exact ⟨t :: x, y, rfl, ⟨h0, Or.inl ⟨h1, hx⟩⟩, hy⟩
    · obtain ⟨x, y, rfl, hx, hy⟩ := chk_split (s1 := s1) h
      exact ⟨t :: x, y, rfl, ⟨h0, Or.inr (Or.inl ⟨h1, h2, hx⟩)⟩, hy⟩
    · obtain ⟨x, y, rfl, hx, hy⟩ := chk_split (s1 := s1) h
      exact ⟨t :: x, y, rfl, ⟨h0, Or.inr (Or.inr (Or.inl ⟨h1, h2, hx⟩))⟩, hy⟩
    · obtain ⟨x, y, rfl, hx, hy⟩ := chk_split (s1 := (t / 16 % 32 :: G, b) :: s1) h
      exact ⟨t :: x, y, rfl, ⟨h0, Or.inr (Or.inr (Or.inr (Or.inl ⟨h1, b, h2, hx⟩)))⟩, hy⟩
    · obtain ⟨x, y, rfl, hx, hy⟩ := chk_split (s1 := (t / 16 % 32 :: G, 0) :: s1) h
      exact ⟨t :: x, y, rfl, ⟨h0, Or.inr (Or.inr (Or.inr (Or.inr (Or.inl ⟨h1, h2, hx⟩))))⟩, hy⟩
    · obtain ⟨x, y, rfl, hx, hy⟩ := chk_split (s1 := (G, f) :: (G, z) :: s1) h
      exact ⟨t :: x, y, rfl, ⟨h0, Or.inr (Or.inr (Or.inr (Or.inr (Or.inr (Or.inl ⟨h1, f, z, h2, hx⟩)))))⟩, hy⟩
    · obtain ⟨x, y, rfl, hx, hy⟩ := chk_split (s1 := (G, 0) :: (G, 0) :: s1) h
      exact ⟨t :: x, y, rfl, ⟨h0, Or.inr (Or.inr (Or.inr (Or.inr (Or.inr (Or.inr (Or.inl ⟨h1, h2, hx⟩))))))⟩, hy⟩
    · obtain ⟨x, y, rfl, hx, hy⟩ := chk_split (s1 := (G, z) :: (G, z) :: s1) h
      exact ⟨t :: x, y, rfl, ⟨h0, Or.inr (Or.inr (Or.inr (Or.inr (Or.inr (Or.inr (Or.inr ⟨h1, h2, z, hx⟩))))))⟩, hy⟩
theorem chk_app : ∀ {x y : List Nat} {s1 s2 : List (List Nat × Nat)}, chk Ty Cn s1 x → chk Ty Cn s2 y → chk Ty Cn (s1 ++ s2) (x ++ y)
  | [], y, [], s2, _, g => g
  | [], y, _ :: _, s2, h, _ => h.elim
  | t :: x, y, [], s2, h, _ => h.elim
  | t :: x, y, (G, e) :: s1, s2, h, g => by
    obtain ⟨h0, h⟩ := h
    refine ⟨h0, ?_⟩
    rcases h with ⟨h1, h⟩ | ⟨h1, h2, h⟩ | ⟨h1, h2, h⟩ | ⟨h1, b, h2, h⟩ | ⟨h1, h2, h⟩ | ⟨h1, f, z, h2, h⟩ | ⟨h1, h2, h⟩ | ⟨h1, h2, z, h⟩
    · exact Or.inl ⟨h1, chk_app h g⟩
    · exact Or.inr (Or.inl ⟨h1, h2, chk_app h g⟩)
    · exact Or.inr (Or.inr (Or.inl ⟨h1, h2, chk_app h g⟩))
    · exact Or.inr (Or.inr (Or.inr (Or.inl ⟨h1, b, h2, chk_app (s1 := (t / 16 % 32 :: G, b) :: s1) h g⟩)))
    · exact Or.inr (Or.inr (Or.inr (Or.inr (Or.inl ⟨h1, h2, chk_app (s1 := (t / 16 % 32 :: G, 0) :: s1) h g⟩))))
    · exact Or.inr (Or.inr (Or.inr (Or.inr (Or.inr (Or.inl ⟨h1, f, z, h2, chk_app (s1 := (G, f) :: (G, z) :: s1) h g⟩)))))
    · exact Or.inr (Or.inr (Or.inr (Or.inr (Or.inr (Or.inr (Or.inl ⟨h1, h2, chk_app (s1 := (G, 0) :: (G, 0) :: s1) h g⟩))))))
    · exact Or.inr (Or.inr (Or.inr (Or.inr (Or.inr (Or.inr (Or.inr ⟨h1, h2, z, chk_app (s1 := (G, z) :: (G, z) :: s1) h g⟩))))))
/-- more is known: longer contexts -/
def cle : List (List Nat × Nat) → List (List Nat × Nat) → Prop
  | [], [] => True
  | (G, e) :: s, (G2, e2) :: s2 => (e = e2 ∧ ∀ (k v : Nat), G[k]? = some v → G2[k]? = some v) ∧ cle s s2
  | _, _ => False
theorem cle_rf : ∀ {s : List (List Nat × Nat)}, cle s s
  | [] => trivial
  | (G, e) :: s => ⟨⟨rfl, fun _ _ h => h⟩, cle_rf⟩
theorem ctx_up {G G2 : List Nat} (b : Nat) (h : ∀ (k v : Nat), G[k]? = some v → G2[k]? = some v) : ∀ (k v : Nat), (b :: G)[k]? = some v → (b :: G2)[k]? = some v := fun k v hk => by
  cases k with
  | zero => exact hk
  | succ k =>
    rw [List.getElem?_cons_succ] at hk ⊢
    exact h k v hk
def ext (Ty Ty2 : List (Nat × Nat)) : Prop := Ty.length ≤ Ty2.length ∧ ∀ (z : Nat) (p : Nat × Nat), Ty[z]? = some p → Ty2[z]? = some p
theorem ext.rf : ext Ty Ty := ⟨Nat.le_refl _, fun _ _ h => h⟩
theorem ext.ar {t : Nat} {p : Nat × Nat} (h : ext Ty Ty2) (g : arw Ty t = some p) : arw Ty2 t = some p := by
  unfold arw at *
  split at g
  · rename_i c; rw [if_pos c]; exact h.2 _ _ g
  · cases g
theorem chk_mono (hT : ext Ty Ty2) (hC : ∀ (n t : Nat), Cn n = some t → Cn2 n = some t) : ∀ {r : List Nat} {s s2 : List (List Nat × Nat)}, cle s s2 → chk Ty Cn s r → chk Ty2 Cn2 s2 r
  | [], [], [], _, _ => trivial
  | [], [], _ :: _, h, _ => h.elim
  | [], _ :: _, _, _, h => h.elim
  | t :: r, [], _, _, h => h.elim
  | t :: r, (G, e) :: s, [], h, _ => h.elim
  | t :: r, (G, e) :: s, (G2, e2) :: s2, ⟨⟨he, hG⟩, hs⟩, h => by
    subst he
    obtain ⟨⟨h0, h00, h000⟩, h⟩ := h
    refine ⟨⟨h0, h00, Nat.lt_of_lt_of_le h000 (Nat.add_le_add_left hT.1 3)⟩, ?_⟩
    rcases h with ⟨h1, h⟩ | ⟨h1, h2, h⟩ | ⟨h1, h2, h⟩ | ⟨h1, b, h2, h⟩ | ⟨h1, h2, h⟩ | ⟨h1, f, z, h2, h⟩ | ⟨h1, h2, h⟩ | ⟨h1, h2, z, h⟩
    · exact Or.inl ⟨h1, chk_mono hT hC hs h⟩
    · exact Or.inr (Or.inl ⟨h1, hC _ _ h2, chk_mono hT hC hs h⟩)
    · exact Or.inr (Or.inr (Or.inl ⟨h1, hG _ _ h2, chk_mono hT hC hs h⟩))
    · exact Or.inr (Or.inr (Or.inr (Or.inl ⟨h1, b, hT.ar h2, chk_mono hT hC (s := (t / 16 % 32 :: G, b) :: s) ⟨⟨rfl, ctx_up _ hG⟩, hs⟩ h⟩)))
    · exact Or.inr (Or.inr (Or.inr (Or.inr (Or.inl ⟨h1, h2, chk_mono hT hC (s := (t / 16 % 32 :: G, 0) :: s) ⟨⟨rfl, ctx_up _ hG⟩, hs⟩ h⟩))))
    · exact Or.inr (Or.inr (Or.inr (Or.inr (Or.inr (Or.inl ⟨h1, f, z, hT.ar h2, chk_mono hT hC (s := (G, f) :: (G, z) :: s) ⟨⟨rfl, hG⟩, ⟨rfl, hG⟩, hs⟩ h⟩)))))
    · exact Or.inr (Or.inr (Or.inr (Or.inr (Or.inr (Or.inr (Or.inl ⟨h1, h2, chk_mono hT hC (s := (G, 0) :: (G, 0) :: s) ⟨⟨rfl, hG⟩, ⟨rfl, hG⟩, hs⟩ h⟩))))))
    · exact Or.inr (Or.inr (Or.inr (Or.inr (Or.inr (Or.inr (Or.inr ⟨h1, h2, z, chk_mono hT hC (s := (G, z) :: (G, z) :: s) ⟨⟨rfl, hG⟩, ⟨rfl, hG⟩, hs⟩ h⟩))))))
/-- the head's type is the row's -/
theorem chk_ty {r : List Nat} {G : List Nat} {e : Nat} {s : List (List Nat × Nat)} (h : chk Ty Cn ((G, e) :: s) r) : hdt r % 16 = e := by
  cases r with
  | nil => exact h.elim
  | cons t r => exact h.1.2.1
theorem chk_lt {r : List Nat} {G : List Nat} {e : Nat} {s : List (List Nat × Nat)} (h : chk Ty Cn ((G, e) :: s) r) : e < 3 + Ty.length := by
  cases r with
  | nil => exact h.elim
  | cons t r => exact h.1.2.2
theorem chk_weak {r : List Nat} {e : Nat} (G : List Nat) (h : chk Ty Cn [([], e)] r) : chk Ty Cn [(G, e)] r := chk_mono (s := [([], e)]) ext.rf (fun _ _ h => h) ⟨⟨rfl, fun k v hk => by simp at hk⟩, trivial⟩ h
theorem Pol_mu : ∀ {x y u w : List Nat} {n : Nat}, Pol n x → Pol n y → (∀ z, z ∈ x ++ u → GT z) → (∀ z, z ∈ y ++ w → GT z) → (x ++ u).map mu = (y ++ w).map mu → x.length = y.length
  | [], y, u, w, n, h, g, _, _, _ => by
    have e : n = 0 := h
    rw [e] at g
    rw [Pol_0 g]
  | t :: x, [], u, w, n, h, g, _, _, _ => by
    have e : n = 0 := g
    rw [e] at h
    exact h.elim
  | t :: x, t2 :: y, u, w, n, h, g, hx, hy, e => by
    obtain ⟨m, rfl, h2⟩ := Pol_cons h
    have g2 : Pol (m + kPt t2) y := g
    have e1 : mu t = mu t2 := (List.cons.inj e).1
    have e2 : (x ++ u).map mu = (y ++ w).map mu := (List.cons.inj e).2
    have k : kPt t = kPt t2 := by rw [← mPt_mu (hx t List.mem_cons_self), ← mPt_mu (hy t2 List.mem_cons_self), e1]
    rw [← k] at g2
    have := Pol_mu h2 g2 (fun z hz => hx z (List.mem_cons_of_mem _ hz)) (fun z hz => hy z (List.mem_cons_of_mem _ hz)) e2
    simp [this]
theorem arw_inj (nd : Ty.Nodup) {s t : Nat} {p : Nat × Nat} (h : arw Ty s = some p) (g : arw Ty t = some p) : s = t := by
  unfold arw at h g
  split at h
  · split at g
    · obtain ⟨h1, e1⟩ := List.getElem?_eq_some_iff.mp h
      obtain ⟨g1, e2⟩ := List.getElem?_eq_some_iff.mp g
      have := (List.getElem_inj nd (i := s - 3) (j := t - 3) (h₀ := h1) (h₁ := g1)).mp (e1.trans e2.symm)
      omega
    · cases g
  · cases h
/-- rows that the reference can't tell apart are the same -/
theorem chk_inj (nd : Ty.Nodup) : ∀ (n : Nat) {r q : List Nat} {G : List Nat} {e f : Nat}, r.length ≤ n → chk Ty Cn [(G, e)] r → chk Ty Cn [(G, f)] q → r.map mu = q.map mu → r = q
  | 0, r, q, G, e, f, hl, h, _, _ => by
    have : r = [] := List.eq_nil_of_length_eq_zero (by omega)
    subst this
    exact h.elim
  | n + 1, r, q, G, e, f, hl, h, g, hm => by
    cases r with
    | nil => exact h.elim
    | cons t r =>
      cases q with
      | nil => exact g.elim
      | cons u q =>
        have hm1 : mu t = mu u := (List.cons.inj hm).1
        have hm2 : r.map mu = q.map mu := (List.cons.inj hm).2
        have hgr := chk_gt h
        have hgq := chk_gt g
        simp only [List.length_cons] at hl
        obtain ⟨⟨h0, h00, -⟩, h⟩ := h
        obtain ⟨⟨g0, g00, -⟩, g⟩ := g
        obtain ⟨m1, m2, m3⟩ := mu_tag h0 g0 hm1
        have fin : e = f → t = u := by
          intro ef
          have := h0.1
          have := g0.1
          rw [← h00, ← g00] at ef
          omega
        have nilc : ∀ {z : List Nat}, chk Ty Cn [] z → z = [] := fun {z} hz => by
          cases z with
          | nil => rfl
          | cons _ _ => exact hz.elim
        rcases h with ⟨h1, h⟩ | ⟨h1, h2, h⟩ | ⟨h1, h2, h⟩ | ⟨h1, b, h2, h⟩ | ⟨h1, h2, h⟩ | ⟨h1, fa, x, h2, h⟩ | ⟨h1, h2, h⟩ | ⟨h1, h2, x, h⟩
        · have hr := nilc h
          subst hr
          have hq : q = [] := by simpa using hm2.symm
          rw [hq, m3 h1]
        · rcases g with ⟨g1, g⟩ | ⟨g1, g2, g⟩ | ⟨g1, g2, g⟩ | ⟨g1, c, g2, g⟩ | ⟨g1, g2, g⟩ | ⟨g1, fb, y, g2, g⟩ | ⟨g1, g2, g⟩ | ⟨g1, g2, y, g⟩ <;> try omega
          rw [m2] at h2
          rw [nilc h, nilc g, fin (Option.some.inj (h2.symm.trans g2))]
        · rcases g with ⟨g1, g⟩ | ⟨g1, g2, g⟩ | ⟨g1, g2, g⟩ | ⟨g1, c, g2, g⟩ | ⟨g1, g2, g⟩ | ⟨g1, fb, y, g2, g⟩ | ⟨g1, g2, g⟩ | ⟨g1, g2, y, g⟩ <;> try omega
          rw [m2] at h2
          rw [nilc h, nilc g, fin (Option.some.inj (h2.symm.trans g2))]
        · rcases g with ⟨g1, g⟩ | ⟨g1, g2, g⟩ | ⟨g1, g2, g⟩ | ⟨g1, c, g2, g⟩ | ⟨g1, g2, g⟩ | ⟨g1, fb, y, g2, g⟩ | ⟨g1, g2, g⟩ | ⟨g1, g2, y, g⟩ <;> try omega
          rw [m2] at h h2
          have er := chk_inj nd n (by omega) h g hm2
          subst er
          have eb : b = c := by rw [← chk_ty h, ← chk_ty g]
          subst eb
          rw [fin (arw_inj nd h2 g2)]
        · rcases g with ⟨g1, g⟩ | ⟨g1, g2, g⟩ | ⟨g1, g2, g⟩ | ⟨g1, c, g2, g⟩ | ⟨g1, g2, g⟩ | ⟨g1, fb, y, g2, g⟩ | ⟨g1, g2, g⟩ | ⟨g1, g2, y, g⟩ <;> try omega
          rw [m2] at h
          have er := chk_inj nd n (by omega) h g hm2
          rw [er, fin (by rw [h2, g2])]
        · rcases g with ⟨g1, g⟩ | ⟨g1, g2, g⟩ | ⟨g1, g2, g⟩ | ⟨g1, c, g2, g⟩ | ⟨g1, g2, g⟩ | ⟨g1, fb, y, g2, g⟩ | ⟨g1, g2, g⟩ | ⟨g1, g2, y, g⟩ <;> try omega
          obtain ⟨x1, x2, rfl, hx1, hx2⟩ := chk_split (s1 := [(G, fa)]) (s2 := [(G, x)]) h
          obtain ⟨y1, y2, rfl, hy1, hy2⟩ := chk_split (s1 := [(G, fb)]) (s2 := [(G, y)]) g
          have hl1 := Pol_mu (n := 1) (chk_pol hx1) (chk_pol hy1) (fun z hz => (hgr z (List.mem_cons_of_mem _ hz)).1) (fun z hz => (hgq z (List.mem_cons_of_mem _ hz)).1) hm2
          rw [List.map_append, List.map_append] at hm2
          obtain ⟨e1, e2⟩ := List.append_inj hm2 (by simp [hl1])
          simp only [List.length_append] at hl
          have er := chk_inj nd n (by omega) hx1 hy1 e1
          have eq := chk_inj nd n (by omega) hx2 hy2 e2
          subst er
          subst eq
          have ef : fa = fb := by rw [← chk_ty hx1, ← chk_ty hy1]
          subst ef
          have := h2.symm.trans g2
          rw [fin (Prod.mk.inj (Option.some.inj this)).2]
        · rcases g with ⟨g1, g⟩ | ⟨g1, g2, g⟩ | ⟨g1, g2, g⟩ | ⟨g1, c, g2, g⟩ | ⟨g1, g2, g⟩ | ⟨g1, fb, y, g2, g⟩ | ⟨g1, g2, g⟩ | ⟨g1, g2, y, g⟩ <;> try omega
          obtain ⟨x1, x2, rfl, hx1, hx2⟩ := chk_split (s1 := [(G, 0)]) (s2 := [(G, 0)]) h
          obtain ⟨y1, y2, rfl, hy1, hy2⟩ := chk_split (s1 := [(G, 0)]) (s2 := [(G, 0)]) g
          have hl1 := Pol_mu (n := 1) (chk_pol hx1) (chk_pol hy1) (fun z hz => (hgr z (List.mem_cons_of_mem _ hz)).1) (fun z hz => (hgq z (List.mem_cons_of_mem _ hz)).1) hm2
          rw [List.map_append, List.map_append] at hm2
          obtain ⟨e1, e2⟩ := List.append_inj hm2 (by simp [hl1])
          simp only [List.length_append] at hl
          rw [chk_inj nd n (by omega) hx1 hy1 e1, chk_inj nd n (by omega) hx2 hy2 e2, fin (by rw [h2, g2])]
        · rcases g with ⟨g1, g⟩ | ⟨g1, g2, g⟩ | ⟨g1, g2, g⟩ | ⟨g1, c, g2, g⟩ | ⟨g1, g2, g⟩ | ⟨g1, fb, y, g2, g⟩ | ⟨g1, g2, g⟩ | ⟨g1, g2, y, g⟩ <;> try omega
          obtain ⟨x1, x2, rfl, hx1, hx2⟩ := chk_split (s1 := [(G, x)]) (s2 := [(G, x)]) h
          obtain ⟨y1, y2, rfl, hy1, hy2⟩ := chk_split (s1 := [(G, y)]) (s2 := [(G, y)]) g
          have hl1 := Pol_mu (n := 1) (chk_pol hx1) (chk_pol hy1) (fun z hz => (hgr z (List.mem_cons_of_mem _ hz)).1) (fun z hz => (hgq z (List.mem_cons_of_mem _ hz)).1) hm2
          rw [List.map_append, List.map_append] at hm2
          obtain ⟨e1, e2⟩ := List.append_inj hm2 (by simp [hl1])
          simp only [List.length_append] at hl
          rw [chk_inj nd n (by omega) hx1 hy1 e1, chk_inj nd n (by omega) hx2 hy2 e2, fin (by rw [h2, g2])]
end Chk
