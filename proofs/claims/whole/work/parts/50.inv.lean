/-! What the class's calls want of the state, out of its being typed. -/
theorem GS.tm {Ty : List (Nat × Nat)} {Tm : List (List Nat)} {Th : List Thm} (gs : GS Ty Tm Th) : TmOk Ty Tm := fun t row ht => by
  obtain ⟨hw, hl⟩ := gs.1.2.2 t row ht
  exact ⟨hw.pol, hl, fun x hx => ⟨(chk_gt hw x hx).1.1, (chk_gt hw x hx).2⟩⟩
theorem GS.th {Ty : List (Nat × Nat)} {Tm : List (List Nat)} {Th : List Thm} (gs : GS Ty Tm Th) : ThOk Tm Th := fun k rl x y h c hk => by
  obtain ⟨⟨A, hA, -⟩, hb⟩ := gs.2 k rl x y h c hk
  exact ⟨(List.getElem?_eq_some_iff.mp hA).1, hb⟩
theorem GS.okE {Ty : List (Nat × Nat)} {Tm : List (List Nat)} {Th : List Thm} (gs : GS Ty Tm Th) : ∀ (t : Nat) (row : List Nat), Tm[t]? = some row → tgR row = 7 → tyR (p2 row) = tyR (p1 row) := fun t row ht h7 => by
  obtain ⟨-, x, -, w1, w2, -⟩ := (gs.row ht).two (Or.inr h7)
  rw [w1.ty, w2.ty]
theorem WT.p1lt {Ty : List (Nat × Nat)} {Cn : Nat → Option Nat} {e : Nat} {r : List Nat} (h : WT Ty Cn e r) : tyR (p1 r) < 3 + Ty.length := by
  have hg : hdt r < 4096 := by
    obtain ⟨t, q, hr, hh⟩ := h.inv
    rw [hh]
    exact (h.gt t (by rw [hr]; exact List.mem_cons_self)).1
  rcases tag8 hg with c | c | c | c | c | c | c | c
  · rw [(h.var c).1]; exact Nat.lt_of_lt_of_le (show 0 < 3 by decide) (Nat.le_add_right 3 _)
  · cases r with
    | nil => exact h.elim
    | cons t q =>
      have c : t / 512 = 1 := c
      obtain ⟨-, h⟩ := h
      rcases h with ⟨h1, h⟩ | ⟨h1, h2, h⟩ | ⟨h1, h2, h⟩ | ⟨h1, b, h2, h⟩ | ⟨h1, h2, h⟩ | ⟨h1, f, z, h2, h⟩ | ⟨h1, h2, h⟩ | ⟨h1, h2, z, h⟩ <;> try omega
      rw [nil_of h]
      exact Nat.lt_of_lt_of_le (by decide : 0 < 3) (Nat.le_add_right 3 _)
  · cases r with
    | nil => exact h.elim
    | cons t q =>
      have c : t / 512 = 2 := c
      obtain ⟨-, h⟩ := h
      rcases h with ⟨h1, h⟩ | ⟨h1, h2, h⟩ | ⟨h1, h2, h⟩ | ⟨h1, b, h2, h⟩ | ⟨h1, h2, h⟩ | ⟨h1, f, z, h2, h⟩ | ⟨h1, h2, h⟩ | ⟨h1, h2, z, h⟩ <;> try omega
      rw [nil_of h]
      exact Nat.lt_of_lt_of_le (by decide : 0 < 3) (Nat.le_add_right 3 _)
  · obtain ⟨b, -, hb, -⟩ := h.abs c
    rw [show tyR (p1 r) = b from chk_ty hb]
    exact chk_lt hb
  · obtain ⟨hb, -⟩ := h.all c
    rw [show tyR (p1 r) = 0 from chk_ty hb]
    exact chk_lt hb
  · obtain ⟨f, x, -, w1, -⟩ := h.app c
    rw [w1.ty]; exact w1.lt
  · obtain ⟨-, x, -, w1, -⟩ := h.two (Or.inl c)
    rw [w1.ty]; exact w1.lt
  · obtain ⟨-, x, -, w1, -⟩ := h.two (Or.inr c)
    rw [w1.ty]; exact w1.lt
theorem GS.okP {Ty : List (Nat × Nat)} {Tm : List (List Nat)} {Th : List Thm} (gs : GS Ty Tm Th) : ∀ (t : Nat) (row : List Nat), Tm[t]? = some row → tyR (p1 row) < 3 + Ty.length := fun _ _ ht => (gs.row ht).p1lt
theorem GS_0 : GS [] [] [] := ⟨⟨List.nodup_nil, fun p hp => by simp at hp, fun t row ht => by simp at ht⟩, fun k rl x y h c hk => by simp at hk⟩
theorem lg_self (x : Int64) : lg_cmp x x = 0 := by unfold lg_cmp; simp
