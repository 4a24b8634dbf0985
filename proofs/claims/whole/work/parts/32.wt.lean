/-! Typed rows under binding, filling and replacing. -/
theorem nx0 {t d : Nat} {s : List Nat} (h : t / 512 < 3) : nxt t d s = s := by unfold nxt; rw [kPt_0 h]; rfl
theorem nx1 {t d : Nat} {s : List Nat} (h : t / 512 = 3 ∨ t / 512 = 4) : nxt t d s = (d + 1) :: s := by
  unfold nxt
  rw [kPt_1 h, if_pos (by simp [kBd]; exact h)]
  rfl
theorem nx2 {t d : Nat} {s : List Nat} (h : 5 ≤ t / 512) : nxt t d s = d :: d :: s := by
  unfold nxt
  rw [kPt_2 h, if_neg (by simp [kBd]; omega)]
  rfl
abbrev cUp (b : Nat) (s : List (List Nat × Nat)) : List (List Nat × Nat) := s.map (fun p => (p.1 ++ [b], p.2))
abbrev cLn (s : List (List Nat × Nat)) : List Nat := s.map (fun p => p.1.length)
theorem GT_tok {t i y : Nat} (ht : t < 8) (hi : i < 32) (hy : y < 16) (h0 : t = 0 → i < 10) (h1 : t = 1 → i < 4) (h3 : t = 3 ∨ t = 4 → i < 16) (h5 : 5 ≤ t → i = 0) : GT (tok t i y) := by
  refine ⟨tok_lt ht hi hy, ?_, ?_, ?_, ?_⟩ <;> rw [tok_tg hi hy, tok_in hi hy]
  · exact h0
  · exact h1
  · exact h3
  · exact h5
section WT
variable {Ty : List (Nat × Nat)} {Cn : Nat → Option Nat}
theorem cls_chk {v : Nat} (hv : v / 512 = 0) : ∀ {r : List Nat} {s : List (List Nat × Nat)}, (∀ p, p ∈ s → p.1.length + r.length ≤ 31) → chk Ty Cn s r → chk Ty Cn (cUp (v % 16) s) (cls v (cLn s) r)
  | [], [], _, _ => trivial
  | [], _ :: _, _, h => h.elim
  | t :: r, [], _, h => h.elim
  | t :: r, (G, e) :: s, hb, h => by
    obtain ⟨⟨h0, h00, h000⟩, h⟩ := h
    have hG := hb (G, e) List.mem_cons_self
    simp only [List.length_cons] at hG
    have hb2 : ∀ p, p ∈ s → p.1.length + r.length ≤ 31 := fun p hp => by
      have := hb p (List.mem_cons_of_mem _ hp)
      simp only [List.length_cons] at this
      omega
    show chk Ty Cn ((G ++ [v % 16], e) :: cUp (v % 16) s) ((if t = v then tok 2 G.length (v % 16) else t) :: cls v (nxt t G.length (cLn s)) r)
    by_cases e1 : t = v
    · subst e1
      rw [if_pos rfl]
      rcases h with ⟨h1, h⟩ | ⟨h1, -⟩ | ⟨h1, -⟩ | ⟨h1, -⟩ | ⟨h1, -⟩ | ⟨h1, -⟩ | ⟨h1, -⟩ | ⟨h1, -⟩ <;> try omega
      rw [nx0 (by omega)]
      refine ⟨⟨GT_tok (by decide) (by omega) (by omega) (fun q => by omega) (fun q => by omega) (fun q => by omega) (fun q => by omega), by rw [tok_ty (by omega)]; exact h00, h000⟩, ?_⟩
      rw [tok_tg (by omega) (by omega), tok_in (by omega) (by omega)]
      exact Or.inr (Or.inr (Or.inl ⟨rfl, by rw [← h00]; simp, cls_chk hv hb2 h⟩))
    · rw [if_neg e1]
      refine ⟨⟨h0, h00, h000⟩, ?_⟩
      have ctx : ∀ (k z : Nat), G[k]? = some z → (G ++ [v % 16])[k]? = some z := fun k z hk => by
        rw [List.getElem?_append_left (List.getElem?_eq_some_iff.mp hk).1]; exact hk
      rcases h with ⟨h1, h⟩ | ⟨h1, h2, h⟩ | ⟨h1, h2, h⟩ | ⟨h1, b, h2, h⟩ | ⟨h1, h2, h⟩ | ⟨h1, f, z, h2, h⟩ | ⟨h1, h2, h⟩ | ⟨h1, h2, z, h⟩
      · rw [nx0 (by omega)]
        exact Or.inl ⟨h1, cls_chk hv hb2 h⟩
      · rw [nx0 (by omega)]
        exact Or.inr (Or.inl ⟨h1, h2, cls_chk hv hb2 h⟩)
      · rw [nx0 (by omega)]
        exact Or.inr (Or.inr (Or.inl ⟨h1, ctx _ _ h2, cls_chk hv hb2 h⟩))
      · rw [nx1 (Or.inl h1)]
        exact Or.inr (Or.inr (Or.inr (Or.inl ⟨h1, b, h2, cls_chk hv (s := (t / 16 % 32 :: G, b) :: s) (fun p hp => by rcases List.mem_cons.mp hp with rfl | hp; (simp; omega); exact hb2 p hp) h⟩)))
      · rw [nx1 (Or.inr h1)]
        exact Or.inr (Or.inr (Or.inr (Or.inr (Or.inl ⟨h1, h2, cls_chk hv (s := (t / 16 % 32 :: G, 0) :: s) (fun p hp => by rcases List.mem_cons.mp hp with rfl | hp; (simp; omega); exact hb2 p hp) h⟩))))
      · rw [nx2 (by omega)]
        exact Or.inr (Or.inr (Or.inr (Or.inr (Or.inr (Or.inl ⟨h1, f, z, h2, cls_chk hv (s := (G, f) :: (G, z) :: s) (fun p hp => by rcases List.mem_cons.mp hp with rfl | hp; (simp; omega); rcases List.mem_cons.mp hp with rfl | hp; (simp; omega); exact hb2 p hp) h⟩)))))
      · rw [nx2 (by omega)]
        exact Or.inr (Or.inr (Or.inr (Or.inr (Or.inr (Or.inr (Or.inl ⟨h1, h2, cls_chk hv (s := (G, 0) :: (G, 0) :: s) (fun p hp => by rcases List.mem_cons.mp hp with rfl | hp; (simp; omega); rcases List.mem_cons.mp hp with rfl | hp; (simp; omega); exact hb2 p hp) h⟩))))))
      · rw [nx2 (by omega)]
        exact Or.inr (Or.inr (Or.inr (Or.inr (Or.inr (Or.inr (Or.inr ⟨h1, h2, z, cls_chk hv (s := (G, z) :: (G, z) :: s) (fun p hp => by rcases List.mem_cons.mp hp with rfl | hp; (simp; omega); rcases List.mem_cons.mp hp with rfl | hp; (simp; omega); exact hb2 p hp) h⟩))))))
theorem fil_chk {b : Nat} {f : List Nat} (hf : chk Ty Cn [([], b)] f) : ∀ {r : List Nat} {s : List (List Nat × Nat)}, chk Ty Cn (cUp b s) r → chk Ty Cn s (fil f (cLn s) r)
  | [], [], _ => trivial
  | [], _ :: _, h => h.elim
  | t :: r, [], h => h.elim
  | t :: r, (G, e) :: s, h => by
    obtain ⟨⟨h0, h00, h000⟩, h⟩ := h
    show chk Ty Cn ((G, e) :: s) ((if t / 512 = 2 ∧ t / 16 % 32 = G.length then f else [t]) ++ fil f (nxt t G.length (cLn s)) r)
    by_cases e1 : t / 512 = 2 ∧ t / 16 % 32 = G.length
    · rw [if_pos e1, nx0 (by omega)]
      rcases h with ⟨h1, h⟩ | ⟨h1, h2, h⟩ | ⟨h1, h2, h⟩ | ⟨h1, b, h2, h⟩ | ⟨h1, h2, h⟩ | ⟨h1, f, z, h2, h⟩ | ⟨h1, h2, h⟩ | ⟨h1, h2, z, h⟩ <;> try omega
      rw [e1.2] at h2
      have eb : b = e := by simpa using h2
      subst eb
      exact chk_app (s1 := [(G, b)]) (chk_weak G hf) (fil_chk hf h)
    · rw [if_neg e1]
      refine ⟨⟨h0, h00, h000⟩, ?_⟩
      rcases h with ⟨h1, h⟩ | ⟨h1, h2, h⟩ | ⟨h1, h2, h⟩ | ⟨h1, b, h2, h⟩ | ⟨h1, h2, h⟩ | ⟨h1, f, z, h2, h⟩ | ⟨h1, h2, h⟩ | ⟨h1, h2, z, h⟩
      · rw [nx0 (by omega)]
        exact Or.inl ⟨h1, fil_chk hf h⟩
      · rw [nx0 (by omega)]
        exact Or.inr (Or.inl ⟨h1, h2, fil_chk hf h⟩)
      · rw [nx0 (by omega)]
        have hl := (List.getElem?_eq_some_iff.mp h2).1
        have hl2 : t / 16 % 32 < G.length := by
          have hne : t / 16 % 32 ≠ G.length := fun q => e1 ⟨h1, q⟩
          simp at hl
          omega
        rw [List.getElem?_append_left hl2] at h2
        exact Or.inr (Or.inr (Or.inl ⟨h1, h2, fil_chk hf h⟩))
      · rw [nx1 (Or.inl h1)]
        exact Or.inr (Or.inr (Or.inr (Or.inl ⟨h1, _, h2, fil_chk hf (s := (t / 16 % 32 :: G, _) :: s) h⟩)))
      · rw [nx1 (Or.inr h1)]
        exact Or.inr (Or.inr (Or.inr (Or.inr (Or.inl ⟨h1, h2, fil_chk hf (s := (t / 16 % 32 :: G, 0) :: s) h⟩))))
      · rw [nx2 (by omega)]
        exact Or.inr (Or.inr (Or.inr (Or.inr (Or.inr (Or.inl ⟨h1, _, z, h2, fil_chk hf (s := (G, _) :: (G, z) :: s) h⟩)))))
      · rw [nx2 (by omega)]
        exact Or.inr (Or.inr (Or.inr (Or.inr (Or.inr (Or.inr (Or.inl ⟨h1, h2, fil_chk hf (s := (G, 0) :: (G, 0) :: s) h⟩))))))
      · rw [nx2 (by omega)]
        exact Or.inr (Or.inr (Or.inr (Or.inr (Or.inr (Or.inr (Or.inr ⟨h1, h2, z, fil_chk hf (s := (G, z) :: (G, z) :: s) h⟩))))))
theorem rpl_chk {v : Nat} {f : List Nat} (hv : v / 512 = 0) (hf : chk Ty Cn [([], v % 16)] f) : ∀ {r : List Nat} {s : List (List Nat × Nat)}, chk Ty Cn s r → chk Ty Cn s (rpl v f r)
  | [], _, h => h
  | t :: r, [], h => h.elim
  | t :: r, (G, e) :: s, h => by
    obtain ⟨⟨h0, h00, h000⟩, h⟩ := h
    show chk Ty Cn ((G, e) :: s) ((if t = v then f else [t]) ++ rpl v f r)
    by_cases e1 : t = v
    · subst e1
      rw [if_pos rfl]
      rcases h with ⟨h1, h⟩ | ⟨h1, -⟩ | ⟨h1, -⟩ | ⟨h1, -⟩ | ⟨h1, -⟩ | ⟨h1, -⟩ | ⟨h1, -⟩ | ⟨h1, -⟩ <;> try omega
      rw [h00] at hf
      exact chk_app (s1 := [(G, e)]) (chk_weak G hf) (rpl_chk hv (by rw [h00]; exact hf) h)
    · rw [if_neg e1]
      refine ⟨⟨h0, h00, h000⟩, ?_⟩
      rcases h with ⟨h1, h⟩ | ⟨h1, h2, h⟩ | ⟨h1, h2, h⟩ | ⟨h1, b, h2, h⟩ | ⟨h1, h2, h⟩ | ⟨h1, g, z, h2, h⟩ | ⟨h1, h2, h⟩ | ⟨h1, h2, z, h⟩
      · exact Or.inl ⟨h1, rpl_chk hv hf h⟩
      · exact Or.inr (Or.inl ⟨h1, h2, rpl_chk hv hf h⟩)
      · exact Or.inr (Or.inr (Or.inl ⟨h1, h2, rpl_chk hv hf h⟩))
      · exact Or.inr (Or.inr (Or.inr (Or.inl ⟨h1, b, h2, rpl_chk hv hf h⟩)))
      · exact Or.inr (Or.inr (Or.inr (Or.inr (Or.inl ⟨h1, h2, rpl_chk hv hf h⟩))))
      · exact Or.inr (Or.inr (Or.inr (Or.inr (Or.inr (Or.inl ⟨h1, g, z, h2, rpl_chk hv hf h⟩)))))
      · exact Or.inr (Or.inr (Or.inr (Or.inr (Or.inr (Or.inr (Or.inl ⟨h1, h2, rpl_chk hv hf h⟩))))))
      · exact Or.inr (Or.inr (Or.inr (Or.inr (Or.inr (Or.inr (Or.inr ⟨h1, h2, z, rpl_chk hv hf h⟩))))))
/-- a closed typed row -/
def WT (Ty : List (Nat × Nat)) (Cn : Nat → Option Nat) (e : Nat) (r : List Nat) : Prop := chk Ty Cn [([], e)] r
theorem WT.ty {e : Nat} {r : List Nat} (h : WT Ty Cn e r) : tyR r = e := chk_ty h
theorem WT.pol {e : Nat} {r : List Nat} (h : WT Ty Cn e r) : Pol 1 r := chk_pol h
theorem nil_of {z : List Nat} (h : chk Ty Cn [] z) : z = [] := by
  cases z with
  | nil => rfl
  | cons _ _ => exact h.elim
theorem WT.inv {e : Nat} {r : List Nat} (h : WT Ty Cn e r) : ∃ t q, r = t :: q ∧ hdt r = t := by
  cases r with
  | nil => exact h.elim
  | cons t q => exact ⟨t, q, rfl, rfl⟩
theorem WT.var {e : Nat} {r : List Nat} (h : WT Ty Cn e r) (g : tgR r = 0) : r = [hdt r] ∧ hdt r % 16 = e := by
  cases r with
  | nil => exact h.elim
  | cons t q =>
    have g : t / 512 = 0 := g
    obtain ⟨⟨h0, h00, h000⟩, h⟩ := h
    rcases h with ⟨h1, h⟩ | ⟨h1, h2, h⟩ | ⟨h1, h2, h⟩ | ⟨h1, b, h2, h⟩ | ⟨h1, h2, h⟩ | ⟨h1, f, z, h2, h⟩ | ⟨h1, h2, h⟩ | ⟨h1, h2, z, h⟩ <;> try omega
    rw [nil_of h]
    exact ⟨rfl, h00⟩
theorem WT.abs {e : Nat} {r : List Nat} (h : WT Ty Cn e r) (g : tgR r = 3) : ∃ b, arw Ty e = some (inR r, b) ∧ chk Ty Cn [([inR r], b)] (p1 r) ∧ r = hdt r :: p1 r := by
  cases r with
  | nil => exact h.elim
  | cons t q =>
    have g : t / 512 = 3 := g
    obtain ⟨⟨h0, h00, h000⟩, h⟩ := h
    rcases h with ⟨h1, h⟩ | ⟨h1, h2, h⟩ | ⟨h1, h2, h⟩ | ⟨h1, b, h2, h⟩ | ⟨h1, h2, h⟩ | ⟨h1, f, z, h2, h⟩ | ⟨h1, h2, h⟩ | ⟨h1, h2, z, h⟩ <;> try omega
    have e1 : p1 (t :: q) = q := by have := p1_eq (t := t) (y := []) (chk_pol h); rw [List.append_nil] at this; exact this
    rw [e1]
    exact ⟨b, h2, h, rfl⟩
theorem WT.all {e : Nat} {r : List Nat} (h : WT Ty Cn e r) (g : tgR r = 4) : chk Ty Cn [([inR r], 0)] (p1 r) ∧ r = hdt r :: p1 r := by
  cases r with
  | nil => exact h.elim
  | cons t q =>
    have g : t / 512 = 4 := g
    obtain ⟨⟨h0, h00, h000⟩, h⟩ := h
    rcases h with ⟨h1, h⟩ | ⟨h1, h2, h⟩ | ⟨h1, h2, h⟩ | ⟨h1, b, h2, h⟩ | ⟨h1, h2, h⟩ | ⟨h1, f, z, h2, h⟩ | ⟨h1, h2, h⟩ | ⟨h1, h2, z, h⟩ <;> try omega
    have e1 : p1 (t :: q) = q := by have := p1_eq (t := t) (y := []) (chk_pol h); rw [List.append_nil] at this; exact this
    rw [e1]
    exact ⟨h, rfl⟩
theorem WT.app {e : Nat} {r : List Nat} (h : WT Ty Cn e r) (g : tgR r = 5) : ∃ f x, arw Ty f = some (x, e) ∧ WT Ty Cn f (p1 r) ∧ WT Ty Cn x (p2 r) ∧ r = hdt r :: (p1 r ++ p2 r) := by
  cases r with
  | nil => exact h.elim
  | cons t q =>
    have g : t / 512 = 5 := g
    obtain ⟨⟨h0, h00, h000⟩, h⟩ := h
    rcases h with ⟨h1, h⟩ | ⟨h1, h2, h⟩ | ⟨h1, h2, h⟩ | ⟨h1, b, h2, h⟩ | ⟨h1, h2, h⟩ | ⟨h1, f, z, h2, h⟩ | ⟨h1, h2, h⟩ | ⟨h1, h2, z, h⟩ <;> try omega
    obtain ⟨x, y, rfl, hx, hy⟩ := chk_split (s1 := [([], f)]) (s2 := [([], z)]) h
    have e1 := p1_eq (t := t) (y := y) (chk_pol hx)
    have e2 := p2_eq (t := t) (z := []) (chk_pol hx) (chk_pol hy)
    rw [List.append_nil] at e2
    rw [e1, e2]
    exact ⟨f, z, h2, hx, hy, rfl⟩
theorem WT.two {e : Nat} {r : List Nat} (h : WT Ty Cn e r) (g : tgR r = 6 ∨ tgR r = 7) : e = 0 ∧ ∃ x, (tgR r = 6 → x = 0) ∧ WT Ty Cn x (p1 r) ∧ WT Ty Cn x (p2 r) ∧ r = hdt r :: (p1 r ++ p2 r) := by
  cases r with
  | nil => exact h.elim
  | cons t q =>
    have g : t / 512 = 6 ∨ t / 512 = 7 := g
    obtain ⟨⟨h0, h00, h000⟩, h⟩ := h
    have go : ∀ z, chk Ty Cn [([], z), ([], z)] q → WT Ty Cn z (p1 (t :: q)) ∧ WT Ty Cn z (p2 (t :: q)) ∧ t :: q = t :: (p1 (t :: q) ++ p2 (t :: q)) := by
      intro z h
      obtain ⟨x, y, rfl, hx, hy⟩ := chk_split (s1 := [([], z)]) (s2 := [([], z)]) h
      have e1 := p1_eq (t := t) (y := y) (chk_pol hx)
      have e2 := p2_eq (t := t) (z := []) (chk_pol hx) (chk_pol hy)
      rw [List.append_nil] at e2
      rw [e1, e2]
      exact ⟨hx, hy, rfl⟩
    rcases h with ⟨h1, h⟩ | ⟨h1, h2, h⟩ | ⟨h1, h2, h⟩ | ⟨h1, b, h2, h⟩ | ⟨h1, h2, h⟩ | ⟨h1, f, z, h2, h⟩ | ⟨h1, h2, h⟩ | ⟨h1, h2, z, h⟩ <;> try omega
    · exact ⟨h2, 0, fun _ => rfl, go 0 h⟩
    · exact ⟨h2, z, fun q => by have q : t / 512 = 6 := q; omega, go z h⟩
theorem WT_app {f x e : Nat} {A B : List Nat} (hA : WT Ty Cn f A) (hB : WT Ty Cn x B) (h : arw Ty f = some (x, e)) (he : e < 16) (hl : e < 3 + Ty.length) : WT Ty Cn e (tok 5 0 e :: (A ++ B)) := by
  refine ⟨⟨GT_tok (by decide) (by decide) he (fun q => by omega) (fun q => by omega) (fun q => by omega) (fun _ => rfl), tok_ty he, hl⟩, ?_⟩
  rw [tok_tg (by decide) he]
  exact Or.inr (Or.inr (Or.inr (Or.inr (Or.inr (Or.inl ⟨rfl, f, x, h, chk_app (s1 := [([], f)]) hA hB⟩)))))
theorem WT_imp {A B : List Nat} (hA : WT Ty Cn 0 A) (hB : WT Ty Cn 0 B) : WT Ty Cn 0 (sJn 6 A B) := by
  refine ⟨⟨GT_tok (by decide) (by decide) (by decide) (fun q => by omega) (fun q => by omega) (fun q => by omega) (fun _ => rfl), tok_ty (by decide), by omega⟩, ?_⟩
  rw [tok_tg (by decide) (by decide)]
  exact Or.inr (Or.inr (Or.inr (Or.inr (Or.inr (Or.inr (Or.inl ⟨rfl, rfl, chk_app (s1 := [([], 0)]) hA hB⟩))))))
theorem WT_eq {x : Nat} {A B : List Nat} (hA : WT Ty Cn x A) (hB : WT Ty Cn x B) : WT Ty Cn 0 (tok 7 0 0 :: (A ++ B)) := by
  refine ⟨⟨GT_tok (by decide) (by decide) (by decide) (fun q => by omega) (fun q => by omega) (fun q => by omega) (fun _ => rfl), tok_ty (by decide), by omega⟩, ?_⟩
  rw [tok_tg (by decide) (by decide)]
  exact Or.inr (Or.inr (Or.inr (Or.inr (Or.inr (Or.inr (Or.inr ⟨rfl, rfl, x, chk_app (s1 := [([], x)]) hA hB⟩))))))
theorem WT_all {v : Nat} {A : List Nat} (hv : v / 512 = 0) (hA : WT Ty Cn 0 A) (hl : A.length ≤ 30) : WT Ty Cn 0 (sBd 4 0 v A) := by
  refine ⟨⟨GT_tok (by decide) (by omega) (by decide) (fun q => by omega) (fun q => by omega) (fun q => by omega) (fun q => by omega), tok_ty (by decide), by omega⟩, ?_⟩
  rw [tok_tg (by omega) (by decide), tok_in (by omega) (by decide)]
  exact Or.inr (Or.inr (Or.inr (Or.inr (Or.inl ⟨rfl, rfl, cls_chk hv (s := [([], 0)]) (fun p hp => by rw [List.mem_singleton.mp hp]; simp; omega) hA⟩))))
theorem WT_abs {v e t : Nat} {A : List Nat} (hv : v / 512 = 0) (hA : WT Ty Cn e A) (hl : A.length ≤ 30) (h : arw Ty t = some (v % 16, e)) (ht : t < 16) (htl : t < 3 + Ty.length) : WT Ty Cn t (sBd 3 t v A) := by
  refine ⟨⟨GT_tok (by decide) (by omega) ht (fun q => by omega) (fun q => by omega) (fun q => by omega) (fun q => by omega), tok_ty ht, htl⟩, ?_⟩
  rw [tok_tg (by omega) ht, tok_in (by omega) ht]
  exact Or.inr (Or.inr (Or.inr (Or.inl ⟨rfl, e, h, cls_chk hv (s := [([], e)]) (fun p hp => by rw [List.mem_singleton.mp hp]; simp; omega) hA⟩)))
theorem WT_fil {b e : Nat} {f A : List Nat} (hf : WT Ty Cn b f) (hA : chk Ty Cn [([b], e)] A) : WT Ty Cn e (fil f [0] A) := fil_chk hf (s := [([], e)]) hA
theorem WT_rpl {v e : Nat} {f A : List Nat} (hv : v / 512 = 0) (hf : WT Ty Cn (v % 16) f) (hA : WT Ty Cn e A) : WT Ty Cn e (rpl v f A) := rpl_chk hv hf hA
theorem WT_leaf {t i e : Nat} (ht : t = 0 ∧ i < 10 ∨ t = 1 ∧ i < 4 ∧ Cn i = some e) (he : e < 16) (hl : e < 3 + Ty.length) : WT Ty Cn e [tok t i e] := by
  refine ⟨⟨GT_tok (by omega) (by omega) he (fun q => by omega) (fun q => by omega) (fun q => by omega) (fun q => by omega), tok_ty he, hl⟩, ?_⟩
  rw [tok_tg (by omega) he, tok_in (by omega) he]
  rcases ht with ⟨h1, -⟩ | ⟨h1, -, h2⟩
  · exact Or.inl ⟨h1, trivial⟩
  · exact Or.inr (Or.inl ⟨h1, h2, trivial⟩)
end WT
