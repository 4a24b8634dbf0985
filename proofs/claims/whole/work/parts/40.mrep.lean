/-! What the reference's cells stand for. -/
def MA (f : Nat → Int32) (k : Nat) (row : List Nat) : Prop := Seg f k (row.map mu) ∧ Pol 1 row ∧ (∀ x, x ∈ row → GT x) ∧ k + row.length ≤ 3020 ∧ row.length ≤ 30
theorem MA.hd {f : Nat → Int32} {k : Nat} {row : List Nat} (h : MA f k row) : k < 3020 ∧ f k = nI (mu (hdt row)) ∧ GT (hdt row) ∧ mu (hdt row) < 4096 := by
  obtain ⟨h1, h2, h3, h4, h5⟩ := h
  have hp := Pol_pos h2
  cases row with
  | nil => simp at hp
  | cons t r =>
    obtain ⟨h6, -⟩ := h1 0 (mu t) rfl
    exact ⟨by simp at h4; omega, h6, h3 t List.mem_cons_self, mu_lt t⟩
theorem MA.get {f : Nat → Int32} {k j x : Nat} {row : List Nat} (h : MA f k row) (hj : row[j]? = some x) : f (k + j) = nI (mu x) ∧ GT x ∧ mu x < 4096 ∧ k + j < 3020 := by
  have := (List.getElem?_eq_some_iff.mp hj).1
  have h4 := h.2.2.2.1
  exact ⟨(h.1 j (mu x) (by rw [List.getElem?_map, hj]; rfl)).1, h.2.2.1 x (List.mem_of_getElem? hj), mu_lt x, by omega⟩
theorem Seg_drop {f : Nat → Int32} {k j : Nat} {row : List Nat} (h : Seg f k row) : Seg f (k + j) (row.drop j) := fun i x hi => by
  rw [List.getElem?_drop] at hi
  have := h (j + i) x hi
  rw [Nat.add_assoc]
  exact this
theorem MA.at {f : Nat → Int32} {k j : Nat} {row : List Nat} (h : MA f k row) (hj : j < row.length) : ∃ x y, row.drop j = x ++ y ∧ MA f (k + j) x := by
  obtain ⟨h1, h2, h3, h4, h5⟩ := h
  obtain ⟨x, y, e, hx⟩ := Pol_at h2 hj
  have hl : x.length + y.length = row.length - j := by rw [← List.length_append, ← e, List.length_drop]
  refine ⟨x, y, e, ?_, hx, fun z hz => h3 z (List.mem_of_mem_drop (by rw [e]; exact List.mem_append_left _ hz)), by omega, by omega⟩
  have := Seg_drop (j := j) h1
  rw [← List.map_drop, e, List.map_append] at this
  exact (Seg_app this).1
theorem MA.two {f : Nat → Int32} {k : Nat} {row : List Nat} (h : MA f k row) (g : 5 ≤ tgR row) : ∃ x y, row = hdt row :: (x ++ y) ∧ MA f (k + 1) x ∧ MA f (k + 1 + x.length) y ∧ p1 row = x ∧ p2 row = y := by
  obtain ⟨h1, h2, h3, h4, h5⟩ := h
  cases row with
  | nil => exact absurd h2 (by intro e; cases e)
  | cons t r =>
    have g : kPt t = 2 := kPt_2 g
    have h2 : Pol (0 + kPt t) r := h2
    rw [g] at h2
    obtain ⟨x, y, rfl, hx, hy⟩ := Pol_split (n := 1) (m := 1) h2
    have h1 : Seg f k (mu t :: (x ++ y).map mu) := h1
    obtain ⟨-, h6⟩ := Seg_cons h1
    rw [List.map_append] at h6
    obtain ⟨h7, h8⟩ := Seg_app h6
    rw [List.length_map] at h8
    simp only [List.length_cons, List.length_append] at h4 h5
    exact ⟨x, y, rfl, ⟨h7, hx, fun z hz => h3 z (List.mem_cons_of_mem _ (List.mem_append_left _ hz)), by omega, by omega⟩, ⟨h8, hy, fun z hz => h3 z (List.mem_cons_of_mem _ (List.mem_append_right _ hz)), by omega, by omega⟩, p1_eq hx, by have := p2_eq (t := t) (z := []) hx hy; rw [List.append_nil] at this; exact this⟩
theorem MA.one {f : Nat → Int32} {k : Nat} {row : List Nat} (h : MA f k row) (g : tgR row = 3 ∨ tgR row = 4) : ∃ x, row = hdt row :: x ∧ MA f (k + 1) x ∧ p1 row = x := by
  obtain ⟨h1, h2, h3, h4, h5⟩ := h
  cases row with
  | nil => exact absurd h2 (by intro e; cases e)
  | cons t r =>
    have g : kPt t = 1 := kPt_1 g
    have h2 : Pol (0 + kPt t) r := h2
    rw [g] at h2
    have h1 : Seg f k (mu t :: r.map mu) := h1
    obtain ⟨-, h6⟩ := Seg_cons h1
    simp only [List.length_cons] at h4 h5
    exact ⟨r, rfl, ⟨h6, h2, fun z hz => h3 z (List.mem_cons_of_mem _ hz), by omega, by omega⟩, by have := p1_eq (t := t) (y := []) h2; rw [List.append_nil] at this; exact this⟩
theorem Seg.mv {f g : Nat → Int32} {k n : Nat} {row : List Nat} (h : Seg f k row) (hk : k + row.length ≤ n) (e : ∀ j, j < n → g j = f j) : Seg g k row := fun j x hj => by
  have := (List.getElem?_eq_some_iff.mp hj).1
  rw [e (k + j) (by omega)]
  exact h j x hj
theorem MA.mv {f g : Nat → Int32} {k n : Nat} {row : List Nat} (h : MA f k row) (hk : k + row.length ≤ n) (e : ∀ j, j < n → g j = f j) : MA g k row := ⟨h.1.mv (by rw [List.length_map]; exact hk) e, h.2⟩
def MT (Ty : List (Nat × Nat)) (i : Nat → Int32) (r : Nat → Nat → Int32) : Prop := i 2 = nI (3 + Ty.length) ∧ Ty.length ≤ 13 ∧ ∀ j p, Ty[j]? = some p → (r 4 (3 + j) = nI p.1 ∧ r 5 (3 + j) = nI p.2) ∧ p.1 < 16 ∧ p.2 < 16
def MS (Tm : List (List Nat)) (i : Nat → Int32) (r : Nat → Nat → Int32) : Prop := i 1 = nI Tm.length ∧ Tm.length ≤ 60 ∧ ∀ t row, Tm[t]? = some row → row.length ≤ 30 ∧ r 1 t = nI row.length ∧ r 2 t = nI (tyR row) ∧ Seg (r 0) (32 * t) (row.map mu)
def oI (o : Option Nat) : Nat := match o with
  | some t => t + 1
  | none => 0
def MD (Cn : Nat → Option Nat) (r : Nat → Nat → Int32) : Prop := ∀ n, n < 4 → r 6 n = nI (oI (Cn n)) ∧ oI (Cn n) ≤ 16
def MW (d : List Nat) (i : Nat → Int32) (r : Nat → Nat → Int32) : Prop := i 0 = nI d.length ∧ Seg (r 0) 1920 (d.map mu)
def MB (Th : List Thm) (i : Nat → Int32) (r : Nat → Nat → Int32) (L : Nat → Nat → Int64) : Prop := i 3 = nI Th.length ∧ Th.length ≤ 40 ∧ ∀ k rl x y h c, Th[k]? = some (rl, x, y, h, c) → L 0 k = lN h ∧ r 7 k = nI c ∧ L 1 k = lN (axv Th k) ∧ r 8 k = nI (stv Th k)
def MI (Ty : List (Nat × Nat)) (Tm : List (List Nat)) (Th : List Thm) (Cn : Nat → Option Nat) (d : List Nat) (i : Nat → Int32) (r : Nat → Nat → Int32) (L : Nat → Nat → Int64) : Prop := MT Ty i r ∧ MS Tm i r ∧ MD Cn r ∧ MW d i r ∧ MB Th i r L
/-- only the work has changed -/
def MK (i : Nat → Int32) (r : Nat → Nat → Int32) (i2 : Nat → Int32) (r2 : Nat → Nat → Int32) : Prop := (∀ j, j ≠ 0 → i2 j = i j) ∧ (∀ j, j ≠ 0 → r2 j = r j) ∧ ∀ k, k < 1920 → r2 0 k = r 0 k
theorem MK.rf {i : Nat → Int32} {r : Nat → Nat → Int32} : MK i r i r := ⟨fun _ _ => rfl, fun _ _ => rfl, fun _ _ => rfl⟩
theorem MK.tr {i i2 i3 : Nat → Int32} {r r2 r3 : Nat → Nat → Int32} (h : MK i r i2 r2) (g : MK i2 r2 i3 r3) : MK i r i3 r3 := ⟨fun j hj => (g.1 j hj).trans (h.1 j hj), fun j hj => (g.2.1 j hj).trans (h.2.1 j hj), fun k hk => (g.2.2 k hk).trans (h.2.2 k hk)⟩
theorem MT.mv {Ty : List (Nat × Nat)} {i i2 : Nat → Int32} {r r2 : Nat → Nat → Int32} (h : MT Ty i r) (e0 : i2 2 = i 2) (e1 : r2 4 = r 4) (e2 : r2 5 = r 5) : MT Ty i2 r2 := by
  unfold MT at *
  rw [e0, e1, e2]
  exact h
theorem MS.mv {Tm : List (List Nat)} {i i2 : Nat → Int32} {r r2 : Nat → Nat → Int32} (h : MS Tm i r) (e0 : i2 1 = i 1) (e1 : r2 1 = r 1) (e2 : r2 2 = r 2) (e3 : ∀ k, k < 1920 → r2 0 k = r 0 k) : MS Tm i2 r2 := by
  obtain ⟨h1, h2, h3⟩ := h
  refine ⟨by rw [e0]; exact h1, h2, fun t row ht => ?_⟩
  obtain ⟨g1, g2, g3, g4⟩ := h3 t row ht
  have := (List.getElem?_eq_some_iff.mp ht).1
  exact ⟨g1, by rw [e1]; exact g2, by rw [e2]; exact g3, g4.mv (n := 1920) (by rw [List.length_map]; omega) e3⟩
theorem MB.mv {Th : List Thm} {i i2 : Nat → Int32} {r r2 : Nat → Nat → Int32} {L : Nat → Nat → Int64} (h : MB Th i r L) (e0 : i2 3 = i 3) (e1 : r2 7 = r 7) (e2 : r2 8 = r 8) : MB Th i2 r2 L := by
  unfold MB at *
  rw [e0, e1, e2]
  exact h
theorem MD.mv {Cn : Nat → Option Nat} {r r2 : Nat → Nat → Int32} (h : MD Cn r) (e : r2 6 = r 6) : MD Cn r2 := by
  unfold MD at *
  rw [e]
  exact h
theorem MI.mk {Ty : List (Nat × Nat)} {Tm : List (List Nat)} {Th : List Thm} {Cn : Nat → Option Nat} {d d2 : List Nat} {i i2 : Nat → Int32} {r r2 : Nat → Nat → Int32} {L : Nat → Nat → Int64} (h : MI Ty Tm Th Cn d i r L) (k : MK i r i2 r2) (hd : MW d2 i2 r2) : MI Ty Tm Th Cn d2 i2 r2 L :=
  ⟨h.1.mv (k.1 2 (by decide)) (k.2.1 4 (by decide)) (k.2.1 5 (by decide)), h.2.1.mv (k.1 1 (by decide)) (k.2.1 1 (by decide)) (k.2.1 2 (by decide)) k.2.2, h.2.2.1.mv (k.2.1 6 (by decide)), hd, h.2.2.2.2.mv (k.1 3 (by decide)) (k.2.1 7 (by decide)) (k.2.1 8 (by decide))⟩
theorem MI.cl {Ty : List (Nat × Nat)} {Tm : List (List Nat)} {Th : List Thm} {Cn : Nat → Option Nat} {d : List Nat} {i : Nat → Int32} {r : Nat → Nat → Int32} {L : Nat → Nat → Int64} (h : MI Ty Tm Th Cn d i r L) : MI Ty Tm Th Cn [] (upd i 0 (nI 0)) r L :=
  h.mk ⟨fun j hj => pk_un hj, fun _ _ => rfl, fun _ _ => rfl⟩ ⟨pk_us, fun j x hj => by simp at hj⟩
/-- the typed state -/
def WS (Ty : List (Nat × Nat)) (Tm : List (List Nat)) : Prop := Ty.Nodup ∧ (∀ p, p ∈ Ty → p.1 < 3 + Ty.length ∧ p.2 < 3 + Ty.length) ∧ ∀ (t : Nat) (row : List Nat), Tm[t]? = some row → WT Ty (dcl Tm) (tyR row) row ∧ row.length ≤ 30
theorem WT.gt {Ty : List (Nat × Nat)} {Cn : Nat → Option Nat} {e : Nat} {r : List Nat} (h : WT Ty Cn e r) : ∀ x, x ∈ r → GT x := fun x hx => (chk_gt h x hx).1
theorem WT.ma {Ty : List (Nat × Nat)} {Cn : Nat → Option Nat} {e k : Nat} {r : List Nat} {f : Nat → Int32} (h : WT Ty Cn e r) (hs : Seg f k (r.map mu)) (hl : r.length ≤ 30) (hk : k + r.length ≤ 3020) : MA f k r := ⟨hs, h.pol, h.gt, hk, hl⟩
theorem MS.ma {Ty : List (Nat × Nat)} {Tm : List (List Nat)} {i : Nat → Int32} {r : Nat → Nat → Int32} {t : Nat} {row : List Nat} (h : MS Tm i r) (ws : WS Ty Tm) (ht : Tm[t]? = some row) : MA (r 0) (32 * t) row ∧ 32 * t + row.length ≤ 1920 ∧ t < 60 := by
  obtain ⟨h1, h2, h3, h4⟩ := h.2.2 t row ht
  have := (List.getElem?_eq_some_iff.mp ht).1
  have := h.2.1
  exact ⟨(ws.2.2 t row ht).1.ma h4 h1 (by omega), by omega, by omega⟩
theorem kBd_iff (x : Nat) : kBd x = true ↔ kPt x = 1 := by
  unfold kBd kPt
  simp only [Bool.or_eq_true, decide_eq_true_eq]
  (repeat' split) <;> omega
theorem mu_bd {x : Nat} (h : GT x) (hb : kBd x = true) : mu x % 16 = x / 16 % 32 ∧ x / 16 % 32 < 16 := by
  have hb : x / 512 = 3 ∨ x / 512 = 4 := by simpa [kBd] using hb
  have := h.2.2.2.1 hb
  unfold mu
  (repeat' split) <;> omega
