/-! A calculus of methods over a pure picture of their world: pG (a point of a method), pC (a method's contract). Written by wip/whole/gen_kit.py. -/
abbrev pE : Type := (Nat × (Nat → Int32)) ⊕ ((Nat × (Nat → Int64)) ⊕ (Nat × List Value))
abbrev pW : Type := List (Nat × pE)
def p_e (cI cJ : ClassId) (x : pE) : va_E := match x with
  | .inl a => .inl (cI, a.1, .inl a.2)
  | .inr (.inl a) => .inl (cJ, a.1, .inr (.inl a.2))
  | .inr (.inr o) => .inr o
def p_w (cI cJ : ClassId) (w : pW) : va_W := w.map (fun q => (q.1, p_e cI cJ q.2))
theorem p_at {cI cJ : ClassId} {w : pW} {k a : Nat} {x : pE} (h : w[k]? = some (a, x)) : (p_w cI cJ w)[k]? = some (a, p_e cI cJ x) := by
  unfold p_w
  rw [List.getElem?_map, h]
  rfl
theorem p_set {cI cJ : ClassId} {w : pW} (k a : Nat) (x : pE) : (p_w cI cJ w).set k (a, p_e cI cJ x) = p_w cI cJ (w.set k (a, x)) := by
  unfold p_w
  rw [List.map_set]
theorem p_app {cI cJ : ClassId} {w v : pW} : p_w cI cJ (w ++ v) = p_w cI cJ w ++ p_w cI cJ v := List.map_append
def pTy (cI cJ : ClassId) : List (ClassId × FieldType) := [(cI, .int), (cJ, .long)]
def nbx (j : Nat) : Int32 := ([1, 1, 2, 2, 2, 2, 1, 2, 2, 2, 2, 1, 2, 2] : List Int32).getD j 0
def nby (j : Nat) : Int32 := ([0, 0, 1, 2, 1, 1, 0, 0, 2, 2, 1, 0, 2, 3] : List Int32).getD j 0
def pN (U : State) : Prop := va_Nw (.methodLinkNest R_K 18 y_S_init "ProofKernel") U ∧ va_Nw (.methodLinkNest R_K 34 y_B_init "ProofKernel") U ∧ va_Nw (.methodLinkNest R_B 35 y_K_isIn "ProofKernel") U ∧ va_Nw (.fieldLinkNest R_B 60 "ProofKernel" "NAMED_BY_X" "[I" "ProofKernel") U ∧ va_Nw (.fieldLinkNest R_B 63 "ProofKernel" "NAMED_BY_Y" "[I" "ProofKernel") U
def pZ (τ : Nat × Nat) (A : Nat → Prop) (U : State) (H : Heap) : Prop :=
  ((va_Z "ProofKernel" "NAMED_BY_X" "[I" (.ref τ.1) A U H ∧ va_T .int τ.1 14 (fun j => .int (nbx j)) A U H) ∧ (va_Z "ProofKernel" "NAMED_BY_Y" "[I" (.ref τ.2) A U H ∧ va_T .int τ.2 14 (fun j => .int (nby j)) A U H)) ∧ pN U
theorem pN.warm {s U : State} (hW : s.WarmedH U.vm) (h : pN s) : pN U := ⟨va_Nw.warmM hW h.1, va_Nw.warmM hW h.2.1, va_Nw.warmM hW h.2.2.1, va_Nw.warmF hW h.2.2.2.1, va_Nw.warmF hW h.2.2.2.2⟩
theorem pN.same {s U : State} (e : s.vm = U.vm) (h : pN s) : pN U := ⟨va_Nw.same rfl e h.1, va_Nw.same rfl e h.2.1, va_Nw.same rfl e h.2.2.1, va_Nw.same rfl e h.2.2.2.1, va_Nw.same rfl e h.2.2.2.2⟩
theorem pZ.blind {τ : Nat × Nat} {A : Nat → Prop} {U : State} (g : JFrame) (mk : MethodId) (a : Array Value) (h : pZ τ A U U.heap) : pZ τ A (U.calling g mk a) (U.calling g mk a).heap := by
  obtain ⟨⟨⟨h1, h2⟩, ⟨h3, h4⟩⟩, h5⟩ := h
  exact ⟨⟨⟨va_Z.moved (u := U) (U := U.calling g mk a) (Vm.Alike.refl U.vm) h1, va_T.moved (u := U) (U := U.calling g mk a) (Vm.Alike.refl U.vm) h2⟩, ⟨va_Z.moved (u := U) (U := U.calling g mk a) (Vm.Alike.refl U.vm) h3, va_T.moved (u := U) (U := U.calling g mk a) (Vm.Alike.refl U.vm) h4⟩⟩, pN.same (s := U) (U := U.calling g mk a) rfl h5⟩
theorem pZ.go {τ : Nat × Nat} {A B : Nat → Prop} {s U : State} {H : Heap} {locs : List Loc} (hS : va_S A s.heap H locs) (hAB : ∀ q, B q → A q) (hU : U.heap = H) (hW : s.WarmedH U.vm) (h : pZ τ A s s.heap) : pZ τ B U U.heap := by
  obtain ⟨⟨⟨h1, h2⟩, ⟨h3, h4⟩⟩, h5⟩ := h
  rw [hU]
  exact ⟨⟨⟨((h1.kept hS.2.1).narrow hAB).moved hW.alike, ((h2.kept hS.2.1).narrow hAB).moved hW.alike⟩, ⟨((h3.kept hS.2.1).narrow hAB).moved hW.alike, ((h4.kept hS.2.1).narrow hAB).moved hW.alike⟩⟩, h5.warm hW⟩
abbrev p_ws (M : pMD) : List Cond := Cond.code M.1 M.2.1 M.2.2.1 M.2.2.2.1 :: pTB
def pQc (D : va_G) (cI cJ : ClassId) (A : Nat → Prop) (Q : Option Value → pW → Prop) : Array Value → State → Outcome → State → Prop := fun _ st oc t => (∃ (r : Option Value) (w : pW), oc = .returned r ∧ Q r w ∧ va_P D pCl (p_w cI cJ w) t.heap ∧ va_D A (p_w cI cJ w)) ∧ va_F A st t
def pCx (M : pMD) (τ : Nat × Nat) (p : Program) (s : State) (m : MethodId) (args : Array Value) (meth : Method) (c : Code) (D : va_G) (cI cJ : ClassId) (A : Nat → Prop) : Prop :=
  p.tables.exec = Jvm.exec ∧ c.code = M.2.1 ∧ meth.sig.returnType = M.2.2.2.1 ∧ c.maxLocals = M.2.2.1 ∧ (∀ w ∈ pTB, w.before args s = true) ∧ s.vm.findClass M.1.cls = some m.cls ∧ meth.locks = false ∧ meth.name = M.1.name ∧ va_K D pCl (pTy cI cJ) s ∧ (∀ q, s.heap.size ≤ q → A q) ∧ pZ τ A s s.heap
def pG (M : pMD) (τ : Nat × Nat) (Q : Option Value → pW → Prop) (k n pc : Nat) (ls : List (Nat × Value)) (st : List Value) (w : pW) : Prop :=
  ∀ (p : Program) (l : Launch) (e : Env) (s : State) (m : MethodId) (args : Array Value) (below : List Frame) (meth : Method) (c : Code) (D : va_G) (cI cJ : ClassId) (A : Nat → Prop) (H : Heap) (L : Array Slot) (locs : List Loc),
    pCx M τ p s m args meth c D cI cJ A → lv_has L M.2.2.1 ls → va_P D pCl (p_w cI cJ w) H → va_D A (p_w cI cJ w) → va_S A s.heap H locs →
    W p l e M.2.2.2.2 s m args below meth c H locs k n (MQ below (pQc D cI cJ A Q) args s M.2.2.2.2.cells M.2.2.2.2.slots A) (F0 m pc L st)
def pC (M : pMD) (τ : Nat × Nat) (as : List Value) (w : pW) (Q : Option Value → pW → Prop) : Prop := ∀ (l : Launch) (D : va_G) (cI cJ : ClassId) (sz : Nat),
  Met l M.1 (p_ws M) M.2.2.2.2 (va_Pc as (fun U => U.heap.size = sz ∧ va_P D pCl (p_w cI cJ w) U.heap ∧ va_K D pCl (pTy cI cJ) U ∧ va_D (fun _ => True) (p_w cI cJ w) ∧ pZ τ (va_A (p_w cI cJ w) sz) U U.heap)) (pQc D cI cJ (va_A (p_w cI cJ w) sz) Q) M.2.2.2.2.cells M.2.2.2.2.slots (va_A (p_w cI cJ w) sz)
theorem pC.of {M : pMD} {τ : Nat × Nat} {as : List Value} {w : pW} {Q : Option Value → pW → Prop} (hy : plainName M.1.cls = true) (hl : (lg_sl as).length ≤ M.2.2.1) (h : pG M τ Q 0 0 0 (lv_args 0 as) [] w) : pC M τ as w Q := by
  intro l D cI cJ sz
  refine Met.ofW (cc := M.2.1) (maxL := M.2.2.1) (ret := M.2.2.2.1) hy rfl ?_
  intro p e s m args below meth c s₁ B hml hv
  obtain ⟨rfl, hsz, hP, hK, hD0, hZ⟩ := hv
  subst hsz
  have hD := hD0.self (sz := s.heap.size)
  have hl' := lv_entry as (n := M.2.2.1) hl
  rw [lg_entry_eq]
  exact h p l e s m _ below meth c D cI cJ _ s.heap _ [] ⟨B.exec, B.bytes, B.returns, hml, fun w hw => atoms_spec (ws := p_ws M) B.pre w (List.mem_cons_of_mem _ hw), findClass_of_methodNamed B.named, B.notSynchronized, (name_of_methodNamed B.named B.method).1, hK, fun q h => Or.inr h, hZ⟩ hl' hP hD va_S.rf
section pRules
variable {M : pMD} {τ : Nat × Nat} {Q : Option Value → pW → Prop} {k n pc : Nat} {ls : List (Nat × Value)} {rest : List Value} {w : pW}
theorem g_mem : ∀ {ls : List (Nat × Value)} {i : Nat} {v : Value}, ls.lookup i = some v → (i, v) ∈ ls
  | [], i, v, hk => by simp at hk
  | (a, b) :: t, i, v, hk => by
    rw [List.lookup_cons] at hk
    cases e : i == a with
    | true =>
      rw [e] at hk
      have e2 : i = a := by simpa using e
      have e3 : b = v := by simpa using hk
      rw [e2, e3]
      exact List.mem_cons_self
    | false =>
      rw [e] at hk
      exact List.mem_cons_of_mem _ (g_mem hk)
theorem g_look {L : Array Slot} {nL i : Nat} {v : Value} (h : lv_has L nL ls) (hk : ls.lookup i = some v) : L[i]? = some (.val v) := h.2.2 (i, v) (g_mem hk)

theorem g_iconst {z : Int} {v : Int32} (hd : decode M.2.1 pc = .ok (.iconst z, 1)) (hv : Int32.ofInt z = v) (kk : pG M τ Q k n (pc + 1) ls (.int v :: rest) w) : pG M τ Q k n pc ls rest w := by
  intro p l e s m args below meth c D cI cJ A H L locs C hl hP hD hS
  exact lv_iconst C.1 C.2.1 hd hv (kk p l e s m args below meth c D cI cJ A H L locs C hl hP hD hS)
theorem g_bipush {z : Int} {v : Int32} (hd : decode M.2.1 pc = .ok (.bipush z, 2)) (hv : (Int8.ofInt z).toInt32 = v) (kk : pG M τ Q k n (pc + 2) ls (.int v :: rest) w) : pG M τ Q k n pc ls rest w := by
  intro p l e s m args below meth c D cI cJ A H L locs C hl hP hD hS
  exact lv_bipush C.1 C.2.1 hd hv (kk p l e s m args below meth c D cI cJ A H L locs C hl hP hD hS)
theorem g_sipush {z : Int} {v : Int32} (hd : decode M.2.1 pc = .ok (.sipush z, 3)) (hv : (Int16.ofInt z).toInt32 = v) (kk : pG M τ Q k n (pc + 3) ls (.int v :: rest) w) : pG M τ Q k n pc ls rest w := by
  intro p l e s m args below meth c D cI cJ A H L locs C hl hP hD hS
  exact lv_sipush C.1 C.2.1 hd hv (kk p l e s m args below meth c D cI cJ A H L locs C hl hP hD hS)
theorem g_lconst {z : Fin 2} {v : Int64} (hd : decode M.2.1 pc = .ok (.lconst z, 1)) (hv : Int64.ofNat (z : Nat) = v) (kk : pG M τ Q k n (pc + 1) ls (.long v :: rest) w) : pG M τ Q k n pc ls rest w := by
  intro p l e s m args below meth c D cI cJ A H L locs C hl hP hD hS
  exact lv_lconst C.1 C.2.1 hd hv (kk p l e s m args below meth c D cI cJ A H L locs C hl hP hD hS)
theorem g_ldc {ix : Nat} {v : Int32} (hd : decode M.2.1 pc = .ok (.ldc ix, 2)) (hw : Cond.constant M.1.cls ix v ∈ pTB) (kk : pG M τ Q k n (pc + 2) ls (.int v :: rest) w) : pG M τ Q k n pc ls rest w := by
  intro p l e s m args below meth c D cI cJ A H L locs C hl hP hD hS
  exact lv_ldc C.1 C.2.1 C.2.2.2.2.2.1 (C.2.2.2.2.1 _ hw) hd (kk p l e s m args below meth c D cI cJ A H L locs C hl hP hD hS)
theorem g_ldc2 {ix : Nat} {v : Int64} (hd : decode M.2.1 pc = .ok (.ldc2_w ix, 3)) (hw : Cond.constantLong M.1.cls ix v ∈ pTB) (kk : pG M τ Q k n (pc + 3) ls (.long v :: rest) w) : pG M τ Q k n pc ls rest w := by
  intro p l e s m args below meth c D cI cJ A H L locs C hl hP hD hS
  exact lv_ldc2 C.1 C.2.1 C.2.2.2.2.2.1 (C.2.2.2.2.1 _ hw) hd (kk p l e s m args below meth c D cI cJ A H L locs C hl hP hD hS)
theorem g_iload_n {z : Fin 4} {x : Int32} (hd : decode M.2.1 pc = .ok (.iload_n z, 1)) (hk : ls.lookup (z : Nat) = some (.int x)) (kk : pG M τ Q k n (pc + 1) ls (.int x :: rest) w) : pG M τ Q k n pc ls rest w := by
  intro p l e s m args below meth c D cI cJ A H L locs C hl hP hD hS
  exact lv_iload_n C.1 C.2.1 hd rfl (g_look hl hk) (kk p l e s m args below meth c D cI cJ A H L locs C hl hP hD hS)
theorem g_iload {z : Nat} {x : Int32} (hd : decode M.2.1 pc = .ok (.iload z, 2)) (hk : ls.lookup z = some (.int x)) (kk : pG M τ Q k n (pc + 2) ls (.int x :: rest) w) : pG M τ Q k n pc ls rest w := by
  intro p l e s m args below meth c D cI cJ A H L locs C hl hP hD hS
  exact lv_iload C.1 C.2.1 hd (g_look hl hk) (kk p l e s m args below meth c D cI cJ A H L locs C hl hP hD hS)
theorem g_lload_n {z : Fin 4} {x : Int64} (hd : decode M.2.1 pc = .ok (.lload_n z, 1)) (hk : ls.lookup (z : Nat) = some (.long x)) (kk : pG M τ Q k n (pc + 1) ls (.long x :: rest) w) : pG M τ Q k n pc ls rest w := by
  intro p l e s m args below meth c D cI cJ A H L locs C hl hP hD hS
  exact lv_lload_n C.1 C.2.1 hd rfl (g_look hl hk) (kk p l e s m args below meth c D cI cJ A H L locs C hl hP hD hS)
theorem g_lload {z : Nat} {x : Int64} (hd : decode M.2.1 pc = .ok (.lload z, 2)) (hk : ls.lookup z = some (.long x)) (kk : pG M τ Q k n (pc + 2) ls (.long x :: rest) w) : pG M τ Q k n pc ls rest w := by
  intro p l e s m args below meth c D cI cJ A H L locs C hl hP hD hS
  exact lv_lload C.1 C.2.1 hd (g_look hl hk) (kk p l e s m args below meth c D cI cJ A H L locs C hl hP hD hS)
theorem g_aload_n {z : Fin 4} {x : Nat} (hd : decode M.2.1 pc = .ok (.aload_n z, 1)) (hk : ls.lookup (z : Nat) = some (.ref x)) (kk : pG M τ Q k n (pc + 1) ls (.ref x :: rest) w) : pG M τ Q k n pc ls rest w := by
  intro p l e s m args below meth c D cI cJ A H L locs C hl hP hD hS
  exact lv_aload_n C.1 C.2.1 hd rfl (g_look hl hk) (kk p l e s m args below meth c D cI cJ A H L locs C hl hP hD hS)
theorem g_aload {z : Nat} {x : Nat} (hd : decode M.2.1 pc = .ok (.aload z, 2)) (hk : ls.lookup z = some (.ref x)) (kk : pG M τ Q k n (pc + 2) ls (.ref x :: rest) w) : pG M τ Q k n pc ls rest w := by
  intro p l e s m args below meth c D cI cJ A H L locs C hl hP hD hS
  exact lv_aload C.1 C.2.1 hd (g_look hl hk) (kk p l e s m args below meth c D cI cJ A H L locs C hl hP hD hS)
theorem g_istore_n {z : Fin 4} {x : Int32} (ls2 : List (Nat × Value)) (hd : decode M.2.1 pc = .ok (.istore_n z, 1)) (hn : (z : Nat) < M.2.2.1) (hs : ((z : Nat), Value.int x) :: ls.filter (fun q => !(q.1 == (z : Nat)) && !(q.1 + 1 == (z : Nat) && q.2.category == 2)) = ls2) (kk : pG M τ Q k n (pc + 1) ls2 rest w) : pG M τ Q k n pc ls (.int x :: rest) w := by
  intro p l e s m args below meth c D cI cJ A H L locs C hl hP hD hS
  exact lv_istore_n C.1 C.2.1 hd rfl hl hn hs (fun L hl => kk p l e s m args below meth c D cI cJ A H L locs C hl hP hD hS)
theorem g_istore {z : Nat} {x : Int32} (ls2 : List (Nat × Value)) (hd : decode M.2.1 pc = .ok (.istore z, 2)) (hn : z < M.2.2.1) (hs : (z, Value.int x) :: ls.filter (fun q => !(q.1 == z) && !(q.1 + 1 == z && q.2.category == 2)) = ls2) (kk : pG M τ Q k n (pc + 2) ls2 rest w) : pG M τ Q k n pc ls (.int x :: rest) w := by
  intro p l e s m args below meth c D cI cJ A H L locs C hl hP hD hS
  exact lv_istore C.1 C.2.1 hd hl hn hs (fun L hl => kk p l e s m args below meth c D cI cJ A H L locs C hl hP hD hS)
theorem g_lstore_n {z : Fin 4} {x : Int64} (ls2 : List (Nat × Value)) (hd : decode M.2.1 pc = .ok (.lstore_n z, 1)) (hn : (z : Nat) + 1 < M.2.2.1) (hs : ((z : Nat), Value.long x) :: ls.filter (fun q => !(q.1 == (z : Nat)) && (!(q.1 == (z : Nat) + 1) && !(q.1 + 1 == (z : Nat) && q.2.category == 2))) = ls2) (kk : pG M τ Q k n (pc + 1) ls2 rest w) : pG M τ Q k n pc ls (.long x :: rest) w := by
  intro p l e s m args below meth c D cI cJ A H L locs C hl hP hD hS
  exact lv_lstore_n C.1 C.2.1 hd rfl hl hn hs (fun L hl => kk p l e s m args below meth c D cI cJ A H L locs C hl hP hD hS)
theorem g_lstore {z : Nat} {x : Int64} (ls2 : List (Nat × Value)) (hd : decode M.2.1 pc = .ok (.lstore z, 2)) (hn : z + 1 < M.2.2.1) (hs : (z, Value.long x) :: ls.filter (fun q => !(q.1 == z) && (!(q.1 == z + 1) && !(q.1 + 1 == z && q.2.category == 2))) = ls2) (kk : pG M τ Q k n (pc + 2) ls2 rest w) : pG M τ Q k n pc ls (.long x :: rest) w := by
  intro p l e s m args below meth c D cI cJ A H L locs C hl hP hD hS
  exact lv_lstore C.1 C.2.1 hd hl hn hs (fun L hl => kk p l e s m args below meth c D cI cJ A H L locs C hl hP hD hS)
theorem g_astore_n {z : Fin 4} {x : Nat} (ls2 : List (Nat × Value)) (hd : decode M.2.1 pc = .ok (.astore_n z, 1)) (hn : (z : Nat) < M.2.2.1) (hs : ((z : Nat), Value.ref x) :: ls.filter (fun q => !(q.1 == (z : Nat)) && !(q.1 + 1 == (z : Nat) && q.2.category == 2)) = ls2) (kk : pG M τ Q k n (pc + 1) ls2 rest w) : pG M τ Q k n pc ls (.ref x :: rest) w := by
  intro p l e s m args below meth c D cI cJ A H L locs C hl hP hD hS
  exact lv_astore_n C.1 C.2.1 hd rfl hl hn hs (fun L hl => kk p l e s m args below meth c D cI cJ A H L locs C hl hP hD hS)
theorem g_astore {z : Nat} {x : Nat} (ls2 : List (Nat × Value)) (hd : decode M.2.1 pc = .ok (.astore z, 2)) (hn : z < M.2.2.1) (hs : (z, Value.ref x) :: ls.filter (fun q => !(q.1 == z) && !(q.1 + 1 == z && q.2.category == 2)) = ls2) (kk : pG M τ Q k n (pc + 2) ls2 rest w) : pG M τ Q k n pc ls (.ref x :: rest) w := by
  intro p l e s m args below meth c D cI cJ A H L locs C hl hP hD hS
  exact lv_astore C.1 C.2.1 hd hl hn hs (fun L hl => kk p l e s m args below meth c D cI cJ A H L locs C hl hP hD hS)
theorem g_iinc {z : Nat} {d : Int} {x v : Int32} (ls2 : List (Nat × Value)) (hd : decode M.2.1 pc = .ok (.iinc z d, 3)) (hk : ls.lookup z = some (.int x)) (hv : x + Int32.ofInt d = v) (hn : z < M.2.2.1) (hs : (z, Value.int v) :: ls.filter (fun q => !(q.1 == z) && !(q.1 + 1 == z && q.2.category == 2)) = ls2) (kk : pG M τ Q k n (pc + 3) ls2 rest w) : pG M τ Q k n pc ls rest w := by
  intro p l e s m args below meth c D cI cJ A H L locs C hl hP hD hS
  obtain ⟨j, hj⟩ := List.mem_iff_getElem?.mp (g_mem hk)
  exact lv_iinc C.1 C.2.1 hd hl hj hv hn hs (fun L hl => kk p l e s m args below meth c D cI cJ A H L locs C hl hP hD hS)
theorem g_iadd {x y : Int32} (hd : decode M.2.1 pc = .ok (.iadd, 1)) (kk : pG M τ Q k n (pc + 1) ls (.int (x + y) :: rest) w) : pG M τ Q k n pc ls (.int y :: .int x :: rest) w := by
  intro p l e s m args below meth c D cI cJ A H L locs C hl hP hD hS
  exact lv_iadd C.1 C.2.1 hd (kk p l e s m args below meth c D cI cJ A H L locs C hl hP hD hS)
theorem g_isub {x y : Int32} (hd : decode M.2.1 pc = .ok (.isub, 1)) (kk : pG M τ Q k n (pc + 1) ls (.int (x - y) :: rest) w) : pG M τ Q k n pc ls (.int y :: .int x :: rest) w := by
  intro p l e s m args below meth c D cI cJ A H L locs C hl hP hD hS
  exact lv_isub C.1 C.2.1 hd (kk p l e s m args below meth c D cI cJ A H L locs C hl hP hD hS)
theorem g_imul {x y : Int32} (hd : decode M.2.1 pc = .ok (.imul, 1)) (kk : pG M τ Q k n (pc + 1) ls (.int (x * y) :: rest) w) : pG M τ Q k n pc ls (.int y :: .int x :: rest) w := by
  intro p l e s m args below meth c D cI cJ A H L locs C hl hP hD hS
  exact lv_imul C.1 C.2.1 hd (kk p l e s m args below meth c D cI cJ A H L locs C hl hP hD hS)
theorem g_iand {x y : Int32} (hd : decode M.2.1 pc = .ok (.iand, 1)) (kk : pG M τ Q k n (pc + 1) ls (.int (x &&& y) :: rest) w) : pG M τ Q k n pc ls (.int y :: .int x :: rest) w := by
  intro p l e s m args below meth c D cI cJ A H L locs C hl hP hD hS
  exact lv_iand C.1 C.2.1 hd (kk p l e s m args below meth c D cI cJ A H L locs C hl hP hD hS)
theorem g_ior {x y : Int32} (hd : decode M.2.1 pc = .ok (.ior, 1)) (kk : pG M τ Q k n (pc + 1) ls (.int (x ||| y) :: rest) w) : pG M τ Q k n pc ls (.int y :: .int x :: rest) w := by
  intro p l e s m args below meth c D cI cJ A H L locs C hl hP hD hS
  exact lv_ior C.1 C.2.1 hd (kk p l e s m args below meth c D cI cJ A H L locs C hl hP hD hS)
theorem g_ishl {x y : Int32} (hd : decode M.2.1 pc = .ok (.ishl, 1)) (kk : pG M τ Q k n (pc + 1) ls (.int (x <<< (y &&& 31)) :: rest) w) : pG M τ Q k n pc ls (.int y :: .int x :: rest) w := by
  intro p l e s m args below meth c D cI cJ A H L locs C hl hP hD hS
  exact lv_ishl C.1 C.2.1 hd (kk p l e s m args below meth c D cI cJ A H L locs C hl hP hD hS)
theorem g_ishr {x y : Int32} (hd : decode M.2.1 pc = .ok (.ishr, 1)) (kk : pG M τ Q k n (pc + 1) ls (.int (x >>> (y &&& 31)) :: rest) w) : pG M τ Q k n pc ls (.int y :: .int x :: rest) w := by
  intro p l e s m args below meth c D cI cJ A H L locs C hl hP hD hS
  exact lv_ishr C.1 C.2.1 hd (kk p l e s m args below meth c D cI cJ A H L locs C hl hP hD hS)
theorem g_idiv {x y : Int32} (hd : decode M.2.1 pc = .ok (.idiv, 1)) (hne : ¬ y = 0) (kk : pG M τ Q k n (pc + 1) ls (.int (x / y) :: rest) w) : pG M τ Q k n pc ls (.int y :: .int x :: rest) w := by
  intro p l e s m args below meth c D cI cJ A H L locs C hl hP hD hS
  exact lv_idiv C.1 C.2.1 hd hne (kk p l e s m args below meth c D cI cJ A H L locs C hl hP hD hS)
theorem g_irem {x y : Int32} (hd : decode M.2.1 pc = .ok (.irem, 1)) (hne : ¬ y = 0) (kk : pG M τ Q k n (pc + 1) ls (.int (x - x / y * y) :: rest) w) : pG M τ Q k n pc ls (.int y :: .int x :: rest) w := by
  intro p l e s m args below meth c D cI cJ A H L locs C hl hP hD hS
  exact lv_irem C.1 C.2.1 hd hne (kk p l e s m args below meth c D cI cJ A H L locs C hl hP hD hS)
theorem g_land {x y : Int64} (hd : decode M.2.1 pc = .ok (.land, 1)) (kk : pG M τ Q k n (pc + 1) ls (.long (x &&& y) :: rest) w) : pG M τ Q k n pc ls (.long y :: .long x :: rest) w := by
  intro p l e s m args below meth c D cI cJ A H L locs C hl hP hD hS
  exact lv_land C.1 C.2.1 hd (kk p l e s m args below meth c D cI cJ A H L locs C hl hP hD hS)
theorem g_lor {x y : Int64} (hd : decode M.2.1 pc = .ok (.lor, 1)) (kk : pG M τ Q k n (pc + 1) ls (.long (x ||| y) :: rest) w) : pG M τ Q k n pc ls (.long y :: .long x :: rest) w := by
  intro p l e s m args below meth c D cI cJ A H L locs C hl hP hD hS
  exact lv_lor C.1 C.2.1 hd (kk p l e s m args below meth c D cI cJ A H L locs C hl hP hD hS)
theorem g_lxor {x y : Int64} (hd : decode M.2.1 pc = .ok (.lxor, 1)) (kk : pG M τ Q k n (pc + 1) ls (.long (x ^^^ y) :: rest) w) : pG M τ Q k n pc ls (.long y :: .long x :: rest) w := by
  intro p l e s m args below meth c D cI cJ A H L locs C hl hP hD hS
  exact lv_lxor C.1 C.2.1 hd (kk p l e s m args below meth c D cI cJ A H L locs C hl hP hD hS)
theorem g_lshl {x : Int64} {y : Int32} (hd : decode M.2.1 pc = .ok (.lshl, 1)) (kk : pG M τ Q k n (pc + 1) ls (.long (x <<< (y.toInt64 &&& 63)) :: rest) w) : pG M τ Q k n pc ls (.int y :: .long x :: rest) w := by
  intro p l e s m args below meth c D cI cJ A H L locs C hl hP hD hS
  exact lv_lshl C.1 C.2.1 hd rfl (kk p l e s m args below meth c D cI cJ A H L locs C hl hP hD hS)
theorem g_lshr {x : Int64} {y : Int32} (hd : decode M.2.1 pc = .ok (.lshr, 1)) (kk : pG M τ Q k n (pc + 1) ls (.long (x >>> (y.toInt64 &&& 63)) :: rest) w) : pG M τ Q k n pc ls (.int y :: .long x :: rest) w := by
  intro p l e s m args below meth c D cI cJ A H L locs C hl hP hD hS
  exact lv_lshr C.1 C.2.1 hd rfl (kk p l e s m args below meth c D cI cJ A H L locs C hl hP hD hS)
theorem g_lcmp {x y : Int64} (hd : decode M.2.1 pc = .ok (.lcmp, 1)) (kk : pG M τ Q k n (pc + 1) ls (.int (lg_cmp x y) :: rest) w) : pG M τ Q k n pc ls (.long y :: .long x :: rest) w := by
  intro p l e s m args below meth c D cI cJ A H L locs C hl hP hD hS
  exact W.lcmp C.1 C.2.1 hd (kk p l e s m args below meth c D cI cJ A H L locs C hl hP hD hS)
theorem g_dup {v : Value} (hd : decode M.2.1 pc = .ok (.dup, 1)) (hv : v.category = 1) (kk : pG M τ Q k n (pc + 1) ls (v :: v :: rest) w) : pG M τ Q k n pc ls (v :: rest) w := by
  intro p l e s m args below meth c D cI cJ A H L locs C hl hP hD hS
  exact lv_dup C.1 C.2.1 hd hv (kk p l e s m args below meth c D cI cJ A H L locs C hl hP hD hS)
theorem g_topi {x : Int32} (y : Int32) (e : x = y) (kk : pG M τ Q k n pc ls (.int y :: rest) w) : pG M τ Q k n pc ls (.int x :: rest) w := by
  rw [e]
  exact kk
theorem g_topl {x : Int64} (y : Int64) (e : x = y) (kk : pG M τ Q k n pc ls (.long y :: rest) w) : pG M τ Q k n pc ls (.long x :: rest) w := by
  rw [e]
  exact kk
theorem g_if_eq {x : Int32} {off : Int} {tgt : Nat} (hd : decode M.2.1 pc = .ok (.ifCond .eq off, 3)) (ht : (pc : Int) + off = (tgt : Int)) (kt : x = 0 → pG M τ Q k n tgt ls rest w) (kf : ¬ (x = 0) → pG M τ Q k n (pc + 3) ls rest w) : pG M τ Q k n pc ls (.int x :: rest) w := by
  intro p l e s m args below meth c D cI cJ A H L locs C hl hP hD hS
  exact lv_if_eq C.1 C.2.1 hd ht (fun h => kt h p l e s m args below meth c D cI cJ A H L locs C hl hP hD hS) (fun h => kf h p l e s m args below meth c D cI cJ A H L locs C hl hP hD hS)
theorem g_icmp_eq {x y : Int32} {off : Int} {tgt : Nat} (hd : decode M.2.1 pc = .ok (.if_icmp .eq off, 3)) (ht : (pc : Int) + off = (tgt : Int)) (kt : x = y → pG M τ Q k n tgt ls rest w) (kf : ¬ (x = y) → pG M τ Q k n (pc + 3) ls rest w) : pG M τ Q k n pc ls (.int y :: .int x :: rest) w := by
  intro p l e s m args below meth c D cI cJ A H L locs C hl hP hD hS
  exact lv_icmp_eq C.1 C.2.1 hd ht (fun h => kt h p l e s m args below meth c D cI cJ A H L locs C hl hP hD hS) (fun h => kf h p l e s m args below meth c D cI cJ A H L locs C hl hP hD hS)
theorem g_if_ne {x : Int32} {off : Int} {tgt : Nat} (hd : decode M.2.1 pc = .ok (.ifCond .ne off, 3)) (ht : (pc : Int) + off = (tgt : Int)) (kt : ¬ x = 0 → pG M τ Q k n tgt ls rest w) (kf : x = 0 → pG M τ Q k n (pc + 3) ls rest w) : pG M τ Q k n pc ls (.int x :: rest) w := by
  intro p l e s m args below meth c D cI cJ A H L locs C hl hP hD hS
  exact lv_if_ne C.1 C.2.1 hd ht (fun h => kt h p l e s m args below meth c D cI cJ A H L locs C hl hP hD hS) (fun h => kf h p l e s m args below meth c D cI cJ A H L locs C hl hP hD hS)
theorem g_icmp_ne {x y : Int32} {off : Int} {tgt : Nat} (hd : decode M.2.1 pc = .ok (.if_icmp .ne off, 3)) (ht : (pc : Int) + off = (tgt : Int)) (kt : ¬ x = y → pG M τ Q k n tgt ls rest w) (kf : x = y → pG M τ Q k n (pc + 3) ls rest w) : pG M τ Q k n pc ls (.int y :: .int x :: rest) w := by
  intro p l e s m args below meth c D cI cJ A H L locs C hl hP hD hS
  exact lv_icmp_ne C.1 C.2.1 hd ht (fun h => kt h p l e s m args below meth c D cI cJ A H L locs C hl hP hD hS) (fun h => kf h p l e s m args below meth c D cI cJ A H L locs C hl hP hD hS)
theorem g_if_lt {x : Int32} {off : Int} {tgt : Nat} (hd : decode M.2.1 pc = .ok (.ifCond .lt off, 3)) (ht : (pc : Int) + off = (tgt : Int)) (kt : x < 0 → pG M τ Q k n tgt ls rest w) (kf : ¬ (x < 0) → pG M τ Q k n (pc + 3) ls rest w) : pG M τ Q k n pc ls (.int x :: rest) w := by
  intro p l e s m args below meth c D cI cJ A H L locs C hl hP hD hS
  exact lv_if_lt C.1 C.2.1 hd ht (fun h => kt h p l e s m args below meth c D cI cJ A H L locs C hl hP hD hS) (fun h => kf h p l e s m args below meth c D cI cJ A H L locs C hl hP hD hS)
theorem g_icmp_lt {x y : Int32} {off : Int} {tgt : Nat} (hd : decode M.2.1 pc = .ok (.if_icmp .lt off, 3)) (ht : (pc : Int) + off = (tgt : Int)) (kt : x < y → pG M τ Q k n tgt ls rest w) (kf : ¬ (x < y) → pG M τ Q k n (pc + 3) ls rest w) : pG M τ Q k n pc ls (.int y :: .int x :: rest) w := by
  intro p l e s m args below meth c D cI cJ A H L locs C hl hP hD hS
  exact lv_icmp_lt C.1 C.2.1 hd ht (fun h => kt h p l e s m args below meth c D cI cJ A H L locs C hl hP hD hS) (fun h => kf h p l e s m args below meth c D cI cJ A H L locs C hl hP hD hS)
theorem g_if_ge {x : Int32} {off : Int} {tgt : Nat} (hd : decode M.2.1 pc = .ok (.ifCond .ge off, 3)) (ht : (pc : Int) + off = (tgt : Int)) (kt : 0 ≤ x → pG M τ Q k n tgt ls rest w) (kf : ¬ (0 ≤ x) → pG M τ Q k n (pc + 3) ls rest w) : pG M τ Q k n pc ls (.int x :: rest) w := by
  intro p l e s m args below meth c D cI cJ A H L locs C hl hP hD hS
  exact lv_if_ge C.1 C.2.1 hd ht (fun h => kt h p l e s m args below meth c D cI cJ A H L locs C hl hP hD hS) (fun h => kf h p l e s m args below meth c D cI cJ A H L locs C hl hP hD hS)
theorem g_icmp_ge {x y : Int32} {off : Int} {tgt : Nat} (hd : decode M.2.1 pc = .ok (.if_icmp .ge off, 3)) (ht : (pc : Int) + off = (tgt : Int)) (kt : y ≤ x → pG M τ Q k n tgt ls rest w) (kf : ¬ (y ≤ x) → pG M τ Q k n (pc + 3) ls rest w) : pG M τ Q k n pc ls (.int y :: .int x :: rest) w := by
  intro p l e s m args below meth c D cI cJ A H L locs C hl hP hD hS
  exact lv_icmp_ge C.1 C.2.1 hd ht (fun h => kt h p l e s m args below meth c D cI cJ A H L locs C hl hP hD hS) (fun h => kf h p l e s m args below meth c D cI cJ A H L locs C hl hP hD hS)
theorem g_if_gt {x : Int32} {off : Int} {tgt : Nat} (hd : decode M.2.1 pc = .ok (.ifCond .gt off, 3)) (ht : (pc : Int) + off = (tgt : Int)) (kt : 0 < x → pG M τ Q k n tgt ls rest w) (kf : ¬ (0 < x) → pG M τ Q k n (pc + 3) ls rest w) : pG M τ Q k n pc ls (.int x :: rest) w := by
  intro p l e s m args below meth c D cI cJ A H L locs C hl hP hD hS
  exact lv_if_gt C.1 C.2.1 hd ht (fun h => kt h p l e s m args below meth c D cI cJ A H L locs C hl hP hD hS) (fun h => kf h p l e s m args below meth c D cI cJ A H L locs C hl hP hD hS)
theorem g_icmp_gt {x y : Int32} {off : Int} {tgt : Nat} (hd : decode M.2.1 pc = .ok (.if_icmp .gt off, 3)) (ht : (pc : Int) + off = (tgt : Int)) (kt : y < x → pG M τ Q k n tgt ls rest w) (kf : ¬ (y < x) → pG M τ Q k n (pc + 3) ls rest w) : pG M τ Q k n pc ls (.int y :: .int x :: rest) w := by
  intro p l e s m args below meth c D cI cJ A H L locs C hl hP hD hS
  exact lv_icmp_gt C.1 C.2.1 hd ht (fun h => kt h p l e s m args below meth c D cI cJ A H L locs C hl hP hD hS) (fun h => kf h p l e s m args below meth c D cI cJ A H L locs C hl hP hD hS)
theorem g_if_le {x : Int32} {off : Int} {tgt : Nat} (hd : decode M.2.1 pc = .ok (.ifCond .le off, 3)) (ht : (pc : Int) + off = (tgt : Int)) (kt : x ≤ 0 → pG M τ Q k n tgt ls rest w) (kf : ¬ (x ≤ 0) → pG M τ Q k n (pc + 3) ls rest w) : pG M τ Q k n pc ls (.int x :: rest) w := by
  intro p l e s m args below meth c D cI cJ A H L locs C hl hP hD hS
  exact lv_if_le C.1 C.2.1 hd ht (fun h => kt h p l e s m args below meth c D cI cJ A H L locs C hl hP hD hS) (fun h => kf h p l e s m args below meth c D cI cJ A H L locs C hl hP hD hS)
theorem g_icmp_le {x y : Int32} {off : Int} {tgt : Nat} (hd : decode M.2.1 pc = .ok (.if_icmp .le off, 3)) (ht : (pc : Int) + off = (tgt : Int)) (kt : x ≤ y → pG M τ Q k n tgt ls rest w) (kf : ¬ (x ≤ y) → pG M τ Q k n (pc + 3) ls rest w) : pG M τ Q k n pc ls (.int y :: .int x :: rest) w := by
  intro p l e s m args below meth c D cI cJ A H L locs C hl hP hD hS
  exact lv_icmp_le C.1 C.2.1 hd ht (fun h => kt h p l e s m args below meth c D cI cJ A H L locs C hl hP hD hS) (fun h => kf h p l e s m args below meth c D cI cJ A H L locs C hl hP hD hS)
theorem g_goto {off : Int} {tgt : Nat} (hd : decode M.2.1 pc = .ok (.goto off, 3)) (ht : (pc : Int) + off = (tgt : Int)) (kk : pG M τ Q k n tgt ls rest w) : pG M τ Q k n pc ls rest w := by
  intro p l e s m args below meth c D cI cJ A H L locs C hl hP hD hS
  exact lv_goto C.1 C.2.1 hd ht (kk p l e s m args below meth c D cI cJ A H L locs C hl hP hD hS)
theorem g_tableOut {dflt lo hi : Int} {offs : Array Int} {len : Nat} {x : Int32} {tgt : Nat} (hd : decode M.2.1 pc = .ok (.tableswitch dflt lo hi offs, len)) (h : x.toInt < lo ∨ hi < x.toInt) (ht : (pc : Int) + dflt = (tgt : Int)) (kk : pG M τ Q k n tgt ls rest w) : pG M τ Q k n pc ls (.int x :: rest) w := by
  intro p l e s m args below meth c D cI cJ A H L locs C hl hP hD hS
  exact lv_tableOut C.1 C.2.1 hd h ht (kk p l e s m args below meth c D cI cJ A H L locs C hl hP hD hS)
theorem g_tableIn {dflt lo hi : Int} {offs : Array Int} {len : Nat} {x : Int32} {off : Int} {tgt : Nat} (hd : decode M.2.1 pc = .ok (.tableswitch dflt lo hi offs, len)) (h1 : ¬ x.toInt < lo) (h2 : ¬ hi < x.toInt) (ho : offs[(x.toInt - lo).toNat]? = some off) (ht : (pc : Int) + off = (tgt : Int)) (kk : pG M τ Q k n tgt ls rest w) : pG M τ Q k n pc ls (.int x :: rest) w := by
  intro p l e s m args below meth c D cI cJ A H L locs C hl hP hD hS
  exact lv_tableIn C.1 C.2.1 hd h1 h2 ho ht (kk p l e s m args below meth c D cI cJ A H L locs C hl hP hD hS)
theorem g_pick {st : List Value} (ks : List Nat) (ls2 : List (Nat × Value)) (hp : lv_pick ls ks = ls2) (kk : pG M τ Q k n pc ls2 st w) : pG M τ Q k n pc ls st w := by
  intro p l e s m args below meth c D cI cJ A H L locs C hl hP hD hS
  exact kk p l e s m args below meth c D cI cJ A H L locs C (lv_sub hl ks hp) hP hD hS
theorem g_get {ix ci N q a j : Nat} {T : u_T} {Cn : String} {fs : List Value} {v : Value} (hd : decode M.2.1 pc = .ok (.getfield ix, 3)) (he : w[q]? = some (a, .inr (.inr (ci, fs)))) (hc : pCl[ci]? = some (Cn, T, N)) (hin : ∀ w ∈ u_ws Cn T N, w ∈ pTB) (hj : j < N) (hw : Cond.fieldLink M.1.cls ix Cn (T j).2.1 (T j).2.2.1 ∈ pTB) (hcn : (T j).1 = Cn) (hv : fs[j]? = some v) (kk : pG M τ Q k n (pc + 3) ls (v :: rest) w) : pG M τ Q k n pc ls (.ref a :: rest) w := by
  intro p l e s m args below meth c D cI cJ A H L locs C hl hP hD hS
  exact va_get C.1 C.2.1 C.2.2.2.2.1 hin C.2.2.2.2.2.1 C.2.2.2.2.2.2.2.2.1 hP q (p_at he) hc j hj (C.2.2.2.2.1 _ hw) (fun x hx => by rw [← hcn]; exact hx) hv hd (kk p l e s m args below meth c D cI cJ A H L locs C hl hP hD hS)
theorem g_put {ix ci N q a j : Nat} {T : u_T} {Cn : String} {fs : List Value} {v : Value} {ty0 : Nat → FieldType} {ty : FieldType} (w2 : pW) (hd : decode M.2.1 pc = .ok (.putfield ix, 3)) (he : w[q]? = some (a, .inr (.inr (ci, fs)))) (hc : pCl[ci]? = some (Cn, T, N)) (hin : ∀ w ∈ u_ws Cn T N, w ∈ pTB) (hty : ∀ k, k < N → parseFieldDescriptor (T k).2.2.1 = some (ty0 k)) (hnm : ∀ a, a < N → ∀ b, b < N → a ≠ b → (T a).2.1 ≠ (T b).2.1) (hj : j < N) (hw : Cond.fieldLink M.1.cls ix Cn (T j).2.1 (T j).2.2.1 ∈ pTB) (hcn : (T j).1 = Cn) (hfin : (T j).2.2.2 = false) (hpd : parseFieldDescriptor (T j).2.2.1 = some ty) (hn : narrow ty v = v) (hf : fits ty v = true) (hl : j < fs.length) (hs : w.set q (a, .inr (.inr (ci, fs.set j v))) = w2) (kk : pG M τ Q k n (pc + 3) ls rest w2) : pG M τ Q k n pc ls (v :: .ref a :: rest) w := by
  intro p l e s m args below meth c D cI cJ A H L locs C hll hP hD hS
  exact va_put C.1 C.2.1 C.2.2.2.2.1 hin ty0 hty hnm C.2.2.2.2.2.1 C.2.2.2.2.2.2.2.2.1 hP hD hS q (p_at he) hc j hj (C.2.2.2.2.1 _ hw) (fun x hx => by rw [← hcn]; exact hx) hfin hpd hn hf hl hd (fun H locs hP hD hS => by
    rw [show (a, (Sum.inr (ci, fs.set j v) : va_E)) = (a, p_e cI cJ (.inr (.inr (ci, fs.set j v)))) from rfl, p_set] at hP hD
    subst hs
    exact kk p l e s m args below meth c D cI cJ A H L locs C hll hP hD hS)
theorem g_putF {ix ci N q a j : Nat} {T : u_T} {Cn : String} {fs : List Value} {v : Value} {ty0 : Nat → FieldType} {ty : FieldType} (w2 : pW) (hd : decode M.2.1 pc = .ok (.putfield ix, 3)) (he : w[q]? = some (a, .inr (.inr (ci, fs)))) (hc : pCl[ci]? = some (Cn, T, N)) (hin : ∀ w ∈ u_ws Cn T N, w ∈ pTB) (hty : ∀ k, k < N → parseFieldDescriptor (T k).2.2.1 = some (ty0 k)) (hnm : ∀ a, a < N → ∀ b, b < N → a ≠ b → (T a).2.1 ≠ (T b).2.1) (hj : j < N) (hw : Cond.fieldLink M.1.cls ix Cn (T j).2.1 (T j).2.2.1 ∈ pTB) (hcn : (T j).1 = Cn) (hfin : (T j).2.2.2 = true) (hi : M.1.name = "<init>") (ho : Cn = M.1.cls) (hpd : parseFieldDescriptor (T j).2.2.1 = some ty) (hn : narrow ty v = v) (hf : fits ty v = true) (hl : j < fs.length) (hs : w.set q (a, .inr (.inr (ci, fs.set j v))) = w2) (kk : pG M τ Q k n (pc + 3) ls rest w2) : pG M τ Q k n pc ls (v :: .ref a :: rest) w := by
  intro p l e s m args below meth c D cI cJ A H L locs C hll hP hD hS
  exact va_putF C.1 C.2.1 C.2.2.2.2.1 hin ty0 hty hnm C.2.2.2.2.2.1 C.2.2.2.2.2.2.2.2.1 hP hD hS q (p_at he) hc j hj (C.2.2.2.2.1 _ hw) (fun x hx => by rw [← hcn]; exact hx) hfin (C.2.2.2.2.2.2.2.1.trans hi) (hcn.trans ho) hpd hn hf hl hd (fun H locs hP hD hS => by
    rw [show (a, (Sum.inr (ci, fs.set j v) : va_E)) = (a, p_e cI cJ (.inr (.inr (ci, fs.set j v)))) from rfl, p_set] at hP hD
    subst hs
    exact kk p l e s m args below meth c D cI cJ A H L locs C hll hP hD hS)
theorem g_iald {q a N : Nat} {f : Nat → Int32} {i : Int32} {v : Int32} (hd : decode M.2.1 pc = .ok (.iaload, 1)) (he : w[q]? = some (a, .inl (N, f))) (hi : vp_in i N) (hv : f i.toNatClampNeg = v) (kk : pG M τ Q k n (pc + 1) ls (.int v :: rest) w) : pG M τ Q k n pc ls (.int i :: .ref a :: rest) w := by
  intro p l e s m args below meth c D cI cJ A H L locs C hl hP hD hS
  subst hv
  exact va_iald C.1 C.2.1 C.2.2.2.2.2.2.2.2.1 hP q 0 (p_at he) rfl hi hd (kk p l e s m args below meth c D cI cJ A H L locs C hl hP hD hS)
theorem g_lald {q a N : Nat} {f : Nat → Int64} {i : Int32} {v : Int64} (hd : decode M.2.1 pc = .ok (.laload, 1)) (he : w[q]? = some (a, .inr (.inl (N, f)))) (hi : vp_in i N) (hv : f i.toNatClampNeg = v) (kk : pG M τ Q k n (pc + 1) ls (.long v :: rest) w) : pG M τ Q k n pc ls (.int i :: .ref a :: rest) w := by
  intro p l e s m args below meth c D cI cJ A H L locs C hl hP hD hS
  subst hv
  exact va_lald C.1 C.2.1 C.2.2.2.2.2.2.2.2.1 hP q 1 (p_at he) rfl hi hd (kk p l e s m args below meth c D cI cJ A H L locs C hl hP hD hS)
theorem g_iast {q a N : Nat} {f : Nat → Int32} {i : Int32} {x : Int32} (w2 : pW) (hd : decode M.2.1 pc = .ok (.iastore, 1)) (he : w[q]? = some (a, .inl (N, f))) (hi : vp_in i N) (hs : w.set q (a, .inl (N, upd f i.toNatClampNeg x)) = w2) (kk : pG M τ Q k n (pc + 1) ls rest w2) : pG M τ Q k n pc ls (.int x :: .int i :: .ref a :: rest) w := by
  intro p l e s m args below meth c D cI cJ A H L locs C hl hP hD hS
  exact va_iast C.1 C.2.1 C.2.2.2.2.2.2.2.2.1 hP hD hS q 0 (p_at he) rfl hi hd (fun H locs hP hD hS => by
    rw [show (a, (Sum.inl (cI, N, .inl (upd f i.toNatClampNeg x)) : va_E)) = (a, p_e cI cJ (.inl (N, upd f i.toNatClampNeg x))) from rfl, p_set] at hP hD
    subst hs
    exact kk p l e s m args below meth c D cI cJ A H L locs C hl hP hD hS)
theorem g_last {q a N : Nat} {f : Nat → Int64} {i : Int32} {x : Int64} (w2 : pW) (hd : decode M.2.1 pc = .ok (.lastore, 1)) (he : w[q]? = some (a, .inr (.inl (N, f)))) (hi : vp_in i N) (hs : w.set q (a, .inr (.inl (N, vp_updL f i.toNatClampNeg x))) = w2) (kk : pG M τ Q k n (pc + 1) ls rest w2) : pG M τ Q k n pc ls (.long x :: .int i :: .ref a :: rest) w := by
  intro p l e s m args below meth c D cI cJ A H L locs C hl hP hD hS
  exact va_last C.1 C.2.1 C.2.2.2.2.2.2.2.2.1 hP hD hS q 1 (p_at he) rfl hi hd (fun H locs hP hD hS => by
    rw [show (a, (Sum.inl (cJ, N, .inr (.inl (vp_updL f i.toNatClampNeg x))) : va_E)) = (a, p_e cI cJ (.inr (.inl (N, vp_updL f i.toNatClampNeg x)))) from rfl, p_set] at hP hD
    subst hs
    exact kk p l e s m args below meth c D cI cJ A H L locs C hl hP hD hS)
theorem g_alen {q a N : Nat} {f : Nat → Int32} {v : Int32} (hd : decode M.2.1 pc = .ok (.arraylength, 1)) (he : w[q]? = some (a, .inl (N, f))) (hv : Int32.ofNat N = v) (kk : pG M τ Q k n (pc + 1) ls (.int v :: rest) w) : pG M τ Q k n pc ls (.ref a :: rest) w := by
  intro p l e s m args below meth c D cI cJ A H L locs C hl hP hD hS
  exact va_alen C.1 C.2.1 C.2.2.2.2.2.2.2.2.1 hP q 0 (p_at he) (ty := .int) rfl hv hd (kk p l e s m args below meth c D cI cJ A H L locs C hl hP hD hS)
theorem g_iret {v : Int32} (hd : decode M.2.1 pc = .ok (.ireturn, 1)) (hr : M.2.2.2.1 = some .int) (hc : k ≤ M.2.2.2.2.cells) (hm : n ≤ M.2.2.2.2.slots) (hq : Q (some (.int v)) w) : pG M τ Q k n pc ls [.int v] w := by
  intro p l e s m args below meth c D cI cJ A H L locs C hl hP hD hS
  refine W.widen (k := M.2.2.2.2.cells) (n := M.2.2.2.2.slots) hc hm ?_
  exact W.iret C.1 C.2.1 (C.2.2.1.trans hr) (fun t ht hW => ⟨⟨_, w, rfl, hq, by rw [ht]; exact hP, hD⟩, hS.F ht⟩) hS.2.2 hd C.2.2.2.2.2.2.1
theorem g_lret {v : Int64} (hd : decode M.2.1 pc = .ok (.lreturn, 1)) (hr : M.2.2.2.1 = some .long) (hc : k ≤ M.2.2.2.2.cells) (hm : n ≤ M.2.2.2.2.slots) (hq : Q (some (.long v)) w) : pG M τ Q k n pc ls [.long v] w := by
  intro p l e s m args below meth c D cI cJ A H L locs C hl hP hD hS
  refine W.widen (k := M.2.2.2.2.cells) (n := M.2.2.2.2.slots) hc hm ?_
  exact W.lret C.1 C.2.1 (C.2.2.1.trans hr) (fun t ht hW => ⟨⟨_, w, rfl, hq, by rw [ht]; exact hP, hD⟩, hS.F ht⟩) hS.2.2 hd C.2.2.2.2.2.2.1
theorem g_vret  (hd : decode M.2.1 pc = .ok (.return_, 1)) (hr : M.2.2.2.1 = none) (hc : k ≤ M.2.2.2.2.cells) (hm : n ≤ M.2.2.2.2.slots) (hq : Q (none) w) : pG M τ Q k n pc ls [] w := by
  intro p l e s m args below meth c D cI cJ A H L locs C hl hP hD hS
  refine W.widen (k := M.2.2.2.2.cells) (n := M.2.2.2.2.slots) hc hm ?_
  exact W.vret C.1 C.2.1 (C.2.2.1.trans hr) (fun t ht hW => ⟨⟨_, w, rfl, hq, by rw [ht]; exact hP, hD⟩, hS.F ht⟩) hS.2.2 hd C.2.2.2.2.2.2.1
theorem g_zret {v : Int32} (hd : decode M.2.1 pc = .ok (.ireturn, 1)) (hr : M.2.2.2.1 = some .boolean) (hn : narrow .boolean (.int v) = .int v) (hc : k ≤ M.2.2.2.2.cells) (hm : n ≤ M.2.2.2.2.slots) (hq : Q (some (.int v)) w) : pG M τ Q k n pc ls [.int v] w := by
  intro p l e s m args below meth c D cI cJ A H L locs C hl hP hD hS
  refine W.widen (k := M.2.2.2.2.cells) (n := M.2.2.2.2.slots) hc hm ?_
  exact W.zret C.1 C.2.1 (C.2.2.1.trans hr) hn (fun t ht hW => ⟨⟨_, w, rfl, hq, by rw [ht]; exact hP, hD⟩, hS.F ht⟩) hS.2.2 hd C.2.2.2.2.2.2.1
theorem g_getsX {ix : Nat} (hd : decode M.2.1 pc = .ok (.getstatic ix, 3)) (hw : Cond.fieldLink M.1.cls ix "ProofKernel" "NAMED_BY_X" "[I" ∈ pTB) (kk : pG M τ Q k n (pc + 3) ls (.ref τ.1 :: rest) w) : pG M τ Q k n pc ls rest w := by
  intro p l e s m args below meth c D cI cJ A H L locs C hl hP hD hS
  exact va_gets C.1 C.2.1 C.2.2.2.2.2.2.2.2.2.2.1.1.1 hS C.2.2.2.2.2.1 (C.2.2.2.2.1 _ hw) (fun _ h => h) hd (kk p l e s m args below meth c D cI cJ A H L locs C hl hP hD hS)
theorem g_getsXN  (hd : decode M.2.1 pc = .ok (.getstatic 60, 3)) (hm : M.1.cls = R_B) (kk : pG M τ Q k n (pc + 3) ls (.ref τ.1 :: rest) w) : pG M τ Q k n pc ls rest w := by
  intro p l e s m args below meth c D cI cJ A H L locs C hl hP hD hS
  exact va_getsN C.1 C.2.1 C.2.2.2.2.2.2.2.2.2.2.1.1.1 hS (by rw [← hm]; exact C.2.2.2.2.2.1) (va_Nw.use rfl C.2.2.2.2.2.2.2.2.2.2.2.2.2.2.1) (fun _ h => h) hd (kk p l e s m args below meth c D cI cJ A H L locs C hl hP hD hS)
theorem g_saldX {i v : Int32} (hd : decode M.2.1 pc = .ok (.iaload, 1)) (hi : vp_in i 14) (hv : nbx i.toNatClampNeg = v) (kk : pG M τ Q k n (pc + 1) ls (.int v :: rest) w) : pG M τ Q k n pc ls (.int i :: .ref τ.1 :: rest) w := by
  intro p l e s m args below meth c D cI cJ A H L locs C hl hP hD hS
  exact va_ti C.1 C.2.1 C.2.2.2.2.2.2.2.2.2.2.1.1.2 hS hi (by rw [hv]) hd (kk p l e s m args below meth c D cI cJ A H L locs C hl hP hD hS)
theorem g_getsY {ix : Nat} (hd : decode M.2.1 pc = .ok (.getstatic ix, 3)) (hw : Cond.fieldLink M.1.cls ix "ProofKernel" "NAMED_BY_Y" "[I" ∈ pTB) (kk : pG M τ Q k n (pc + 3) ls (.ref τ.2 :: rest) w) : pG M τ Q k n pc ls rest w := by
  intro p l e s m args below meth c D cI cJ A H L locs C hl hP hD hS
  exact va_gets C.1 C.2.1 C.2.2.2.2.2.2.2.2.2.2.1.2.1 hS C.2.2.2.2.2.1 (C.2.2.2.2.1 _ hw) (fun _ h => h) hd (kk p l e s m args below meth c D cI cJ A H L locs C hl hP hD hS)
theorem g_getsYN  (hd : decode M.2.1 pc = .ok (.getstatic 63, 3)) (hm : M.1.cls = R_B) (kk : pG M τ Q k n (pc + 3) ls (.ref τ.2 :: rest) w) : pG M τ Q k n pc ls rest w := by
  intro p l e s m args below meth c D cI cJ A H L locs C hl hP hD hS
  exact va_getsN C.1 C.2.1 C.2.2.2.2.2.2.2.2.2.2.1.2.1 hS (by rw [← hm]; exact C.2.2.2.2.2.1) (va_Nw.use rfl C.2.2.2.2.2.2.2.2.2.2.2.2.2.2.2) (fun _ h => h) hd (kk p l e s m args below meth c D cI cJ A H L locs C hl hP hD hS)
theorem g_saldY {i v : Int32} (hd : decode M.2.1 pc = .ok (.iaload, 1)) (hi : vp_in i 14) (hv : nby i.toNatClampNeg = v) (kk : pG M τ Q k n (pc + 1) ls (.int v :: rest) w) : pG M τ Q k n pc ls (.int i :: .ref τ.2 :: rest) w := by
  intro p l e s m args below meth c D cI cJ A H L locs C hl hP hD hS
  exact va_ti C.1 C.2.1 C.2.2.2.2.2.2.2.2.2.2.1.2.2 hS hi (by rw [hv]) hd (kk p l e s m args below meth c D cI cJ A H L locs C hl hP hD hS)
end pRules
