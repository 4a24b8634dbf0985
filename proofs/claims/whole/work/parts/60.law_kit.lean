/-! THE CLAIM OUT OF ONE WALK OF THE LAW'S BODY. Your part is whole_start (and what it stands on); all else here is the same for every law, but numbers. -/
def R_law : String := "ProofKernelLaw"
def lw_P (b : Addr) (xs : List Int32) (args : Array Value) (s : State) : Prop := args = #[.ref b] ∧ s.IntsAt b xs ∧ xs.length ≤ 2048 ∧ (Jvm.Cond.and given_1 narrow_1).before args s = true
def lw_Q (_ : Array Value) (s : State) (o : Outcome) (t : State) : Prop := o = .returned (some (.int 1)) ∧ Framed s o t [] 30 5664
def lw_Z (below : List Frame) (a : Array Value) (s : State) : State → Prop := fun t => ∃ o, t.status = .running ∧ Ended t below o ∧ lw_Q a s o t
/-- the law's own end, with 1 on the stack, nothing written that was there before, its room as the claim has it -/
theorem lw_ret {p : Program} {l : Launch} {e : Env} {s : State} {m : MethodId} {below : List Frame} {meth : Method} {c : Code} {b : Nat} (hx : p.tables.exec = Jvm.exec) (hb : c.code = code) (hr : meth.sig.returnType = ret) (hlocks : meth.locks = false) {pc : Nat} {H : Heap} {ls : Array Slot} (hdg : decode code pc = .ok (.ireturn, 1)) : W p l e room_1 s m #[Value.ref b] below meth c H [] 30 5664 (lw_Z below #[Value.ref b] s) (F0 m pc ls [.int 1]) := by
  intro T hT X
  obtain ⟨fs, hret, hrun, hended, hW, hframe⟩ := X.leave (v := some (.int 1)) (hlocks := hlocks) (fun h => by rw [hr] at h; cases h)
  have hmeth' : T.vm.method? m = some meth := X.method'
  refine ⟨T.setFrames fs, ?_, .returned (some (.int 1)), hrun, hended, rfl, ⟨_, rfl⟩, hW, hframe⟩
  jvm_step X.here [X.here.top, hx, hb, hdg, hmeth', hr, ret, narrow_b1]
  (try refine ⟨rfl, ?_⟩); (try refine ⟨rfl, ?_⟩)
  first | (intro acts; rw [hret _ acts rfl rfl rfl]) | rw [hret _ _ rfl rfl rfl]
  exact Steps.refl _
/-- what holds at the law's entry: the machine, the code, the tables' words (any of lw_tbl by 'hts w (by decide +kernel)'), the script of L ints xs at the cell b, what the Statement gives of the start (any of its parts by flat_of_before) -/
def lw_At (p : Program) (s : State) (m : MethodId) (meth : Method) (c : Code) (b L : Nat) (xs : Nat → Int32) : Prop :=
  p.tables.exec = Jvm.exec ∧ c.code = code ∧ meth.sig.returnType = ret ∧ c.maxLocals = 4 ∧ s.vm.findClass R_law = some m.cls ∧ (∀ w ∈ lw_tbl, w.before #[Value.ref b] s = true) ∧ va_X b L xs s s.heap ∧ b < s.heap.size ∧ meth.locks = false ∧ (Jvm.Cond.and given_1 narrow_1).before #[Value.ref b] s = true
/-- the law as a method of the calculus (its name is whatever the machine calls it) -/
abbrev m_law (nm : String) : pMD := (⟨R_L, nm, "([I)Z"⟩, code, 4, ret, room_1)
/-- from this point of the law, at this start: the machine comes to QQ -/
def pH (p : Program) (l : Launch) (e : Env) (s : State) (m : MethodId) (args : Array Value) (below : List Frame) (meth : Method) (c : Code) (D : va_G) (cI cJ : ClassId) (A : Nat → Prop) (QQ : State → Prop) (k n pc : Nat) (ls : List (Nat × Value)) (st : List Value) (w : pW) : Prop :=
  ∀ (H : Heap) (L : Array Slot) (locs : List Loc), lv_has L 4 ls → va_P D pCl (p_w cI cJ w) H → va_D A (p_w cI cJ w) → va_S A s.heap H locs → W p l e room_1 s m args below meth c H locs k n QQ (F0 m pc L st)
section pHRules
variable {p : Program} {l : Launch} {e : Env} {s : State} {m : MethodId} {args : Array Value} {below : List Frame} {meth : Method} {c : Code} {D : va_G} {cI cJ : ClassId} {A : Nat → Prop} {QQ : State → Prop} {τ : Nat × Nat} {k n pc : Nat} {ls : List (Nat × Value)} {rest : List Value} {w : pW}
theorem h_aload_n (C : pCx (m_law meth.name) τ p s m args meth c D cI cJ A) {z : Fin 4} {x : Nat} (hd : decode code pc = .ok (.aload_n z, 1)) (hk : ls.lookup (z : Nat) = some (.ref x)) (kk : pH p l e s m args below meth c D cI cJ A QQ k n (pc + 1) ls (.ref x :: rest) w) : pH p l e s m args below meth c D cI cJ A QQ k n pc ls rest w := by
  intro H L locs hl hP hD hS
  exact lv_aload_n C.1 C.2.1 hd rfl (g_look hl hk) (kk H L locs hl hP hD hS)
theorem h_astore_n (C : pCx (m_law meth.name) τ p s m args meth c D cI cJ A) {z : Fin 4} {x : Nat} (ls2 : List (Nat × Value)) (hd : decode code pc = .ok (.astore_n z, 1)) (hn : (z : Nat) < 4) (hs : ((z : Nat), Value.ref x) :: ls.filter (fun q => !(q.1 == (z : Nat)) && !(q.1 + 1 == (z : Nat) && q.2.category == 2)) = ls2) (kk : pH p l e s m args below meth c D cI cJ A QQ k n (pc + 1) ls2 rest w) : pH p l e s m args below meth c D cI cJ A QQ k n pc ls (.ref x :: rest) w := by
  intro H L locs hl hP hD hS
  exact lv_astore_n C.1 C.2.1 hd rfl hl hn hs (fun L hl => kk H L locs hl hP hD hS)
theorem h_iload_n (C : pCx (m_law meth.name) τ p s m args meth c D cI cJ A) {z : Fin 4} {x : Int32} (hd : decode code pc = .ok (.iload_n z, 1)) (hk : ls.lookup (z : Nat) = some (.int x)) (kk : pH p l e s m args below meth c D cI cJ A QQ k n (pc + 1) ls (.int x :: rest) w) : pH p l e s m args below meth c D cI cJ A QQ k n pc ls rest w := by
  intro H L locs hl hP hD hS
  exact lv_iload_n C.1 C.2.1 hd rfl (g_look hl hk) (kk H L locs hl hP hD hS)
theorem h_istore_n (C : pCx (m_law meth.name) τ p s m args meth c D cI cJ A) {z : Fin 4} {x : Int32} (ls2 : List (Nat × Value)) (hd : decode code pc = .ok (.istore_n z, 1)) (hn : (z : Nat) < 4) (hs : ((z : Nat), Value.int x) :: ls.filter (fun q => !(q.1 == (z : Nat)) && !(q.1 + 1 == (z : Nat) && q.2.category == 2)) = ls2) (kk : pH p l e s m args below meth c D cI cJ A QQ k n (pc + 1) ls2 rest w) : pH p l e s m args below meth c D cI cJ A QQ k n pc ls (.int x :: rest) w := by
  intro H L locs hl hP hD hS
  exact lv_istore_n C.1 C.2.1 hd rfl hl hn hs (fun L hl => kk H L locs hl hP hD hS)
theorem h_iconst (C : pCx (m_law meth.name) τ p s m args meth c D cI cJ A) {z : Int} {v : Int32} (hd : decode code pc = .ok (.iconst z, 1)) (hv : Int32.ofInt z = v) (kk : pH p l e s m args below meth c D cI cJ A QQ k n (pc + 1) ls (.int v :: rest) w) : pH p l e s m args below meth c D cI cJ A QQ k n pc ls rest w := by
  intro H L locs hl hP hD hS
  exact lv_iconst C.1 C.2.1 hd hv (kk H L locs hl hP hD hS)
theorem h_bipush (C : pCx (m_law meth.name) τ p s m args meth c D cI cJ A) {z : Int} {v : Int32} (hd : decode code pc = .ok (.bipush z, 2)) (hv : (Int8.ofInt z).toInt32 = v) (kk : pH p l e s m args below meth c D cI cJ A QQ k n (pc + 2) ls (.int v :: rest) w) : pH p l e s m args below meth c D cI cJ A QQ k n pc ls rest w := by
  intro H L locs hl hP hD hS
  exact lv_bipush C.1 C.2.1 hd hv (kk H L locs hl hP hD hS)
theorem h_iand (C : pCx (m_law meth.name) τ p s m args meth c D cI cJ A) {x y : Int32} (hd : decode code pc = .ok (.iand, 1)) (kk : pH p l e s m args below meth c D cI cJ A QQ k n (pc + 1) ls (.int (x &&& y) :: rest) w) : pH p l e s m args below meth c D cI cJ A QQ k n pc ls (.int y :: .int x :: rest) w := by
  intro H L locs hl hP hD hS
  exact lv_iand C.1 C.2.1 hd (kk H L locs hl hP hD hS)
theorem h_iadd (C : pCx (m_law meth.name) τ p s m args meth c D cI cJ A) {x y : Int32} (hd : decode code pc = .ok (.iadd, 1)) (kk : pH p l e s m args below meth c D cI cJ A QQ k n (pc + 1) ls (.int (x + y) :: rest) w) : pH p l e s m args below meth c D cI cJ A QQ k n pc ls (.int y :: .int x :: rest) w := by
  intro H L locs hl hP hD hS
  exact lv_iadd C.1 C.2.1 hd (kk H L locs hl hP hD hS)
theorem h_isub (C : pCx (m_law meth.name) τ p s m args meth c D cI cJ A) {x y : Int32} (hd : decode code pc = .ok (.isub, 1)) (kk : pH p l e s m args below meth c D cI cJ A QQ k n (pc + 1) ls (.int (x - y) :: rest) w) : pH p l e s m args below meth c D cI cJ A QQ k n pc ls (.int y :: .int x :: rest) w := by
  intro H L locs hl hP hD hS
  exact lv_isub C.1 C.2.1 hd (kk H L locs hl hP hD hS)
theorem h_icmp_gt (C : pCx (m_law meth.name) τ p s m args meth c D cI cJ A) {x y : Int32} {off : Int} {tgt : Nat} (hd : decode code pc = .ok (.if_icmp .gt off, 3)) (ht : (pc : Int) + off = (tgt : Int)) (kt : y < x → pH p l e s m args below meth c D cI cJ A QQ k n tgt ls rest w) (kf : ¬ (y < x) → pH p l e s m args below meth c D cI cJ A QQ k n (pc + 3) ls rest w) : pH p l e s m args below meth c D cI cJ A QQ k n pc ls (.int y :: .int x :: rest) w := by
  intro H L locs hl hP hD hS
  exact lv_icmp_gt C.1 C.2.1 hd ht (fun h => kt h H L locs hl hP hD hS) (fun h => kf h H L locs hl hP hD hS)
theorem h_icmp_eq (C : pCx (m_law meth.name) τ p s m args meth c D cI cJ A) {x y : Int32} {off : Int} {tgt : Nat} (hd : decode code pc = .ok (.if_icmp .eq off, 3)) (ht : (pc : Int) + off = (tgt : Int)) (kt : x = y → pH p l e s m args below meth c D cI cJ A QQ k n tgt ls rest w) (kf : ¬ (x = y) → pH p l e s m args below meth c D cI cJ A QQ k n (pc + 3) ls rest w) : pH p l e s m args below meth c D cI cJ A QQ k n pc ls (.int y :: .int x :: rest) w := by
  intro H L locs hl hP hD hS
  exact lv_icmp_eq C.1 C.2.1 hd ht (fun h => kt h H L locs hl hP hD hS) (fun h => kf h H L locs hl hP hD hS)
theorem h_if_eq (C : pCx (m_law meth.name) τ p s m args meth c D cI cJ A) {x : Int32} {off : Int} {tgt : Nat} (hd : decode code pc = .ok (.ifCond .eq off, 3)) (ht : (pc : Int) + off = (tgt : Int)) (kt : x = 0 → pH p l e s m args below meth c D cI cJ A QQ k n tgt ls rest w) (kf : ¬ (x = 0) → pH p l e s m args below meth c D cI cJ A QQ k n (pc + 3) ls rest w) : pH p l e s m args below meth c D cI cJ A QQ k n pc ls (.int x :: rest) w := by
  intro H L locs hl hP hD hS
  exact lv_if_eq C.1 C.2.1 hd ht (fun h => kt h H L locs hl hP hD hS) (fun h => kf h H L locs hl hP hD hS)
theorem h_goto (C : pCx (m_law meth.name) τ p s m args meth c D cI cJ A) {off : Int} {tgt : Nat} (hd : decode code pc = .ok (.goto off, 3)) (ht : (pc : Int) + off = (tgt : Int)) (kk : pH p l e s m args below meth c D cI cJ A QQ k n tgt ls rest w) : pH p l e s m args below meth c D cI cJ A QQ k n pc ls rest w := by
  intro H L locs hl hP hD hS
  exact lv_goto C.1 C.2.1 hd ht (kk H L locs hl hP hD hS)
theorem h_lcmp (C : pCx (m_law meth.name) τ p s m args meth c D cI cJ A) {x y : Int64} (hd : decode code pc = .ok (.lcmp, 1)) (kk : pH p l e s m args below meth c D cI cJ A QQ k n (pc + 1) ls (.int (lg_cmp x y) :: rest) w) : pH p l e s m args below meth c D cI cJ A QQ k n pc ls (.long y :: .long x :: rest) w := by
  intro H L locs hl hP hD hS
  exact W.lcmp C.1 C.2.1 hd (kk H L locs hl hP hD hS)
theorem h_iinc (C : pCx (m_law meth.name) τ p s m args meth c D cI cJ A) {z : Nat} {d : Int} {x v : Int32} (ls2 : List (Nat × Value)) (hd : decode code pc = .ok (.iinc z d, 3)) (hk : ls.lookup z = some (.int x)) (hv : x + Int32.ofInt d = v) (hn : z < 4) (hs : (z, Value.int v) :: ls.filter (fun q => !(q.1 == z) && !(q.1 + 1 == z && q.2.category == 2)) = ls2) (kk : pH p l e s m args below meth c D cI cJ A QQ k n (pc + 3) ls2 rest w) : pH p l e s m args below meth c D cI cJ A QQ k n pc ls rest w := by
  intro H L locs hl hP hD hS
  obtain ⟨j, hj⟩ := List.mem_iff_getElem?.mp (g_mem hk)
  exact lv_iinc C.1 C.2.1 hd hl hj hv hn hs (fun L hl => kk H L locs hl hP hD hS)
theorem h_tableIn (C : pCx (m_law meth.name) τ p s m args meth c D cI cJ A) {dflt lo hi : Int} {offs : Array Int} {len : Nat} {x : Int32} {off : Int} {tgt : Nat} (hd : decode code pc = .ok (.tableswitch dflt lo hi offs, len)) (h1 : ¬ x.toInt < lo) (h2 : ¬ hi < x.toInt) (ho : offs[(x.toInt - lo).toNat]? = some off) (ht : (pc : Int) + off = (tgt : Int)) (kk : pH p l e s m args below meth c D cI cJ A QQ k n tgt ls rest w) : pH p l e s m args below meth c D cI cJ A QQ k n pc ls (.int x :: rest) w := by
  intro H L locs hl hP hD hS
  exact lv_tableIn C.1 C.2.1 hd h1 h2 ho ht (kk H L locs hl hP hD hS)
theorem h_tableOut (C : pCx (m_law meth.name) τ p s m args meth c D cI cJ A) {dflt lo hi : Int} {offs : Array Int} {len : Nat} {x : Int32} {tgt : Nat} (hd : decode code pc = .ok (.tableswitch dflt lo hi offs, len)) (h : x.toInt < lo ∨ hi < x.toInt) (ht : (pc : Int) + dflt = (tgt : Int)) (kk : pH p l e s m args below meth c D cI cJ A QQ k n tgt ls rest w) : pH p l e s m args below meth c D cI cJ A QQ k n pc ls (.int x :: rest) w := by
  intro H L locs hl hP hD hS
  exact lv_tableOut C.1 C.2.1 hd h ht (kk H L locs hl hP hD hS)
theorem h_dup (C : pCx (m_law meth.name) τ p s m args meth c D cI cJ A) {v : Value} (hd : decode code pc = .ok (.dup, 1)) (hv : v.category = 1) (kk : pH p l e s m args below meth c D cI cJ A QQ k n (pc + 1) ls (v :: v :: rest) w) : pH p l e s m args below meth c D cI cJ A QQ k n pc ls (v :: rest) w := by
  intro H L locs hl hP hD hS
  exact lv_dup C.1 C.2.1 hd hv (kk H L locs hl hP hD hS)
theorem h_pick (C : pCx (m_law meth.name) τ p s m args meth c D cI cJ A) {st : List Value} (ks : List Nat) (ls2 : List (Nat × Value)) (hp : lv_pick ls ks = ls2) (kk : pH p l e s m args below meth c D cI cJ A QQ k n pc ls2 st w) : pH p l e s m args below meth c D cI cJ A QQ k n pc ls st w := by
  intro H L locs hl hP hD hS
  exact kk H L locs (lv_sub hl ks hp) hP hD hS
theorem h_topi (C : pCx (m_law meth.name) τ p s m args meth c D cI cJ A) {x : Int32} (y : Int32) (ee : x = y) (kk : pH p l e s m args below meth c D cI cJ A QQ k n pc ls (.int y :: rest) w) : pH p l e s m args below meth c D cI cJ A QQ k n pc ls (.int x :: rest) w := by
  rw [ee]
  exact kk
theorem h_topl (C : pCx (m_law meth.name) τ p s m args meth c D cI cJ A) {x : Int64} (y : Int64) (ee : x = y) (kk : pH p l e s m args below meth c D cI cJ A QQ k n pc ls (.long y :: rest) w) : pH p l e s m args below meth c D cI cJ A QQ k n pc ls (.long x :: rest) w := by
  rw [ee]
  exact kk
theorem h_nadd (C : pCx (m_law meth.name) τ p s m args meth c D cI cJ A) {x y : Nat} (hd : decode code pc = .ok (.iadd, 1)) (kk : pH p l e s m args below meth c D cI cJ A QQ k n (pc + 1) ls (.int (nI (x + y)) :: rest) w) : pH p l e s m args below meth c D cI cJ A QQ k n pc ls (.int (nI y) :: .int (nI x) :: rest) w := h_iadd C hd (by rw [nI_add]; exact kk)
theorem h_niinc (C : pCx (m_law meth.name) τ p s m args meth c D cI cJ A) {x : Nat} {z d : Nat} (ls2 : List (Nat × Value)) (hd : decode code pc = .ok (.iinc z d, 3)) (hk : ls.lookup z = some (.int (nI x))) (hn : z < 4) (hs : (z, Value.int (nI (x + d))) :: ls.filter (fun q => !(q.1 == z) && !(q.1 + 1 == z && q.2.category == 2)) = ls2) (kk : pH p l e s m args below meth c D cI cJ A QQ k n (pc + 3) ls2 rest w) : pH p l e s m args below meth c D cI cJ A QQ k n pc ls rest w := h_iinc C ls2 hd hk (nI_inc x d) hn hs kk
theorem h_callV {M' : pMD} {Q' : Option Value → pW → Prop} {ix b q ci N nA : Nat} {st As : List Value} {T : u_T} {fs : List Value} (C : pCx (m_law meth.name) τ p s m args meth c D cI cJ A) (hd : decode code pc = .ok (.invokevirtual ix, 3)) (hl : Cond.methodLink R_L ix M'.1 ∈ pTB) (hC : pC M' τ (.ref b :: As) w Q') (hok : pV M' nA) (hnA : As.length = nA) (he : w[q]? = some (b, .inr (.inr (ci, fs)))) (hc : pCl[ci]? = some (M'.1.cls, T, N)) (hR : pRm (m_law "law") M' k n) (hst : st = As.reverse ++ .ref b :: rest) (hW : (rest.map fun v => v.category).sum ≤ 8)
    (kk : ∀ (r : Option Value) (w' : pW), Q' r w' → pH p l e s m args below meth c D cI cJ A QQ (k + M'.2.2.2.2.cells) (n + M'.2.2.2.2.slots) (pc + 3) ls (r.toList ++ rest) w') : pH p l e s m args below meth c D cI cJ A QQ k n pc ls st w := by
  intro H L locs hll hP hD hS
  subst hst
  obtain ⟨o1, o2, o3, o4, o5⟩ := hok
  have hG : GoodIn pTB (wsV R_L ix M'.1.cls M'.1 (p_ws M')) := pGood (fun w hw => by
    simp only [wsV, List.cons_append, List.nil_append, List.mem_cons] at hw
    rcases hw with rfl | rfl | rfl | rfl | rfl | hw
    · exact hl
    · exact o2
    · exact o3
    · exact o4
    · exact o1
    · exact hw)
  have hAB := pAB hD hS C.2.2.2.2.2.2.2.2.2.1
  refine pAfter (rest := rest) (va_runV (C := M'.1.cls) (b := b) (As := As) (rest := rest) ⟨C.1, C.2.1, C.2.2.2.1, C.2.2.2.2.2.1, C.2.2.2.2.1⟩ (hC l D cI cJ H.size) (cwV nA C.2.2.2.2.1 hG rfl rfl rfl ⟨rfl, o5⟩ hR.1) ⟨pBlind, va_recv C.2.2.2.2.2.2.2.2.1 hP hc (p_at he), fun U hU hW => pPre _ C hP hD hS U hU hW⟩ rfl hnA hll.1 rfl (lv_room hW) hd hR.2) hS hAB (fun r w' H1 locs1 hq hP1 hD1 hS1 => ?_)
  exact kk r w' hq H1 L locs1 hll hP1 hD1 hS1
theorem h_callI {M' : pMD} {Q' : Option Value → pW → Prop} {ix b nA : Nat} {st As : List Value} (C : pCx (m_law meth.name) τ p s m args meth c D cI cJ A) (hd : decode code pc = .ok (.invokespecial ix, 3)) (hl : Cond.methodLink R_L ix M'.1 ∈ pTB) (hC : pC M' τ (.ref b :: As) w Q') (hok : pI M' nA) (hnA : As.length = nA) (hR : pRm (m_law "law") M' k n) (hst : st = As.reverse ++ .ref b :: rest) (hW : (rest.map fun v => v.category).sum ≤ 8)
    (kk : ∀ (r : Option Value) (w' : pW), Q' r w' → pH p l e s m args below meth c D cI cJ A QQ (k + M'.2.2.2.2.cells) (n + M'.2.2.2.2.slots) (pc + 3) ls (r.toList ++ rest) w') : pH p l e s m args below meth c D cI cJ A QQ k n pc ls st w := by
  intro H L locs hll hP hD hS
  subst hst
  obtain ⟨o1, o2, o3, o4, o6, o5⟩ := hok
  have hG : GoodIn pTB (p_ws M') := pGood (fun w hw => by
    rcases List.mem_cons.mp hw with rfl | hw
    · rw [o4]; exact o1
    · exact hw)
  have hAB := pAB hD hS C.2.2.2.2.2.2.2.2.2.1
  refine pAfter (rest := rest) (va_runI (bytes := M'.2.1) (maxL := M'.2.2.1) (b := b) (As := As) (rest := rest) ⟨C.1, C.2.1, C.2.2.2.1, C.2.2.2.2.2.1, C.2.2.2.2.1⟩ (hC l D cI cJ H.size) (cwI nA C.2.2.2.2.1 hG (by rw [← o4]) rfl rfl (C.2.2.2.2.1 _ o3) (C.2.2.2.2.1 _ hl) (C.2.2.2.2.1 _ o2) o6 o5 hR.1) ⟨pBlind, fun U hU hW => pPre _ C hP hD hS U hU hW⟩ rfl hnA hll.1 rfl (lv_room hW) hd hR.2) hS hAB (fun r w' H1 locs1 hq hP1 hD1 hS1 => ?_)
  exact kk r w' hq H1 L locs1 hll hP1 hD1 hS1
theorem h_new {ix ci N : Nat} {T : u_T} {fs : List Value} (C : pCx (m_law meth.name) τ p s m args meth c D cI cJ A) {Cn : String} {ft : Nat → FieldType} (hd : decode code pc = .ok (.new ix, 3)) (hcl : Cond.classLink R_L ix Cn ∈ pTB) (hins : Cond.instantiable Cn N ∈ pTB) (hini : Cond.initialized Cn ∈ pTB) (hc : pCl[ci]? = some (Cn, T, N)) (hin : ∀ w ∈ u_ws Cn T N, w ∈ pTB) (hty : ∀ k, k < N → parseFieldDescriptor (T k).2.2.1 = some (ft k)) (hfs : ∀ j, j < N → defaultValue (ft j) = vp_V fs j) (hk : k + 1 ≤ room_1.cells) (hn : n + N ≤ room_1.slots)
    (kk : ∀ a : Nat, pH p l e s m args below meth c D cI cJ A QQ (k + 1) (n + N) (pc + 3) ls (.ref a :: rest) (w ++ [(a, .inr (.inr (ci, fs)))])) : pH p l e s m args below meth c D cI cJ A QQ k n pc ls rest w := by
  intro H L locs hll hP hD hS
  refine va_new C.1 C.2.1 C.2.2.2.2.1 hin ft hty C.2.2.2.2.2.1 (C.2.2.2.2.1 _ hcl) (C.2.2.2.2.1 _ hins) (C.2.2.2.2.1 _ hini) C.2.2.2.2.2.2.2.2.1 hP hD hS C.2.2.2.2.2.2.2.2.2.1 hc hfs hk hn hd (fun a H1 hP1 hD1 hS1 => ?_)
  rw [show ([(a, Sum.inr (ci, fs))] : va_W) = p_w cI cJ [(a, .inr (.inr (ci, fs)))] from rfl, ← p_app] at hP1 hD1
  exact kk a H1 L locs hll hP1 hD1 hS1
theorem h_perm {st : List Value} (C : pCx (m_law meth.name) τ p s m args meth c D cI cJ A) {w2 : pW} (h : w.Perm w2) (kk : pH p l e s m args below meth c D cI cJ A QQ k n pc ls st w2) : pH p l e s m args below meth c D cI cJ A QQ k n pc ls st w := by
  intro H L locs hll hP hD hS
  have hp : (p_w cI cJ w).Perm (p_w cI cJ w2) := h.map _
  refine kk H L locs hll ?_ ?_ hS
  · intro j q hj
    obtain ⟨i, hi⟩ := List.mem_iff_getElem?.mp (hp.symm.subset (List.mem_of_getElem? hj))
    exact hP i q hi
  · refine ⟨?_, fun j q hj => ?_⟩
    · have nd : (p_w cI cJ w).Pairwise (fun x y => x.1 ≠ y.1) := by
        rw [List.pairwise_iff_getElem]
        intro i j hi hj hij e
        have := hD.1 i j _ _ (List.getElem?_eq_getElem hi) (List.getElem?_eq_getElem hj) e
        omega
      have nd2 : (p_w cI cJ w2).Pairwise (fun x y => x.1 ≠ y.1) := (hp.pairwise_iff (fun h e => h e.symm)).mp nd
      rw [List.pairwise_iff_getElem] at nd2
      intro i j x y hi hj e
      obtain ⟨hi', rfl⟩ := List.getElem?_eq_some_iff.mp hi
      obtain ⟨hj', rfl⟩ := List.getElem?_eq_some_iff.mp hj
      rcases Nat.lt_trichotomy i j with h | h | h
      · exact absurd e (nd2 i j hi' hj' h)
      · exact h
      · exact absurd e.symm (nd2 j i hj' hi' h)
    · obtain ⟨i, hi⟩ := List.mem_iff_getElem?.mp (hp.symm.subset (List.mem_of_getElem? hj))
      exact hD.2 i q hi
theorem h_sld (C : pCx (m_law meth.name) τ p s m args meth c D cI cJ A) {b Ln : Nat} {xs : Nat → Int32} (hX : va_X b Ln xs s s.heap) (hbl : b < s.heap.size) (hbA : ¬ A b) {i v : Int32} (hd : decode code pc = .ok (.iaload, 1)) (hin : vp_in i Ln) (hv : xs i.toNatClampNeg = v) (kk : pH p l e s m args below meth c D cI cJ A QQ k n (pc + 1) ls (.int v :: rest) w) : pH p l e s m args below meth c D cI cJ A QQ k n pc ls (.int i :: .ref b :: rest) w := by
  intro H L locs hl hP hD hS
  exact va_sld C.1 C.2.1 hX hbl hbA hS hin hd (by rw [hv]; exact kk H L locs hl hP hD hS)
theorem h_slen (C : pCx (m_law meth.name) τ p s m args meth c D cI cJ A) {b Ln : Nat} {xs : Nat → Int32} (hX : va_X b Ln xs s s.heap) (hbl : b < s.heap.size) (hbA : ¬ A b) (hd : decode code pc = .ok (.arraylength, 1)) (kk : pH p l e s m args below meth c D cI cJ A QQ k n (pc + 1) ls (.int (nI Ln) :: rest) w) : pH p l e s m args below meth c D cI cJ A QQ k n pc ls (.ref b :: rest) w := by
  intro H L locs hl hP hD hS
  exact va_slen C.1 C.2.1 hX hbl hbA hS hd (kk H L locs hl hP hD hS)
end pHRules
