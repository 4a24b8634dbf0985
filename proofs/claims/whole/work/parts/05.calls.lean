/-! Calls, new objects and arrays, in the calculus pG. -/
def pV (M : pMD) (nA : Nat) : Prop := Cond.code M.1 M.2.1 M.2.2.1 M.2.2.2.1 ∈ pTB ∧ Cond.instanceMethod M.1 ∈ pTB ∧ Cond.selects M.1.cls M.1 M.1 ∈ pTB ∧ Cond.initialized M.1.cls ∈ pTB ∧ (M.1.cls ≠ "java/lang/invoke/MethodHandle" ∧ M.1.cls ≠ "java/lang/invoke/VarHandle" ∧ (parseMethodDescriptor M.1.desc).map (fun d => d.parameters.length) = some nA)
def pS (M : pMD) (nA : Nat) : Prop := Cond.code M.1 M.2.1 M.2.2.1 M.2.2.2.1 ∈ pTB ∧ Cond.static M.1 ∈ pTB ∧ Cond.initialized M.1.cls ∈ pTB ∧ (M.1.cls ≠ "java/lang/invoke/MethodHandle" ∧ M.1.cls ≠ "java/lang/invoke/VarHandle" ∧ (parseMethodDescriptor M.1.desc).map (fun d => d.parameters.length) = some nA)
def pI (M : pMD) (nA : Nat) : Prop := Cond.code M.1 M.2.1 M.2.2.1 none ∈ pTB ∧ Cond.instanceMethod M.1 ∈ pTB ∧ Cond.initialized M.1.cls ∈ pTB ∧ M.2.2.2.1 = none ∧ M.1.name = "<init>" ∧ (M.1.cls ≠ "java/lang/invoke/MethodHandle" ∧ M.1.cls ≠ "java/lang/invoke/VarHandle" ∧ (parseMethodDescriptor M.1.desc).map (fun d => d.parameters.length) = some nA)
abbrev pRm (M M' : pMD) (k n : Nat) : Prop := (M'.2.2.2.2.frames + 1 ≤ M.2.2.2.2.frames ∧ 8 + (M'.2.2.1 + 11) + M'.2.2.2.2.locals ≤ M.2.2.2.2.locals) ∧ k + M'.2.2.2.2.cells ≤ M.2.2.2.2.cells ∧ n + M'.2.2.2.2.slots ≤ M.2.2.2.2.slots
theorem pGood {ws : List Cond} (h : ∀ w ∈ ws, w ∈ pTB) : GoodIn pTB ws := fun w hw => ⟨h w hw, pTBg (h w hw)⟩
theorem pAB {A : Nat → Prop} {cI cJ : ClassId} {w : pW} {s : State} {H : Heap} {locs : List Loc} (hD : va_D A (p_w cI cJ w)) (hS : va_S A s.heap H locs) (hA : ∀ q, s.heap.size ≤ q → A q) : ∀ q, va_A (p_w cI cJ w) H.size q → A q := by
  intro q h
  rcases h with ⟨k, e, h⟩ | h
  · exact hD.2 k (q, e) h
  · exact hA q (Nat.le_trans hS.1 h)
theorem pBlind {τ : Nat × Nat} {as : List Value} {w : pW} {D : va_G} {cI cJ : ClassId} {sz : Nat} : FrameBlind (va_Pc as (fun U => U.heap.size = sz ∧ va_P D pCl (p_w cI cJ w) U.heap ∧ va_K D pCl (pTy cI cJ) U ∧ va_D (fun _ => True) (p_w cI cJ w) ∧ pZ τ (va_A (p_w cI cJ w) sz) U U.heap)) := fun a U g mk q => by
  obtain ⟨q0, q1, qP, qK, qD, qZ⟩ := q
  exact ⟨q0, q1, qP, va_K.moved (u := U) (U := U.calling g mk a) (Vm.Alike.refl U.vm) qK, qD, pZ.blind g mk a qZ⟩
theorem pPre {M : pMD} {τ : Nat × Nat} {p : Program} {s : State} {m : MethodId} {args : Array Value} {meth : Method} {c : Code} {D : va_G} {cI cJ : ClassId} {A : Nat → Prop} {H : Heap} {locs : List Loc} {w : pW} (as : List Value) (C : pCx M τ p s m args meth c D cI cJ A) (hP : va_P D pCl (p_w cI cJ w) H) (hD : va_D A (p_w cI cJ w)) (hS : va_S A s.heap H locs) (U : State) (hU : U.heap = H) (hW : s.WarmedH U.vm) :
    va_Pc as (fun U => U.heap.size = H.size ∧ va_P D pCl (p_w cI cJ w) U.heap ∧ va_K D pCl (pTy cI cJ) U ∧ va_D (fun _ => True) (p_w cI cJ w) ∧ pZ τ (va_A (p_w cI cJ w) H.size) U U.heap) as.toArray U :=
  ⟨rfl, by rw [hU], by rw [hU]; exact hP, va_K.moved hW.alike C.2.2.2.2.2.2.2.2.1, hD.weaken (fun _ _ _ _ => trivial), pZ.go hS (pAB hD hS C.2.2.2.2.2.2.2.2.2.1) hU hW C.2.2.2.2.2.2.2.2.2.2⟩
theorem pAfter {p : Program} {l : Launch} {e : Env} {R : Room} {s : State} {m : MethodId} {args : Array Value} {below : List Frame} {meth : Method} {c : Code} {H : Heap} {locs : List Loc} {k n mc ms pc : Nat} {L : Array Slot} {st rest : List Value} {D : va_G} {cI cJ : ClassId} {A B : Nat → Prop} {Q' : Option Value → pW → Prop} {a : Array Value} {QQ : State → Prop}
    (hr : va_Run p l e R s m args below meth c H locs k n mc ms (F0 m pc L st) rest (pQc D cI cJ B Q' a) B) (hS : va_S A s.heap H locs) (hAB : ∀ q, B q → A q)
    (kk : ∀ (r : Option Value) (w' : pW) (H1 : Heap) (locs1 : List Loc), Q' r w' → va_P D pCl (p_w cI cJ w') H1 → va_D A (p_w cI cJ w') → va_S A s.heap H1 locs1 → W p l e R s m args below meth c H1 locs1 (k + mc) (n + ms) QQ (F0 m (pc + 3) L (r.toList ++ rest))) :
    W p l e R s m args below meth c H locs k n QQ (F0 m pc L st) := by
  intro T hT X
  obtain ⟨v, st₀, t, T', L', h0, X', hL, e1, e2, ⟨⟨r, w', hv, hq, hP', hD'⟩, hz, hk⟩, stp⟩ := hr T hT X
  cases hv
  rw [h0] at hz hk
  obtain ⟨t2, a1, b1⟩ := kk v w' T'.heap (locs ++ L') hq (by rw [e1]; exact hP') (hD'.weaken (fun _ _ _ h => hAB _ h))
    ⟨Nat.le_trans hS.1 (by rw [e1]; exact hz), fun q h1 h2 => by rw [e1, hk q (Nat.lt_of_lt_of_le h1 hS.1) (fun z => h2 (hAB q z))]; exact hS.2.1 q h1 h2, fun q hq => by
      rcases List.mem_append.mp hq with h | h
      · exact hS.2.2 q h
      · exact hAB _ (hL q h)⟩ T' rfl X'
  exact ⟨t2, stp t2 a1, b1⟩
section pCalls
variable {M M' : pMD} {τ : Nat × Nat} {Q Q' : Option Value → pW → Prop} {k n pc ix b q ci N nA : Nat} {ls : List (Nat × Value)} {st rest As : List Value} {w : pW} {T : u_T} {fs : List Value}
theorem g_callV (hd : decode M.2.1 pc = .ok (.invokevirtual ix, 3)) (hl : Cond.methodLink M.1.cls ix M'.1 ∈ pTB) (hC : pC M' τ (.ref b :: As) w Q') (hok : pV M' nA) (hnA : As.length = nA) (he : w[q]? = some (b, .inr (.inr (ci, fs)))) (hc : pCl[ci]? = some (M'.1.cls, T, N)) (hR : pRm M M' k n) (hst : st = As.reverse ++ .ref b :: rest) (hW : (rest.map fun v => v.category).sum ≤ 8)
    (kk : ∀ (r : Option Value) (w' : pW), Q' r w' → pG M τ Q (k + M'.2.2.2.2.cells) (n + M'.2.2.2.2.slots) (pc + 3) ls (r.toList ++ rest) w') : pG M τ Q k n pc ls st w := by
  intro p l e s m args below meth c D cI cJ A H L locs C hll hP hD hS
  subst hst
  obtain ⟨o1, o2, o3, o4, o5⟩ := hok
  have hG : GoodIn pTB (wsV M.1.cls ix M'.1.cls M'.1 (p_ws M')) := pGood (fun w hw => by
    simp only [wsV, List.cons_append, List.nil_append, List.mem_cons] at hw
    rcases hw with rfl | rfl | rfl | rfl | rfl | hw
    · exact hl
    · exact o2
    · exact o3
    · exact o4
    · exact o1
    · exact hw)
  have hAB := pAB hD hS C.2.2.2.2.2.2.2.2.2.1
  refine pAfter (rest := rest) (va_runV (C := M'.1.cls) (b := b) (As := As) (rest := rest) ⟨C.1, C.2.1, C.2.2.2.1, C.2.2.2.2.2.1, C.2.2.2.2.1⟩ (hC l D cI cJ H.size) (cwV nA C.2.2.2.2.1 hG rfl rfl rfl ⟨rfl, o5⟩ hR.1) ⟨pBlind, va_recv C.2.2.2.2.2.2.2.2.1 hP hc (p_at he), fun U hU hW => pPre _ C hP hD hS U hU hW⟩ rfl hnA hll.1 rfl (lv_room hW) hd hR.2) hS hAB (fun r w' H1 locs1 hq hP1 hD1 hS1 => ?_)
  exact kk r w' hq p l e s m args below meth c D cI cJ A H1 L locs1 C hll hP1 hD1 hS1
theorem g_callS (hd : decode M.2.1 pc = .ok (.invokestatic ix, 3)) (hl : Cond.methodLink M.1.cls ix M'.1 ∈ pTB) (hC : pC M' τ As w Q') (hok : pS M' nA) (hnA : As.length = nA) (hR : pRm M M' k n) (hst : st = As.reverse ++ rest) (hW : (rest.map fun v => v.category).sum ≤ 8)
    (kk : ∀ (r : Option Value) (w' : pW), Q' r w' → pG M τ Q (k + M'.2.2.2.2.cells) (n + M'.2.2.2.2.slots) (pc + 3) ls (r.toList ++ rest) w') : pG M τ Q k n pc ls st w := by
  intro p l e s m args below meth c D cI cJ A H L locs C hll hP hD hS
  subst hst
  obtain ⟨o1, o2, o3, o5⟩ := hok
  have hG : GoodIn pTB (va_wsS M.1.cls ix M'.1 (p_ws M')) := pGood (fun w hw => by
    simp only [va_wsS, List.cons_append, List.nil_append, List.mem_cons] at hw
    rcases hw with rfl | rfl | rfl | rfl | hw
    · exact hl
    · exact o2
    · exact o3
    · exact o1
    · exact hw)
  have hAB := pAB hD hS C.2.2.2.2.2.2.2.2.2.1
  refine pAfter (rest := rest) (va_runS (As := As) (rest := rest) ⟨C.1, C.2.1, C.2.2.2.1, C.2.2.2.2.2.1, C.2.2.2.2.1⟩ (hC l D cI cJ H.size) (va_cwS nA C.2.2.2.2.1 hG rfl rfl rfl o5 hR.1) ⟨pBlind, fun U hU hW => pPre _ C hP hD hS U hU hW⟩ rfl hnA hll.1 rfl (lv_room hW) hd hR.2) hS hAB (fun r w' H1 locs1 hq hP1 hD1 hS1 => ?_)
  exact kk r w' hq p l e s m args below meth c D cI cJ A H1 L locs1 C hll hP1 hD1 hS1
/-- Book calls the private static isIn of its nest's host -/
theorem g_callSN (hd : decode M.2.1 pc = .ok (.invokestatic 35, 3)) (hm : M.1.cls = R_B) (hm' : M'.1 = y_K_isIn) (hC : pC M' τ As w Q') (hok : pS M' nA) (hnA : As.length = nA) (hR : pRm M M' k n) (hst : st = As.reverse ++ rest) (hW : (rest.map fun v => v.category).sum ≤ 8)
    (kk : ∀ (r : Option Value) (w' : pW), Q' r w' → pG M τ Q (k + M'.2.2.2.2.cells) (n + M'.2.2.2.2.slots) (pc + 3) ls (r.toList ++ rest) w') : pG M τ Q k n pc ls st w := by
  intro p l e s m args below meth c D cI cJ A H L locs C hll hP hD hS
  subst hst
  obtain ⟨o1, o2, o3, o5⟩ := hok
  have hG : GoodIn pTB (p_ws M') := pGood (fun w hw => by
    rcases List.mem_cons.mp hw with rfl | hw
    · exact o1
    · exact hw)
  have hAB := pAB hD hS C.2.2.2.2.2.2.2.2.2.1
  refine pAfter (rest := rest) (va_runSN (own := R_B) (host := "ProofKernel") (As := As) (rest := rest) ⟨C.1, C.2.1, C.2.2.2.1, by rw [← hm]; exact C.2.2.2.2.2.1, C.2.2.2.2.1⟩ (hC l D cI cJ H.size) ⟨va_cnB nA C.2.2.2.2.1 hG rfl rfl rfl (by rw [hm']; exact C.2.2.2.2.2.2.2.2.2.2.2.2.2.1) (C.2.2.2.2.1 _ o3) o5 hR.1, C.2.2.2.2.1 _ o2, trivial⟩ ⟨pBlind, fun U hU hW => pPre _ C hP hD hS U hU hW⟩ rfl hnA hll.1 rfl (lv_room hW) hd hR.2) hS hAB (fun r w' H1 locs1 hq hP1 hD1 hS1 => ?_)
  exact kk r w' hq p l e s m args below meth c D cI cJ A H1 L locs1 C hll hP1 hD1 hS1
theorem g_callI (hd : decode M.2.1 pc = .ok (.invokespecial ix, 3)) (hl : Cond.methodLink M.1.cls ix M'.1 ∈ pTB) (hC : pC M' τ (.ref b :: As) w Q') (hok : pI M' nA) (hnA : As.length = nA) (hR : pRm M M' k n) (hst : st = As.reverse ++ .ref b :: rest) (hW : (rest.map fun v => v.category).sum ≤ 8)
    (kk : ∀ (r : Option Value) (w' : pW), Q' r w' → pG M τ Q (k + M'.2.2.2.2.cells) (n + M'.2.2.2.2.slots) (pc + 3) ls (r.toList ++ rest) w') : pG M τ Q k n pc ls st w := by
  intro p l e s m args below meth c D cI cJ A H L locs C hll hP hD hS
  subst hst
  obtain ⟨o1, o2, o3, o4, o6, o5⟩ := hok
  have hG : GoodIn pTB (p_ws M') := pGood (fun w hw => by
    rcases List.mem_cons.mp hw with rfl | hw
    · rw [o4]; exact o1
    · exact hw)
  have hAB := pAB hD hS C.2.2.2.2.2.2.2.2.2.1
  refine pAfter (rest := rest) (va_runI (bytes := M'.2.1) (maxL := M'.2.2.1) (b := b) (As := As) (rest := rest) ⟨C.1, C.2.1, C.2.2.2.1, C.2.2.2.2.2.1, C.2.2.2.2.1⟩ (hC l D cI cJ H.size) (cwI nA C.2.2.2.2.1 hG (by rw [← o4]) rfl rfl (C.2.2.2.2.1 _ o3) (C.2.2.2.2.1 _ hl) (C.2.2.2.2.1 _ o2) o6 o5 hR.1) ⟨pBlind, fun U hU hW => pPre _ C hP hD hS U hU hW⟩ rfl hnA hll.1 rfl (lv_room hW) hd hR.2) hS hAB (fun r w' H1 locs1 hq hP1 hD1 hS1 => ?_)
  exact kk r w' hq p l e s m args below meth c D cI cJ A H1 L locs1 C hll hP1 hD1 hS1
/-- ProofKernel calls the private constructors of Shelf and Book -/
theorem g_callIN (hd : decode M.2.1 pc = .ok (.invokespecial ix, 3)) (hm : M.1.cls = R_K) (hl : ∀ U, pN U → va_Nw (.methodLinkNest R_K ix M'.1 "ProofKernel") U) (hC : pC M' τ (.ref b :: As) w Q') (hok : pI M' nA) (hnA : As.length = nA) (hR : pRm M M' k n) (hst : st = As.reverse ++ .ref b :: rest) (hW : (rest.map fun v => v.category).sum ≤ 8)
    (kk : ∀ (r : Option Value) (w' : pW), Q' r w' → pG M τ Q (k + M'.2.2.2.2.cells) (n + M'.2.2.2.2.slots) (pc + 3) ls (r.toList ++ rest) w') : pG M τ Q k n pc ls st w := by
  intro p l e s m args below meth c D cI cJ A H L locs C hll hP hD hS
  subst hst
  obtain ⟨o1, o2, o3, o4, o6, o5⟩ := hok
  have hG : GoodIn pTB (p_ws M') := pGood (fun w hw => by
    rcases List.mem_cons.mp hw with rfl | hw
    · rw [o4]; exact o1
    · exact hw)
  have hAB := pAB hD hS C.2.2.2.2.2.2.2.2.2.1
  refine pAfter (rest := rest) (va_runIN (own := R_K) (host := "ProofKernel") (bytes := M'.2.1) (maxL := M'.2.2.1) (b := b) (As := As) (rest := rest) ⟨C.1, C.2.1, C.2.2.2.1, by rw [← hm]; exact C.2.2.2.2.2.1, C.2.2.2.2.1⟩ (hC l D cI cJ H.size) ⟨va_cnB nA C.2.2.2.2.1 hG (by rw [← o4]) rfl rfl (hl s C.2.2.2.2.2.2.2.2.2.2.2) (C.2.2.2.2.1 _ o3) o5 hR.1, o6, C.2.2.2.2.1 _ o2⟩ ⟨pBlind, fun U hU hW => pPre _ C hP hD hS U hU hW⟩ rfl hnA hll.1 rfl (lv_room hW) hd hR.2) hS hAB (fun r w' H1 locs1 hq hP1 hD1 hS1 => ?_)
  exact kk r w' hq p l e s m args below meth c D cI cJ A H1 L locs1 C hll hP1 hD1 hS1
theorem g_objInit (hd : decode M.2.1 pc = .ok (.invokespecial ix, 3)) (hl : Cond.methodLink M.1.cls ix objectInit ∈ pTB) (hf : 1 ≤ M.2.2.2.2.frames) (hW : (rest.map fun v => v.category).sum + 12 ≤ M.2.2.2.2.locals) (kk : pG M τ Q k n (pc + 3) ls rest w) : pG M τ Q k n pc ls (.ref b :: rest) w := by
  intro p l e s m args below meth c D cI cJ A H L locs C hll hP hD hS
  exact W.objInit C.1 C.2.1 C.2.2.2.2.2.1 (C.2.2.2.2.1 _ hl) (C.2.2.2.2.1 _ pw_oi1) (C.2.2.2.2.1 _ pw_oi2) rfl (by rw [C.2.2.2.1]; exact hll.1) rfl hd hf (by show 2 * 0 + _ + 12 ≤ _; omega) (kk p l e s m args below meth c D cI cJ A H L locs C hll hP hD hS)
theorem g_mmin {x y v : Int32} (hd : decode M.2.1 pc = .ok (.invokestatic ix, 3)) (hl : Cond.methodLink M.1.cls ix Lib.Math.min.name ∈ pTB) (hf : 1 ≤ M.2.2.2.2.frames) (hW : (rest.map fun v => v.category).sum + 13 ≤ M.2.2.2.2.locals) (hc : k ≤ M.2.2.2.2.cells ∧ n ≤ M.2.2.2.2.slots) (hv : (if y < x then y else x) = v) (kk : pG M τ Q k n (pc + 3) ls (.int v :: rest) w) : pG M τ Q k n pc ls (.int y :: .int x :: rest) w := by
  intro p l e s m args below meth c D cI cJ A H L locs C hll hP hD hS
  subst hv
  exact va_mmin C.1 C.2.1 (C.2.2.2.1.trans hll.1.symm) C.2.2.2.2.2.1 (C.2.2.2.2.1 _ hl) (C.2.2.2.2.1 _ pw_mm1) (C.2.2.2.2.1 _ pw_mm2) (C.2.2.2.2.1 _ pw_mm3) hf hW hc.1 hc.2 hd (kk p l e s m args below meth c D cI cJ A H L locs C hll hP hD hS)
theorem g_copyi {q0 q1 a0 a n0 n1 : Nat} {f g : Nat → Int32} {sp dp z : Int32} (w2 : pW) (hd : decode M.2.1 pc = .ok (.invokestatic ix, 3)) (hl : Cond.methodLink M.1.cls ix arraycopyName ∈ pTB) (hf : 1 ≤ M.2.2.2.2.frames) (hW : (rest.map fun v => v.category).sum + (nativeFrameWords "java/lang/System" "arraycopy" 5 + 11) ≤ M.2.2.2.2.locals)
    (h0 : w[q0]? = some (a0, .inl (n0, f))) (h1 : w[q1]? = some (a, .inl (n1, g))) (e1 : ¬ sp < 0) (e2 : ¬ dp < 0) (e3 : ¬ z < 0) (e4 : sp.toNatClampNeg + z.toNatClampNeg ≤ n0) (e5 : dp.toNatClampNeg + z.toNatClampNeg ≤ n1) (hs : w.set q1 (a, .inl (n1, va_cpy f g sp.toNatClampNeg dp.toNatClampNeg z.toNatClampNeg)) = w2)
    (kk : pG M τ Q k n (pc + 3) ls rest w2) : pG M τ Q k n pc ls (.int z :: .int dp :: .ref a :: .int sp :: .ref a0 :: rest) w := by
  intro p l e s m args below meth c D cI cJ A H L locs C hll hP hD hS
  refine va_copyi C.1 C.2.1 (C.2.2.2.1.trans hll.1.symm) C.2.2.2.2.2.1 (C.2.2.2.2.1 _ hl) (C.2.2.2.2.1 _ pw_ac1) (C.2.2.2.2.1 _ pw_ac2) (C.2.2.2.2.1 _ pw_ac3) C.2.2.2.2.2.2.2.2.1 hP hD hS q0 q1 0 0 (p_at h0) (p_at h1) rfl rfl rfl e1 e2 e3 e4 e5 (fun _ _ => rfl) hf hW hd (fun H locs hP hD hS => ?_)
  rw [show (a, (Sum.inl (cI, n1, .inl (va_cpy f g sp.toNatClampNeg dp.toNatClampNeg z.toNatClampNeg)) : va_E)) = (a, p_e cI cJ (.inl (n1, va_cpy f g sp.toNatClampNeg dp.toNatClampNeg z.toNatClampNeg))) from rfl, p_set] at hP hD
  subst hs
  exact kk p l e s m args below meth c D cI cJ A H L locs C hll hP hD hS
theorem g_new {Cn : String} {ft : Nat → FieldType} (hd : decode M.2.1 pc = .ok (.new ix, 3)) (hcl : Cond.classLink M.1.cls ix Cn ∈ pTB) (hins : Cond.instantiable Cn N ∈ pTB) (hini : Cond.initialized Cn ∈ pTB) (hc : pCl[ci]? = some (Cn, T, N)) (hin : ∀ w ∈ u_ws Cn T N, w ∈ pTB) (hty : ∀ k, k < N → parseFieldDescriptor (T k).2.2.1 = some (ft k)) (hfs : ∀ j, j < N → defaultValue (ft j) = vp_V fs j) (hk : k + 1 ≤ M.2.2.2.2.cells) (hn : n + N ≤ M.2.2.2.2.slots)
    (kk : ∀ a : Nat, pG M τ Q (k + 1) (n + N) (pc + 3) ls (.ref a :: rest) (w ++ [(a, .inr (.inr (ci, fs)))])) : pG M τ Q k n pc ls rest w := by
  intro p l e s m args below meth c D cI cJ A H L locs C hll hP hD hS
  refine va_new C.1 C.2.1 C.2.2.2.2.1 hin ft hty C.2.2.2.2.2.1 (C.2.2.2.2.1 _ hcl) (C.2.2.2.2.1 _ hins) (C.2.2.2.2.1 _ hini) C.2.2.2.2.2.2.2.2.1 hP hD hS C.2.2.2.2.2.2.2.2.2.1 hc hfs hk hn hd (fun a H1 hP1 hD1 hS1 => ?_)
  rw [show ([(a, Sum.inr (ci, fs))] : va_W) = p_w cI cJ [(a, .inr (.inr (ci, fs)))] from rfl, ← p_app] at hP1 hD1
  exact kk a p l e s m args below meth c D cI cJ A H1 L locs C hll hP1 hD1 hS1
theorem g_newI {z : Int32} (hd : decode M.2.1 pc = .ok (.newarray .int, 2)) (hz : ¬ z < 0) (hN : z.toNatClampNeg = N) (hb : N * 4 ≤ 536870912) (hk : k + 1 ≤ M.2.2.2.2.cells) (hn : n + N ≤ M.2.2.2.2.slots)
    (kk : ∀ a : Nat, pG M τ Q (k + 1) (n + N) (pc + 2) ls (.ref a :: rest) (w ++ [(a, .inl (N, fun _ => 0))])) : pG M τ Q k n pc ls (.int z :: rest) w := by
  intro p l e s m args below meth c D cI cJ A H L locs C hll hP hD hS
  refine va_newa (atype := .int) (a0 := (N, .inl (fun _ => 0))) C.1 C.2.1 (C.2.2.2.2.1 _ pw_aI) rfl C.2.2.2.2.2.2.2.2.1 hP hD hS C.2.2.2.2.2.2.2.2.2.1 (fun cA => rfl) hz hN hb hk hn hd (fun a cA H1 hK1 hP1 hD1 hS1 => ?_)
  have e1 : cA = cI := by
    have h1 : s.vm.findClass _ = some cA := (hK1.2 2 (cA, .int) rfl).2
    have h2 : s.vm.findClass _ = some cI := (hK1.2 0 (cI, .int) rfl).2
    exact Option.some.inj (h1.symm.trans h2)
  subst e1
  rw [show ([(a, Sum.inl (cA, N, .inl (fun _ => 0)))] : va_W) = p_w cA cJ [(a, .inl (N, fun _ => 0))] from rfl, ← p_app] at hP1 hD1
  exact kk a p l e s m args below meth c D cA cJ A H1 L locs C hll hP1 hD1 hS1
theorem g_newJ {z : Int32} (hd : decode M.2.1 pc = .ok (.newarray .long, 2)) (hz : ¬ z < 0) (hN : z.toNatClampNeg = N) (hb : N * 8 ≤ 536870912) (hk : k + 1 ≤ M.2.2.2.2.cells) (hn : n + N ≤ M.2.2.2.2.slots)
    (kk : ∀ a : Nat, pG M τ Q (k + 1) (n + N) (pc + 2) ls (.ref a :: rest) (w ++ [(a, .inr (.inl (N, fun _ => 0)))])) : pG M τ Q k n pc ls (.int z :: rest) w := by
  intro p l e s m args below meth c D cI cJ A H L locs C hll hP hD hS
  refine va_newa (atype := .long) (a0 := (N, .inr (.inl (fun _ => 0)))) C.1 C.2.1 (C.2.2.2.2.1 _ pw_aJ) rfl C.2.2.2.2.2.2.2.2.1 hP hD hS C.2.2.2.2.2.2.2.2.2.1 (fun cA => rfl) hz hN hb hk hn hd (fun a cA H1 hK1 hP1 hD1 hS1 => ?_)
  have e1 : cA = cJ := by
    have h1 : s.vm.findClass _ = some cA := (hK1.2 2 (cA, .long) rfl).2
    have h2 : s.vm.findClass _ = some cJ := (hK1.2 1 (cJ, .long) rfl).2
    exact Option.some.inj (h1.symm.trans h2)
  subst e1
  rw [show ([(a, Sum.inl (cA, N, .inr (.inl (fun _ => 0))))] : va_W) = p_w cI cA [(a, .inr (.inl (N, fun _ => 0)))] from rfl, ← p_app] at hP1 hD1
  exact kk a p l e s m args below meth c D cI cA A H1 L locs C hll hP1 hD1 hS1
/-- the world's cells in another order -/
theorem g_perm {w2 : pW} (h : w.Perm w2) (kk : pG M τ Q k n pc ls st w2) : pG M τ Q k n pc ls st w := by
  intro p l e s m args below meth c D cI cJ A H L locs C hll hP hD hS
  have hp : (p_w cI cJ w).Perm (p_w cI cJ w2) := h.map _
  refine kk p l e s m args below meth c D cI cJ A H L locs C hll ?_ ?_ hS
  · intro j q hj
    obtain ⟨i, hi⟩ := List.mem_iff_getElem?.mp (hp.symm.subset (List.mem_of_getElem? hj))
    exact hP i q hi
  · refine ⟨?_, fun j q hj => ?_⟩
    · have nd : (p_w cI cJ w).Pairwise (fun x y => x.1 ≠ y.1) := by
        rw [List.pairwise_iff_getElem]
        intro i j hi hj hij e
        have := hD.1 i j _ _ (List.getElem?_eq_getElem hi) (List.getElem?_eq_getElem hj) e
        omega
      have nd2 : (p_w cI cJ w2).Pairwise (fun x y => x.1 ≠ y.1) := (hp.pairwise_iff (fun h e => h e.symm)).mp nd
      rw [List.pairwise_iff_getElem] at nd2
      intro i j x y hi hj e
      obtain ⟨hi', rfl⟩ := List.getElem?_eq_some_iff.mp hi
      obtain ⟨hj', rfl⟩ := List.getElem?_eq_some_iff.mp hj
      rcases Nat.lt_trichotomy i j with h | h | h
      · exact absurd e (nd2 i j hi' hj' h)
      · exact h
      · exact absurd e.symm (nd2 j i hj' hi' h)
    · obtain ⟨i, hi⟩ := List.mem_iff_getElem?.mp (hp.symm.subset (List.mem_of_getElem? hj))
      exact hD.2 i q hi
end pCalls
