/-! whole_start. By wip/whole/m_law3.py -/
set_option maxRecDepth 100000 in
set_option maxHeartbeats 4000000 in
theorem whole_start {p : Program} {e : Env} {s : State} {m : MethodId} {below : List Frame} {meth : Method} {c : Code} (l : Launch) {b L : Nat} {xs : Nat → Int32} (hL : L ≤ 2048) (C0 : lw_At p s m meth c b L xs) : W p l e room_1 s m #[Value.ref b] below meth c s.heap [] 0 0 (lw_Z below #[Value.ref b] s) (entryFrame m ([Value.ref b] : List Value).toArray 4) := by
  obtain ⟨hx, hb, hr, hml, hown, hts, hX, hbl, hlk, hgv⟩ := C0
  have htB : ∀ w ∈ pTB, w.before #[Value.ref b] s = true := fun w hw => hts w (List.mem_filter.mp hw).1
  obtain ⟨cK, iK, kK⟩ := u_known (C := R_K) (T := F_K) (N := 4) htB in_K (htB _ ins_K)
  obtain ⟨cT, iT, kT⟩ := u_known (C := R_T) (T := F_T) (N := 3) htB in_T (htB _ ins_T)
  obtain ⟨cS, iS, kS⟩ := u_known (C := R_S) (T := F_S) (N := 3) htB in_S (htB _ ins_S)
  obtain ⟨cD, iD, kD⟩ := u_known (C := R_D) (T := F_D) (N := 5) htB in_D (htB _ ins_D)
  obtain ⟨cB, iB, kB⟩ := u_known (C := R_B) (T := F_B) (N := 7) htB in_B (htB _ ins_B)
  obtain ⟨cM, iM, kM⟩ := u_known (C := R_M) (T := F_M) (N := 18) htB in_M (htB _ ins_M)
  obtain ⟨cI, kI, coI, a1, a2, a3⟩ := Cond.arrayClass_spec (htB _ pw_aI)
  obtain ⟨cJ, kJ, coJ, j1, j2, j3⟩ := Cond.arrayClass_spec (htB _ pw_aJ)
  have hA : ∀ a : Nat, a < s.heap.size → ¬ (fun q => s.heap.size ≤ q) a := fun a h q => absurd h (Nat.not_lt.mpr q)
  have hs := flat_of_before _ hgv
  obtain ⟨tX, vX, TX⟩ := va_Tof (ty := .int) (N := 14) (f := fun j => .int (nbx j)) (A := fun q => s.heap.size ≤ q) (by decide) (hs (Cond.arrayOf (.static "ProofKernel" "NAMED_BY_X" "[I") .int) (by decide +kernel)) (va_eqt (hs (Cond.eq (.length (.static "ProofKernel" "NAMED_BY_X" "[I")) (.int 14)) (by decide +kernel))) (fun j hj => by
    rcases (show j = 0 ∨ j = 1 ∨ j = 2 ∨ j = 3 ∨ j = 4 ∨ j = 5 ∨ j = 6 ∨ j = 7 ∨ j = 8 ∨ j = 9 ∨ j = 10 ∨ j = 11 ∨ j = 12 ∨ j = 13 by omega) with rfl | rfl | rfl | rfl | rfl | rfl | rfl | rfl | rfl | rfl | rfl | rfl | rfl | rfl
    · exact va_eqt (hs (Cond.eq (.elem (.static "ProofKernel" "NAMED_BY_X" "[I") (.int 0)) (.int 1)) (by decide +kernel))
    · exact va_eqt (hs (Cond.eq (.elem (.static "ProofKernel" "NAMED_BY_X" "[I") (.int 1)) (.int 1)) (by decide +kernel))
    · exact va_eqt (hs (Cond.eq (.elem (.static "ProofKernel" "NAMED_BY_X" "[I") (.int 2)) (.int 2)) (by decide +kernel))
    · exact va_eqt (hs (Cond.eq (.elem (.static "ProofKernel" "NAMED_BY_X" "[I") (.int 3)) (.int 2)) (by decide +kernel))
    · exact va_eqt (hs (Cond.eq (.elem (.static "ProofKernel" "NAMED_BY_X" "[I") (.int 4)) (.int 2)) (by decide +kernel))
    · exact va_eqt (hs (Cond.eq (.elem (.static "ProofKernel" "NAMED_BY_X" "[I") (.int 5)) (.int 2)) (by decide +kernel))
    · exact va_eqt (hs (Cond.eq (.elem (.static "ProofKernel" "NAMED_BY_X" "[I") (.int 6)) (.int 1)) (by decide +kernel))
    · exact va_eqt (hs (Cond.eq (.elem (.static "ProofKernel" "NAMED_BY_X" "[I") (.int 7)) (.int 2)) (by decide +kernel))
    · exact va_eqt (hs (Cond.eq (.elem (.static "ProofKernel" "NAMED_BY_X" "[I") (.int 8)) (.int 2)) (by decide +kernel))
    · exact va_eqt (hs (Cond.eq (.elem (.static "ProofKernel" "NAMED_BY_X" "[I") (.int 9)) (.int 2)) (by decide +kernel))
    · exact va_eqt (hs (Cond.eq (.elem (.static "ProofKernel" "NAMED_BY_X" "[I") (.int 10)) (.int 2)) (by decide +kernel))
    · exact va_eqt (hs (Cond.eq (.elem (.static "ProofKernel" "NAMED_BY_X" "[I") (.int 11)) (.int 1)) (by decide +kernel))
    · exact va_eqt (hs (Cond.eq (.elem (.static "ProofKernel" "NAMED_BY_X" "[I") (.int 12)) (.int 2)) (by decide +kernel))
    · exact va_eqt (hs (Cond.eq (.elem (.static "ProofKernel" "NAMED_BY_X" "[I") (.int 13)) (.int 2)) (by decide +kernel))) hA
  have ZX := va_Zref (hts _ pw_stX) (htB _ ini_K) vX hA
  obtain ⟨tY, vY, TY⟩ := va_Tof (ty := .int) (N := 14) (f := fun j => .int (nby j)) (A := fun q => s.heap.size ≤ q) (by decide) (hs (Cond.arrayOf (.static "ProofKernel" "NAMED_BY_Y" "[I") .int) (by decide +kernel)) (va_eqt (hs (Cond.eq (.length (.static "ProofKernel" "NAMED_BY_Y" "[I")) (.int 14)) (by decide +kernel))) (fun j hj => by
    rcases (show j = 0 ∨ j = 1 ∨ j = 2 ∨ j = 3 ∨ j = 4 ∨ j = 5 ∨ j = 6 ∨ j = 7 ∨ j = 8 ∨ j = 9 ∨ j = 10 ∨ j = 11 ∨ j = 12 ∨ j = 13 by omega) with rfl | rfl | rfl | rfl | rfl | rfl | rfl | rfl | rfl | rfl | rfl | rfl | rfl | rfl
    · exact va_eqt (hs (Cond.eq (.elem (.static "ProofKernel" "NAMED_BY_Y" "[I") (.int 0)) (.int 0)) (by decide +kernel))
    · exact va_eqt (hs (Cond.eq (.elem (.static "ProofKernel" "NAMED_BY_Y" "[I") (.int 1)) (.int 0)) (by decide +kernel))
    · exact va_eqt (hs (Cond.eq (.elem (.static "ProofKernel" "NAMED_BY_Y" "[I") (.int 2)) (.int 1)) (by decide +kernel))
    · exact va_eqt (hs (Cond.eq (.elem (.static "ProofKernel" "NAMED_BY_Y" "[I") (.int 3)) (.int 2)) (by decide +kernel))
    · exact va_eqt (hs (Cond.eq (.elem (.static "ProofKernel" "NAMED_BY_Y" "[I") (.int 4)) (.int 1)) (by decide +kernel))
    · exact va_eqt (hs (Cond.eq (.elem (.static "ProofKernel" "NAMED_BY_Y" "[I") (.int 5)) (.int 1)) (by decide +kernel))
    · exact va_eqt (hs (Cond.eq (.elem (.static "ProofKernel" "NAMED_BY_Y" "[I") (.int 6)) (.int 0)) (by decide +kernel))
    · exact va_eqt (hs (Cond.eq (.elem (.static "ProofKernel" "NAMED_BY_Y" "[I") (.int 7)) (.int 0)) (by decide +kernel))
    · exact va_eqt (hs (Cond.eq (.elem (.static "ProofKernel" "NAMED_BY_Y" "[I") (.int 8)) (.int 2)) (by decide +kernel))
    · exact va_eqt (hs (Cond.eq (.elem (.static "ProofKernel" "NAMED_BY_Y" "[I") (.int 9)) (.int 2)) (by decide +kernel))
    · exact va_eqt (hs (Cond.eq (.elem (.static "ProofKernel" "NAMED_BY_Y" "[I") (.int 10)) (.int 1)) (by decide +kernel))
    · exact va_eqt (hs (Cond.eq (.elem (.static "ProofKernel" "NAMED_BY_Y" "[I") (.int 11)) (.int 0)) (by decide +kernel))
    · exact va_eqt (hs (Cond.eq (.elem (.static "ProofKernel" "NAMED_BY_Y" "[I") (.int 12)) (.int 2)) (by decide +kernel))
    · exact va_eqt (hs (Cond.eq (.elem (.static "ProofKernel" "NAMED_BY_Y" "[I") (.int 13)) (.int 3)) (by decide +kernel))) hA
  have ZY := va_Zref (hts _ pw_stY) (htB _ ini_K) vY hA
  have hN : pN s := ⟨va_Nw.of rfl (hts _ nm_K_18), va_Nw.of rfl (hts _ nm_K_34), va_Nw.of rfl (hts _ nm_B_35), va_Nw.of rfl (hts _ nf_B_60), va_Nw.of rfl (hts _ nf_B_63)⟩
  have hK : va_K (fun j => match j with | 0 => cK | 1 => cT | 2 => cS | 3 => cD | 4 => cB | _ => cM, fun j => match j with | 0 => iK | 1 => iT | 2 => iS | 3 => iD | 4 => iB | _ => iM) pCl (pTy cI cJ) s := by
    refine ⟨fun c q hq => ?_, fun k q hq => ?_⟩
    · match c, hq with
      | 0, hq => obtain rfl := Option.some.inj (show some (R_K, F_K, 4) = some q from hq); exact kK
      | 1, hq => obtain rfl := Option.some.inj (show some (R_T, F_T, 3) = some q from hq); exact kT
      | 2, hq => obtain rfl := Option.some.inj (show some (R_S, F_S, 3) = some q from hq); exact kS
      | 3, hq => obtain rfl := Option.some.inj (show some (R_D, F_D, 5) = some q from hq); exact kD
      | 4, hq => obtain rfl := Option.some.inj (show some (R_B, F_B, 7) = some q from hq); exact kB
      | 5, hq => obtain rfl := Option.some.inj (show some (R_M, F_M, 18) = some q from hq); exact kM
      | n + 6, hq => simp at hq
    · match k, hq with
      | 0, hq => obtain rfl := Option.some.inj (show some (cI, FieldType.int) = some q from hq); exact ⟨fun n z => ⟨fun k h => (by cases h), kI, a2, coI, a3⟩, a1⟩
      | 1, hq => obtain rfl := Option.some.inj (show some (cJ, FieldType.long) = some q from hq); exact ⟨fun n z => ⟨fun k h => (by cases h), kJ, j2, coJ, j3⟩, j1⟩
      | n + 2, hq => simp [pTy] at hq
  have C : pCx (m_law meth.name) (tX, tY) p s m #[Value.ref b] meth c _ cI cJ (fun q => s.heap.size ≤ q) := ⟨hx, hb, hr, hml, htB, hown, hlk, rfl, hK, fun _ h => h, ⟨⟨ZX, TX⟩, ⟨ZY, TY⟩⟩, hN⟩
  have hl' := lv_entry [Value.ref b] (n := 4) (Nat.le_of_ble_eq_true rfl)
  rw [lg_entry_eq]
  refine law_start (l := l) (e := e) (below := below) (QQ := lw_Z below #[Value.ref b] s) C hX hbl (hA b hbl) hL ?_ s.heap _ [] hl' (fun k x h => by simp [p_w] at h) ⟨fun i j p q h => by simp [p_w] at h, fun k q h => by simp [p_w] at h⟩ va_S.rf
  intro aX aM i iX rX LX iM rM LM zM H L locs hl hP hD hS
  refine va_forget (fun q hq => hS.2.2 q hq) ?_
  exact lw_ret hx hb hr hlk d_law_648
