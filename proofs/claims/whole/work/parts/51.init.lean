/-! The constructors. By wip/whole/m_init.py -/
set_option maxRecDepth 100000 in
set_option maxHeartbeats 4000000 in
theorem c_T_init {τ : Nat × Nat} {wr : pW} (b : Nat) : pC m_T_init τ [.ref b] ([(b, .inr (.inr (1, [.null, .null, .int 0])))] ++ wr) (fun rr w2 => ∃ (a1 a2 : Nat) (fa2 fa1 : Nat → Int32), rr = none ∧ w2 = [(a2, .inl (16, fa2)), (a1, .inl (16, fa1)), (b, .inr (.inr (1, [.ref a1, .ref a2, .int (nI 3)])))] ++ wr ∧ ∀ j, j < 3 → fa1 j = -1) := by
  refine pC.of rfl (Nat.le_of_ble_eq_true rfl) ?_
  show pG m_T_init τ _ 0 0 0 [(0, _)] [] _
  refine g_aload_n (pc := 0) d_T_init_0 rfl ?_
  refine g_objInit (pc := 1) d_T_init_1 lm_T_3 (by decide) (by decide) ?_
  refine g_aload_n (pc := 4) d_T_init_4 rfl ?_
  refine g_bipush (pc := 5) (v := nI 16) d_T_init_5 (by decide) ?_
  refine g_newI (pc := 7) (N := 16) (z := nI 16) d_T_init_7 (by decide) (by decide) (by decide) (Nat.le_of_ble_eq_true rfl) (Nat.le_of_ble_eq_true rfl) (fun a1 => ?_)
  refine g_perm (List.perm_append_singleton _ _) ?_
  show pG m_T_init τ _ 1 16 9 _ (.ref _ :: .ref _ :: _) ([(a1, .inl (16, fun _ => 0)), (b, .inr (.inr (1, [.null, .null, .int 0])))] ++ wr)
  refine g_putF (q := 1) (ci := 1) (j := 0) (T := F_T) (N := 3) (ty0 := ft_T) (ty := ft_T 0) (pc := 9) ([(a1, .inl (16, fun _ => 0)), (b, .inr (.inr (1, [.ref a1, .null, .int 0])))] ++ wr) d_T_init_9 rfl rfl in_T ft_T_ok n_T (by decide) lf_T_9 rfl rfl rfl rfl (ft_T_ok 0 (by decide)) rfl rfl (Nat.le_of_ble_eq_true rfl) rfl ?_
  refine g_aload_n (pc := 12) d_T_init_12 rfl ?_
  refine g_bipush (pc := 13) (v := nI 16) d_T_init_13 (by decide) ?_
  refine g_newI (pc := 15) (N := 16) (z := nI 16) d_T_init_15 (by decide) (by decide) (by decide) (Nat.le_of_ble_eq_true rfl) (Nat.le_of_ble_eq_true rfl) (fun a2 => ?_)
  refine g_perm (List.perm_append_singleton _ _) ?_
  show pG m_T_init τ _ 2 32 17 _ (.ref _ :: .ref _ :: _) ([(a2, .inl (16, fun _ => 0)), (a1, .inl (16, fun _ => 0)), (b, .inr (.inr (1, [.ref a1, .null, .int 0])))] ++ wr)
  refine g_putF (q := 2) (ci := 1) (j := 1) (T := F_T) (N := 3) (ty0 := ft_T) (ty := ft_T 1) (pc := 17) ([(a2, .inl (16, fun _ => 0)), (a1, .inl (16, fun _ => 0)), (b, .inr (.inr (1, [.ref a1, .ref a2, .int 0])))] ++ wr) d_T_init_17 rfl rfl in_T ft_T_ok n_T (by decide) lf_T_15 rfl rfl rfl rfl (ft_T_ok 1 (by decide)) rfl rfl (Nat.le_of_ble_eq_true rfl) rfl ?_
  refine g_aload_n (pc := 20) d_T_init_20 rfl ?_
  refine g_iconst (pc := 21) (v := nI 3) d_T_init_21 (by decide) ?_
  refine g_put (q := 2) (ci := 1) (j := 2) (T := F_T) (N := 3) (ty0 := ft_T) (ty := ft_T 2) (pc := 22) ([(a2, .inl (16, fun _ => 0)), (a1, .inl (16, fun _ => 0)), (b, .inr (.inr (1, [.ref a1, .ref a2, .int (nI 3)])))] ++ wr) d_T_init_22 rfl rfl in_T ft_T_ok n_T (by decide) lf_T_18 rfl rfl (ft_T_ok 2 (by decide)) rfl rfl (Nat.le_of_ble_eq_true rfl) rfl ?_
  refine g_iconst (pc := 25) (v := nI 0) d_T_init_25 (by decide) ?_
  refine g_istore_n (pc := 26) [(1, _), (0, _)] d_T_init_26 (by decide) rfl ?_
  refine g_iload_n (pc := 27) d_T_init_27 rfl ?_
  refine g_iconst (pc := 28) (v := nI 3) d_T_init_28 (by decide) ?_
  refine g_nicmp_ge (pc := 29) (tgt := 52) d_T_init_29 (by decide) (by decide) (by decide) (fun h => absurd h (by decide)) (fun _ => ?_)
  refine g_aload_n (pc := 32) d_T_init_32 rfl ?_
  refine g_get (q := 2) (ci := 1) (j := 0) (T := F_T) (N := 3) (pc := 33) d_T_init_33 rfl rfl in_T (by decide) lf_T_9 rfl rfl ?_
  refine g_iload_n (pc := 36) d_T_init_36 rfl ?_
  refine g_iconst (pc := 37) (v := -1) d_T_init_37 (by decide) ?_
  refine g_iast (q := 1) (pc := 38) ([(a2, .inl (16, fun _ => 0)), (a1, .inl (16, upd (fun _ => 0) (nI 0).toNatClampNeg (-1))), (b, .inr (.inr (1, [.ref a1, .ref a2, .int (nI 3)])))] ++ wr) d_T_init_38 rfl (vp_in_nI (by decide) (by decide)) rfl ?_
  refine g_aload_n (pc := 39) d_T_init_39 rfl ?_
  refine g_get (q := 2) (ci := 1) (j := 1) (T := F_T) (N := 3) (pc := 40) d_T_init_40 rfl rfl in_T (by decide) lf_T_15 rfl rfl ?_
  refine g_iload_n (pc := 43) d_T_init_43 rfl ?_
  refine g_iconst (pc := 44) (v := -1) d_T_init_44 (by decide) ?_
  refine g_iast (q := 0) (pc := 45) ([(a2, .inl (16, upd (fun _ => 0) (nI 0).toNatClampNeg (-1))), (a1, .inl (16, upd (fun _ => 0) (nI 0).toNatClampNeg (-1))), (b, .inr (.inr (1, [.ref a1, .ref a2, .int (nI 3)])))] ++ wr) d_T_init_45 rfl (vp_in_nI (by decide) (by decide)) rfl ?_
  refine g_niinc (pc := 46) (d := 1) [(1, _), (0, _)] d_T_init_46 rfl (by decide) rfl ?_
  refine g_goto (pc := 49) (tgt := 27) d_T_init_49 (by decide) ?_
  refine g_iload_n (pc := 27) d_T_init_27 rfl ?_
  refine g_iconst (pc := 28) (v := nI 3) d_T_init_28 (by decide) ?_
  refine g_nicmp_ge (pc := 29) (tgt := 52) d_T_init_29 (by decide) (by decide) (by decide) (fun h => absurd h (by decide)) (fun _ => ?_)
  refine g_aload_n (pc := 32) d_T_init_32 rfl ?_
  refine g_get (q := 2) (ci := 1) (j := 0) (T := F_T) (N := 3) (pc := 33) d_T_init_33 rfl rfl in_T (by decide) lf_T_9 rfl rfl ?_
  refine g_iload_n (pc := 36) d_T_init_36 rfl ?_
  refine g_iconst (pc := 37) (v := -1) d_T_init_37 (by decide) ?_
  refine g_iast (q := 1) (pc := 38) ([(a2, .inl (16, upd (fun _ => 0) (nI 0).toNatClampNeg (-1))), (a1, .inl (16, upd (upd (fun _ => 0) (nI 0).toNatClampNeg (-1)) (nI 1).toNatClampNeg (-1))), (b, .inr (.inr (1, [.ref a1, .ref a2, .int (nI 3)])))] ++ wr) d_T_init_38 rfl (vp_in_nI (by decide) (by decide)) rfl ?_
  refine g_aload_n (pc := 39) d_T_init_39 rfl ?_
  refine g_get (q := 2) (ci := 1) (j := 1) (T := F_T) (N := 3) (pc := 40) d_T_init_40 rfl rfl in_T (by decide) lf_T_15 rfl rfl ?_
  refine g_iload_n (pc := 43) d_T_init_43 rfl ?_
  refine g_iconst (pc := 44) (v := -1) d_T_init_44 (by decide) ?_
  refine g_iast (q := 0) (pc := 45) ([(a2, .inl (16, upd (upd (fun _ => 0) (nI 0).toNatClampNeg (-1)) (nI 1).toNatClampNeg (-1))), (a1, .inl (16, upd (upd (fun _ => 0) (nI 0).toNatClampNeg (-1)) (nI 1).toNatClampNeg (-1))), (b, .inr (.inr (1, [.ref a1, .ref a2, .int (nI 3)])))] ++ wr) d_T_init_45 rfl (vp_in_nI (by decide) (by decide)) rfl ?_
  refine g_niinc (pc := 46) (d := 1) [(1, _), (0, _)] d_T_init_46 rfl (by decide) rfl ?_
  refine g_goto (pc := 49) (tgt := 27) d_T_init_49 (by decide) ?_
  refine g_iload_n (pc := 27) d_T_init_27 rfl ?_
  refine g_iconst (pc := 28) (v := nI 3) d_T_init_28 (by decide) ?_
  refine g_nicmp_ge (pc := 29) (tgt := 52) d_T_init_29 (by decide) (by decide) (by decide) (fun h => absurd h (by decide)) (fun _ => ?_)
  refine g_aload_n (pc := 32) d_T_init_32 rfl ?_
  refine g_get (q := 2) (ci := 1) (j := 0) (T := F_T) (N := 3) (pc := 33) d_T_init_33 rfl rfl in_T (by decide) lf_T_9 rfl rfl ?_
  refine g_iload_n (pc := 36) d_T_init_36 rfl ?_
  refine g_iconst (pc := 37) (v := -1) d_T_init_37 (by decide) ?_
  refine g_iast (q := 1) (pc := 38) ([(a2, .inl (16, upd (upd (fun _ => 0) (nI 0).toNatClampNeg (-1)) (nI 1).toNatClampNeg (-1))), (a1, .inl (16, upd (upd (upd (fun _ => 0) (nI 0).toNatClampNeg (-1)) (nI 1).toNatClampNeg (-1)) (nI 2).toNatClampNeg (-1))), (b, .inr (.inr (1, [.ref a1, .ref a2, .int (nI 3)])))] ++ wr) d_T_init_38 rfl (vp_in_nI (by decide) (by decide)) rfl ?_
  refine g_aload_n (pc := 39) d_T_init_39 rfl ?_
  refine g_get (q := 2) (ci := 1) (j := 1) (T := F_T) (N := 3) (pc := 40) d_T_init_40 rfl rfl in_T (by decide) lf_T_15 rfl rfl ?_
  refine g_iload_n (pc := 43) d_T_init_43 rfl ?_
  refine g_iconst (pc := 44) (v := -1) d_T_init_44 (by decide) ?_
  refine g_iast (q := 0) (pc := 45) ([(a2, .inl (16, upd (upd (upd (fun _ => 0) (nI 0).toNatClampNeg (-1)) (nI 1).toNatClampNeg (-1)) (nI 2).toNatClampNeg (-1))), (a1, .inl (16, upd (upd (upd (fun _ => 0) (nI 0).toNatClampNeg (-1)) (nI 1).toNatClampNeg (-1)) (nI 2).toNatClampNeg (-1))), (b, .inr (.inr (1, [.ref a1, .ref a2, .int (nI 3)])))] ++ wr) d_T_init_45 rfl (vp_in_nI (by decide) (by decide)) rfl ?_
  refine g_niinc (pc := 46) (d := 1) [(1, _), (0, _)] d_T_init_46 rfl (by decide) rfl ?_
  refine g_goto (pc := 49) (tgt := 27) d_T_init_49 (by decide) ?_
  refine g_iload_n (pc := 27) d_T_init_27 rfl ?_
  refine g_iconst (pc := 28) (v := nI 3) d_T_init_28 (by decide) ?_
  refine g_nicmp_ge (pc := 29) (tgt := 52) d_T_init_29 (by decide) (by decide) (by decide) (fun _ => ?_) (fun h => absurd h (by decide))
  refine g_vret (pc := 52) d_T_init_52 rfl (Nat.le_of_ble_eq_true rfl) (Nat.le_of_ble_eq_true rfl) ?_
  refine ⟨a1, a2, _, _, rfl, rfl, fun j hj => ?_⟩
  rcases (show j = 0 ∨ j = 1 ∨ j = 2 by omega) with rfl | rfl | rfl <;> rfl
set_option maxRecDepth 100000 in
set_option maxHeartbeats 4000000 in
theorem c_S_init {τ : Nat × Nat} {wr : pW} (b : Nat) : pC m_S_init τ [.ref b] ([(b, .inr (.inr (2, [.null, .null, .int 0])))] ++ wr) (fun rr w2 => ∃ (a1 a2 : Nat), rr = none ∧ w2 = [(a2, .inl (60, fun _ => 0)), (a1, .inl (1800, fun _ => 0)), (b, .inr (.inr (2, [.ref a1, .ref a2, .int 0])))] ++ wr) := by
  refine pC.of rfl (Nat.le_of_ble_eq_true rfl) ?_
  show pG m_S_init τ _ 0 0 0 [(0, _)] [] _
  refine g_aload_n (pc := 0) d_S_init_0 rfl ?_
  refine g_objInit (pc := 1) d_S_init_1 lm_S_3 (by decide) (by decide) ?_
  refine g_aload_n (pc := 4) d_S_init_4 rfl ?_
  refine g_sipush (pc := 5) (v := nI 1800) d_S_init_5 (by decide) ?_
  refine g_newI (pc := 8) (N := 1800) (z := nI 1800) d_S_init_8 (by decide) (by decide) (by decide) (Nat.le_of_ble_eq_true rfl) (Nat.le_of_ble_eq_true rfl) (fun a1 => ?_)
  refine g_perm (List.perm_append_singleton _ _) ?_
  show pG m_S_init τ _ 1 1800 10 _ (.ref _ :: .ref _ :: _) ([(a1, .inl (1800, fun _ => 0)), (b, .inr (.inr (2, [.null, .null, .int 0])))] ++ wr)
  refine g_putF (q := 1) (ci := 2) (j := 0) (T := F_S) (N := 3) (ty0 := ft_S) (ty := ft_S 0) (pc := 10) ([(a1, .inl (1800, fun _ => 0)), (b, .inr (.inr (2, [.ref a1, .null, .int 0])))] ++ wr) d_S_init_10 rfl rfl in_S ft_S_ok n_S (by decide) lf_S_9 rfl rfl rfl rfl (ft_S_ok 0 (by decide)) rfl rfl (Nat.le_of_ble_eq_true rfl) rfl ?_
  refine g_aload_n (pc := 13) d_S_init_13 rfl ?_
  refine g_bipush (pc := 14) (v := nI 60) d_S_init_14 (by decide) ?_
  refine g_newI (pc := 16) (N := 60) (z := nI 60) d_S_init_16 (by decide) (by decide) (by decide) (Nat.le_of_ble_eq_true rfl) (Nat.le_of_ble_eq_true rfl) (fun a2 => ?_)
  refine g_perm (List.perm_append_singleton _ _) ?_
  show pG m_S_init τ _ 2 1860 18 _ (.ref _ :: .ref _ :: _) ([(a2, .inl (60, fun _ => 0)), (a1, .inl (1800, fun _ => 0)), (b, .inr (.inr (2, [.ref a1, .null, .int 0])))] ++ wr)
  refine g_putF (q := 2) (ci := 2) (j := 1) (T := F_S) (N := 3) (ty0 := ft_S) (ty := ft_S 1) (pc := 18) ([(a2, .inl (60, fun _ => 0)), (a1, .inl (1800, fun _ => 0)), (b, .inr (.inr (2, [.ref a1, .ref a2, .int 0])))] ++ wr) d_S_init_18 rfl rfl in_S ft_S_ok n_S (by decide) lf_S_15 rfl rfl rfl rfl (ft_S_ok 1 (by decide)) rfl rfl (Nat.le_of_ble_eq_true rfl) rfl ?_
  refine g_vret (pc := 21) d_S_init_21 rfl (Nat.le_of_ble_eq_true rfl) (Nat.le_of_ble_eq_true rfl) ?_
  exact ⟨a1, a2, rfl, rfl⟩
set_option maxRecDepth 100000 in
set_option maxHeartbeats 4000000 in
theorem c_D_init {τ : Nat × Nat} {wr : pW} (b sh : Nat) : pC m_D_init τ [.ref b, .ref sh] ([(b, .inr (.inr (3, [.null, .null, .int 0, .null, .int 0])))] ++ wr) (fun rr w2 => ∃ (a1 a2 : Nat), rr = none ∧ w2 = [(a2, .inl (30, fun _ => 0)), (a1, .inl (30, fun _ => 0)), (b, .inr (.inr (3, [.ref sh, .ref a1, .int 0, .ref a2, .int 0])))] ++ wr) := by
  refine pC.of rfl (Nat.le_of_ble_eq_true rfl) ?_
  show pG m_D_init τ _ 0 0 0 [(0, _), (1, _)] [] _
  refine g_aload_n (pc := 0) d_D_init_0 rfl ?_
  refine g_objInit (pc := 1) d_D_init_1 lm_D_3 (by decide) (by decide) ?_
  refine g_aload_n (pc := 4) d_D_init_4 rfl ?_
  refine g_bipush (pc := 5) (v := nI 30) d_D_init_5 (by decide) ?_
  refine g_newI (pc := 7) (N := 30) (z := nI 30) d_D_init_7 (by decide) (by decide) (by decide) (Nat.le_of_ble_eq_true rfl) (Nat.le_of_ble_eq_true rfl) (fun a1 => ?_)
  refine g_perm (List.perm_append_singleton _ _) ?_
  show pG m_D_init τ _ 1 30 9 _ (.ref _ :: .ref _ :: _) ([(a1, .inl (30, fun _ => 0)), (b, .inr (.inr (3, [.null, .null, .int 0, .null, .int 0])))] ++ wr)
  refine g_putF (q := 1) (ci := 3) (j := 1) (T := F_D) (N := 5) (ty0 := ft_D) (ty := ft_D 1) (pc := 9) ([(a1, .inl (30, fun _ => 0)), (b, .inr (.inr (3, [.null, .ref a1, .int 0, .null, .int 0])))] ++ wr) d_D_init_9 rfl rfl in_D ft_D_ok n_D (by decide) lf_D_9 rfl rfl rfl rfl (ft_D_ok 1 (by decide)) rfl rfl (Nat.le_of_ble_eq_true rfl) rfl ?_
  refine g_aload_n (pc := 12) d_D_init_12 rfl ?_
  refine g_bipush (pc := 13) (v := nI 30) d_D_init_13 (by decide) ?_
  refine g_newI (pc := 15) (N := 30) (z := nI 30) d_D_init_15 (by decide) (by decide) (by decide) (Nat.le_of_ble_eq_true rfl) (Nat.le_of_ble_eq_true rfl) (fun a2 => ?_)
  refine g_perm (List.perm_append_singleton _ _) ?_
  show pG m_D_init τ _ 2 60 17 _ (.ref _ :: .ref _ :: _) ([(a2, .inl (30, fun _ => 0)), (a1, .inl (30, fun _ => 0)), (b, .inr (.inr (3, [.null, .ref a1, .int 0, .null, .int 0])))] ++ wr)
  refine g_putF (q := 2) (ci := 3) (j := 3) (T := F_D) (N := 5) (ty0 := ft_D) (ty := ft_D 3) (pc := 17) ([(a2, .inl (30, fun _ => 0)), (a1, .inl (30, fun _ => 0)), (b, .inr (.inr (3, [.null, .ref a1, .int 0, .ref a2, .int 0])))] ++ wr) d_D_init_17 rfl rfl in_D ft_D_ok n_D (by decide) lf_D_15 rfl rfl rfl rfl (ft_D_ok 3 (by decide)) rfl rfl (Nat.le_of_ble_eq_true rfl) rfl ?_
  refine g_aload_n (pc := 20) d_D_init_20 rfl ?_
  refine g_aload_n (pc := 21) d_D_init_21 rfl ?_
  refine g_putF (q := 2) (ci := 3) (j := 0) (T := F_D) (N := 5) (ty0 := ft_D) (ty := ft_D 0) (pc := 22) ([(a2, .inl (30, fun _ => 0)), (a1, .inl (30, fun _ => 0)), (b, .inr (.inr (3, [.ref sh, .ref a1, .int 0, .ref a2, .int 0])))] ++ wr) d_D_init_22 rfl rfl in_D ft_D_ok n_D (by decide) lf_D_18 rfl rfl rfl rfl (ft_D_ok 0 (by decide)) rfl rfl (Nat.le_of_ble_eq_true rfl) rfl ?_
  refine g_vret (pc := 25) d_D_init_25 rfl (Nat.le_of_ble_eq_true rfl) (Nat.le_of_ble_eq_true rfl) ?_
  exact ⟨a1, a2, rfl, rfl⟩
set_option maxRecDepth 100000 in
set_option maxHeartbeats 4000000 in
theorem c_B_init {τ : Nat × Nat} {wr : pW} (b : Nat) : pC m_B_init τ [.ref b] ([(b, .inr (.inr (4, [.null, .null, .null, .null, .null, .int 0, .null])))] ++ wr) (fun rr w2 => ∃ (a1 a2 a3 a4 a5 a6 : Nat), rr = none ∧ w2 = [(a6, .inl (40, fun _ => 0)), (a5, .inl (40, fun _ => 0)), (a4, .inl (40, fun _ => 0)), (a3, .inl (40, fun _ => 0)), (a2, .inl (40, fun _ => 0)), (a1, .inr (.inl (40, fun _ => 0))), (b, .inr (.inr (4, [.ref a1, .ref a2, .ref a3, .ref a4, .ref a5, .int 0, .ref a6])))] ++ wr) := by
  refine pC.of rfl (Nat.le_of_ble_eq_true rfl) ?_
  show pG m_B_init τ _ 0 0 0 [(0, _)] [] _
  refine g_aload_n (pc := 0) d_B_init_0 rfl ?_
  refine g_objInit (pc := 1) d_B_init_1 lm_B_3 (by decide) (by decide) ?_
  refine g_aload_n (pc := 4) d_B_init_4 rfl ?_
  refine g_bipush (pc := 5) (v := nI 40) d_B_init_5 (by decide) ?_
  refine g_newJ (pc := 7) (N := 40) (z := nI 40) d_B_init_7 (by decide) (by decide) (by decide) (Nat.le_of_ble_eq_true rfl) (Nat.le_of_ble_eq_true rfl) (fun a1 => ?_)
  refine g_perm (List.perm_append_singleton _ _) ?_
  show pG m_B_init τ _ 1 40 9 _ (.ref _ :: .ref _ :: _) ([(a1, .inr (.inl (40, fun _ => 0))), (b, .inr (.inr (4, [.null, .null, .null, .null, .null, .int 0, .null])))] ++ wr)
  refine g_putF (q := 1) (ci := 4) (j := 0) (T := F_B) (N := 7) (ty0 := ft_B) (ty := ft_B 0) (pc := 9) ([(a1, .inr (.inl (40, fun _ => 0))), (b, .inr (.inr (4, [.ref a1, .null, .null, .null, .null, .int 0, .null])))] ++ wr) d_B_init_9 rfl rfl in_B ft_B_ok n_B (by decide) lf_B_9 rfl rfl rfl rfl (ft_B_ok 0 (by decide)) rfl rfl (Nat.le_of_ble_eq_true rfl) rfl ?_
  refine g_aload_n (pc := 12) d_B_init_12 rfl ?_
  refine g_bipush (pc := 13) (v := nI 40) d_B_init_13 (by decide) ?_
  refine g_newI (pc := 15) (N := 40) (z := nI 40) d_B_init_15 (by decide) (by decide) (by decide) (Nat.le_of_ble_eq_true rfl) (Nat.le_of_ble_eq_true rfl) (fun a2 => ?_)
  refine g_perm (List.perm_append_singleton _ _) ?_
  show pG m_B_init τ _ 2 80 17 _ (.ref _ :: .ref _ :: _) ([(a2, .inl (40, fun _ => 0)), (a1, .inr (.inl (40, fun _ => 0))), (b, .inr (.inr (4, [.ref a1, .null, .null, .null, .null, .int 0, .null])))] ++ wr)
  refine g_putF (q := 2) (ci := 4) (j := 1) (T := F_B) (N := 7) (ty0 := ft_B) (ty := ft_B 1) (pc := 17) ([(a2, .inl (40, fun _ => 0)), (a1, .inr (.inl (40, fun _ => 0))), (b, .inr (.inr (4, [.ref a1, .ref a2, .null, .null, .null, .int 0, .null])))] ++ wr) d_B_init_17 rfl rfl in_B ft_B_ok n_B (by decide) lf_B_15 rfl rfl rfl rfl (ft_B_ok 1 (by decide)) rfl rfl (Nat.le_of_ble_eq_true rfl) rfl ?_
  refine g_aload_n (pc := 20) d_B_init_20 rfl ?_
  refine g_bipush (pc := 21) (v := nI 40) d_B_init_21 (by decide) ?_
  refine g_newI (pc := 23) (N := 40) (z := nI 40) d_B_init_23 (by decide) (by decide) (by decide) (Nat.le_of_ble_eq_true rfl) (Nat.le_of_ble_eq_true rfl) (fun a3 => ?_)
  refine g_perm (List.perm_append_singleton _ _) ?_
  show pG m_B_init τ _ 3 120 25 _ (.ref _ :: .ref _ :: _) ([(a3, .inl (40, fun _ => 0)), (a2, .inl (40, fun _ => 0)), (a1, .inr (.inl (40, fun _ => 0))), (b, .inr (.inr (4, [.ref a1, .ref a2, .null, .null, .null, .int 0, .null])))] ++ wr)
  refine g_putF (q := 3) (ci := 4) (j := 2) (T := F_B) (N := 7) (ty0 := ft_B) (ty := ft_B 2) (pc := 25) ([(a3, .inl (40, fun _ => 0)), (a2, .inl (40, fun _ => 0)), (a1, .inr (.inl (40, fun _ => 0))), (b, .inr (.inr (4, [.ref a1, .ref a2, .ref a3, .null, .null, .int 0, .null])))] ++ wr) d_B_init_25 rfl rfl in_B ft_B_ok n_B (by decide) lf_B_19 rfl rfl rfl rfl (ft_B_ok 2 (by decide)) rfl rfl (Nat.le_of_ble_eq_true rfl) rfl ?_
  refine g_aload_n (pc := 28) d_B_init_28 rfl ?_
  refine g_bipush (pc := 29) (v := nI 40) d_B_init_29 (by decide) ?_
  refine g_newI (pc := 31) (N := 40) (z := nI 40) d_B_init_31 (by decide) (by decide) (by decide) (Nat.le_of_ble_eq_true rfl) (Nat.le_of_ble_eq_true rfl) (fun a4 => ?_)
  refine g_perm (List.perm_append_singleton _ _) ?_
  show pG m_B_init τ _ 4 160 33 _ (.ref _ :: .ref _ :: _) ([(a4, .inl (40, fun _ => 0)), (a3, .inl (40, fun _ => 0)), (a2, .inl (40, fun _ => 0)), (a1, .inr (.inl (40, fun _ => 0))), (b, .inr (.inr (4, [.ref a1, .ref a2, .ref a3, .null, .null, .int 0, .null])))] ++ wr)
  refine g_putF (q := 4) (ci := 4) (j := 3) (T := F_B) (N := 7) (ty0 := ft_B) (ty := ft_B 3) (pc := 33) ([(a4, .inl (40, fun _ => 0)), (a3, .inl (40, fun _ => 0)), (a2, .inl (40, fun _ => 0)), (a1, .inr (.inl (40, fun _ => 0))), (b, .inr (.inr (4, [.ref a1, .ref a2, .ref a3, .ref a4, .null, .int 0, .null])))] ++ wr) d_B_init_33 rfl rfl in_B ft_B_ok n_B (by decide) lf_B_22 rfl rfl rfl rfl (ft_B_ok 3 (by decide)) rfl rfl (Nat.le_of_ble_eq_true rfl) rfl ?_
  refine g_aload_n (pc := 36) d_B_init_36 rfl ?_
  refine g_bipush (pc := 37) (v := nI 40) d_B_init_37 (by decide) ?_
  refine g_newI (pc := 39) (N := 40) (z := nI 40) d_B_init_39 (by decide) (by decide) (by decide) (Nat.le_of_ble_eq_true rfl) (Nat.le_of_ble_eq_true rfl) (fun a5 => ?_)
  refine g_perm (List.perm_append_singleton _ _) ?_
  show pG m_B_init τ _ 5 200 41 _ (.ref _ :: .ref _ :: _) ([(a5, .inl (40, fun _ => 0)), (a4, .inl (40, fun _ => 0)), (a3, .inl (40, fun _ => 0)), (a2, .inl (40, fun _ => 0)), (a1, .inr (.inl (40, fun _ => 0))), (b, .inr (.inr (4, [.ref a1, .ref a2, .ref a3, .ref a4, .null, .int 0, .null])))] ++ wr)
  refine g_putF (q := 5) (ci := 4) (j := 4) (T := F_B) (N := 7) (ty0 := ft_B) (ty := ft_B 4) (pc := 41) ([(a5, .inl (40, fun _ => 0)), (a4, .inl (40, fun _ => 0)), (a3, .inl (40, fun _ => 0)), (a2, .inl (40, fun _ => 0)), (a1, .inr (.inl (40, fun _ => 0))), (b, .inr (.inr (4, [.ref a1, .ref a2, .ref a3, .ref a4, .ref a5, .int 0, .null])))] ++ wr) d_B_init_41 rfl rfl in_B ft_B_ok n_B (by decide) lf_B_25 rfl rfl rfl rfl (ft_B_ok 4 (by decide)) rfl rfl (Nat.le_of_ble_eq_true rfl) rfl ?_
  refine g_aload_n (pc := 44) d_B_init_44 rfl ?_
  refine g_bipush (pc := 45) (v := nI 40) d_B_init_45 (by decide) ?_
  refine g_newI (pc := 47) (N := 40) (z := nI 40) d_B_init_47 (by decide) (by decide) (by decide) (Nat.le_of_ble_eq_true rfl) (Nat.le_of_ble_eq_true rfl) (fun a6 => ?_)
  refine g_perm (List.perm_append_singleton _ _) ?_
  show pG m_B_init τ _ 6 240 49 _ (.ref _ :: .ref _ :: _) ([(a6, .inl (40, fun _ => 0)), (a5, .inl (40, fun _ => 0)), (a4, .inl (40, fun _ => 0)), (a3, .inl (40, fun _ => 0)), (a2, .inl (40, fun _ => 0)), (a1, .inr (.inl (40, fun _ => 0))), (b, .inr (.inr (4, [.ref a1, .ref a2, .ref a3, .ref a4, .ref a5, .int 0, .null])))] ++ wr)
  refine g_putF (q := 6) (ci := 4) (j := 6) (T := F_B) (N := 7) (ty0 := ft_B) (ty := ft_B 6) (pc := 49) ([(a6, .inl (40, fun _ => 0)), (a5, .inl (40, fun _ => 0)), (a4, .inl (40, fun _ => 0)), (a3, .inl (40, fun _ => 0)), (a2, .inl (40, fun _ => 0)), (a1, .inr (.inl (40, fun _ => 0))), (b, .inr (.inr (4, [.ref a1, .ref a2, .ref a3, .ref a4, .ref a5, .int 0, .ref a6])))] ++ wr) d_B_init_49 rfl rfl in_B ft_B_ok n_B (by decide) lf_B_28 rfl rfl rfl rfl (ft_B_ok 6 (by decide)) rfl rfl (Nat.le_of_ble_eq_true rfl) rfl ?_
  refine g_vret (pc := 52) d_B_init_52 rfl (Nat.le_of_ble_eq_true rfl) (Nat.le_of_ble_eq_true rfl) ?_
  exact ⟨a1, a2, a3, a4, a5, a6, rfl, rfl⟩
set_option maxRecDepth 100000 in
set_option maxHeartbeats 4000000 in
theorem c_M_init {τ : Nat × Nat} {wr : pW} (b : Nat) : pC m_M_init τ [.ref b] ([(b, .inr (.inr (5, [.null, .int 0, .int 0, .null, .null, .null, .int 0, .null, .null, .null, .int 0, .null, .null, .null, .null, .long 0, .null, .int 0])))] ++ wr) (fun rr w2 => ∃ a i r L z, rr = none ∧ w2 = wM a i r L z ++ wr ∧ a 0 = b ∧ MI [] [] [] (dcl []) [] i r L) := by
  refine pC.of rfl (Nat.le_of_ble_eq_true rfl) ?_
  show pG m_M_init τ _ 0 0 0 [(0, _)] [] _
  refine g_aload_n (pc := 0) d_M_init_0 rfl ?_
  refine g_objInit (pc := 1) d_M_init_1 lm_M_1 (by decide) (by decide) ?_
  refine g_aload_n (pc := 4) d_M_init_4 rfl ?_
  refine g_sipush (pc := 5) (v := nI 3020) d_M_init_5 (by decide) ?_
  refine g_newI (pc := 8) (N := 3020) (z := nI 3020) d_M_init_8 (by decide) (by decide) (by decide) (Nat.le_of_ble_eq_true rfl) (Nat.le_of_ble_eq_true rfl) (fun a1 => ?_)
  refine g_perm (List.perm_append_singleton _ _) ?_
  show pG m_M_init τ _ 1 3020 10 _ (.ref _ :: .ref _ :: _) ([(a1, .inl (3020, fun _ => 0)), (b, .inr (.inr (5, [.null, .int 0, .int 0, .null, .null, .null, .int 0, .null, .null, .null, .int 0, .null, .null, .null, .null, .long 0, .null, .int 0])))] ++ wr)
  refine g_put (q := 1) (ci := 5) (j := 0) (T := F_M) (N := 18) (ty0 := ft_M) (ty := ft_M 0) (pc := 10) ([(a1, .inl (3020, fun _ => 0)), (b, .inr (.inr (5, [.ref a1, .int 0, .int 0, .null, .null, .null, .int 0, .null, .null, .null, .int 0, .null, .null, .null, .null, .long 0, .null, .int 0])))] ++ wr) d_M_init_10 rfl rfl in_M ft_M_ok n_M (by decide) lf_M_7 rfl rfl (ft_M_ok 0 (by decide)) rfl rfl (Nat.le_of_ble_eq_true rfl) rfl ?_
  refine g_aload_n (pc := 13) d_M_init_13 rfl ?_
  refine g_bipush (pc := 14) (v := nI 60) d_M_init_14 (by decide) ?_
  refine g_newI (pc := 16) (N := 60) (z := nI 60) d_M_init_16 (by decide) (by decide) (by decide) (Nat.le_of_ble_eq_true rfl) (Nat.le_of_ble_eq_true rfl) (fun a2 => ?_)
  refine g_perm (List.perm_append_singleton _ _) ?_
  show pG m_M_init τ _ 2 3080 18 _ (.ref _ :: .ref _ :: _) ([(a2, .inl (60, fun _ => 0)), (a1, .inl (3020, fun _ => 0)), (b, .inr (.inr (5, [.ref a1, .int 0, .int 0, .null, .null, .null, .int 0, .null, .null, .null, .int 0, .null, .null, .null, .null, .long 0, .null, .int 0])))] ++ wr)
  refine g_put (q := 2) (ci := 5) (j := 3) (T := F_M) (N := 18) (ty0 := ft_M) (ty := ft_M 3) (pc := 18) ([(a2, .inl (60, fun _ => 0)), (a1, .inl (3020, fun _ => 0)), (b, .inr (.inr (5, [.ref a1, .int 0, .int 0, .ref a2, .null, .null, .int 0, .null, .null, .null, .int 0, .null, .null, .null, .null, .long 0, .null, .int 0])))] ++ wr) d_M_init_18 rfl rfl in_M ft_M_ok n_M (by decide) lf_M_13 rfl rfl (ft_M_ok 3 (by decide)) rfl rfl (Nat.le_of_ble_eq_true rfl) rfl ?_
  refine g_aload_n (pc := 21) d_M_init_21 rfl ?_
  refine g_bipush (pc := 22) (v := nI 60) d_M_init_22 (by decide) ?_
  refine g_newI (pc := 24) (N := 60) (z := nI 60) d_M_init_24 (by decide) (by decide) (by decide) (Nat.le_of_ble_eq_true rfl) (Nat.le_of_ble_eq_true rfl) (fun a3 => ?_)
  refine g_perm (List.perm_append_singleton _ _) ?_
  show pG m_M_init τ _ 3 3140 26 _ (.ref _ :: .ref _ :: _) ([(a3, .inl (60, fun _ => 0)), (a2, .inl (60, fun _ => 0)), (a1, .inl (3020, fun _ => 0)), (b, .inr (.inr (5, [.ref a1, .int 0, .int 0, .ref a2, .null, .null, .int 0, .null, .null, .null, .int 0, .null, .null, .null, .null, .long 0, .null, .int 0])))] ++ wr)
  refine g_put (q := 3) (ci := 5) (j := 4) (T := F_M) (N := 18) (ty0 := ft_M) (ty := ft_M 4) (pc := 26) ([(a3, .inl (60, fun _ => 0)), (a2, .inl (60, fun _ => 0)), (a1, .inl (3020, fun _ => 0)), (b, .inr (.inr (5, [.ref a1, .int 0, .int 0, .ref a2, .ref a3, .null, .int 0, .null, .null, .null, .int 0, .null, .null, .null, .null, .long 0, .null, .int 0])))] ++ wr) d_M_init_26 rfl rfl in_M ft_M_ok n_M (by decide) lf_M_16 rfl rfl (ft_M_ok 4 (by decide)) rfl rfl (Nat.le_of_ble_eq_true rfl) rfl ?_
  refine g_aload_n (pc := 29) d_M_init_29 rfl ?_
  refine g_bipush (pc := 30) (v := nI 32) d_M_init_30 (by decide) ?_
  refine g_newI (pc := 32) (N := 32) (z := nI 32) d_M_init_32 (by decide) (by decide) (by decide) (Nat.le_of_ble_eq_true rfl) (Nat.le_of_ble_eq_true rfl) (fun a4 => ?_)
  refine g_perm (List.perm_append_singleton _ _) ?_
  show pG m_M_init τ _ 4 3172 34 _ (.ref _ :: .ref _ :: _) ([(a4, .inl (32, fun _ => 0)), (a3, .inl (60, fun _ => 0)), (a2, .inl (60, fun _ => 0)), (a1, .inl (3020, fun _ => 0)), (b, .inr (.inr (5, [.ref a1, .int 0, .int 0, .ref a2, .ref a3, .null, .int 0, .null, .null, .null, .int 0, .null, .null, .null, .null, .long 0, .null, .int 0])))] ++ wr)
  refine g_put (q := 4) (ci := 5) (j := 5) (T := F_M) (N := 18) (ty0 := ft_M) (ty := ft_M 5) (pc := 34) ([(a4, .inl (32, fun _ => 0)), (a3, .inl (60, fun _ => 0)), (a2, .inl (60, fun _ => 0)), (a1, .inl (3020, fun _ => 0)), (b, .inr (.inr (5, [.ref a1, .int 0, .int 0, .ref a2, .ref a3, .ref a4, .int 0, .null, .null, .null, .int 0, .null, .null, .null, .null, .long 0, .null, .int 0])))] ++ wr) d_M_init_34 rfl rfl in_M ft_M_ok n_M (by decide) lf_M_19 rfl rfl (ft_M_ok 5 (by decide)) rfl rfl (Nat.le_of_ble_eq_true rfl) rfl ?_
  refine g_aload_n (pc := 37) d_M_init_37 rfl ?_
  refine g_iconst (pc := 38) (v := nI 3) d_M_init_38 (by decide) ?_
  refine g_put (q := 4) (ci := 5) (j := 6) (T := F_M) (N := 18) (ty0 := ft_M) (ty := ft_M 6) (pc := 39) ([(a4, .inl (32, fun _ => 0)), (a3, .inl (60, fun _ => 0)), (a2, .inl (60, fun _ => 0)), (a1, .inl (3020, fun _ => 0)), (b, .inr (.inr (5, [.ref a1, .int 0, .int 0, .ref a2, .ref a3, .ref a4, .int (nI 3), .null, .null, .null, .int 0, .null, .null, .null, .null, .long 0, .null, .int 0])))] ++ wr) d_M_init_39 rfl rfl in_M ft_M_ok n_M (by decide) lf_M_22 rfl rfl (ft_M_ok 6 (by decide)) rfl rfl (Nat.le_of_ble_eq_true rfl) rfl ?_
  refine g_aload_n (pc := 42) d_M_init_42 rfl ?_
  refine g_bipush (pc := 43) (v := nI 16) d_M_init_43 (by decide) ?_
  refine g_newI (pc := 45) (N := 16) (z := nI 16) d_M_init_45 (by decide) (by decide) (by decide) (Nat.le_of_ble_eq_true rfl) (Nat.le_of_ble_eq_true rfl) (fun a5 => ?_)
  refine g_perm (List.perm_append_singleton _ _) ?_
  show pG m_M_init τ _ 5 3188 47 _ (.ref _ :: .ref _ :: _) ([(a5, .inl (16, fun _ => 0)), (a4, .inl (32, fun _ => 0)), (a3, .inl (60, fun _ => 0)), (a2, .inl (60, fun _ => 0)), (a1, .inl (3020, fun _ => 0)), (b, .inr (.inr (5, [.ref a1, .int 0, .int 0, .ref a2, .ref a3, .ref a4, .int (nI 3), .null, .null, .null, .int 0, .null, .null, .null, .null, .long 0, .null, .int 0])))] ++ wr)
  refine g_put (q := 5) (ci := 5) (j := 7) (T := F_M) (N := 18) (ty0 := ft_M) (ty := ft_M 7) (pc := 47) ([(a5, .inl (16, fun _ => 0)), (a4, .inl (32, fun _ => 0)), (a3, .inl (60, fun _ => 0)), (a2, .inl (60, fun _ => 0)), (a1, .inl (3020, fun _ => 0)), (b, .inr (.inr (5, [.ref a1, .int 0, .int 0, .ref a2, .ref a3, .ref a4, .int (nI 3), .ref a5, .null, .null, .int 0, .null, .null, .null, .null, .long 0, .null, .int 0])))] ++ wr) d_M_init_47 rfl rfl in_M ft_M_ok n_M (by decide) lf_M_26 rfl rfl (ft_M_ok 7 (by decide)) rfl rfl (Nat.le_of_ble_eq_true rfl) rfl ?_
  refine g_aload_n (pc := 50) d_M_init_50 rfl ?_
  refine g_bipush (pc := 51) (v := nI 16) d_M_init_51 (by decide) ?_
  refine g_newI (pc := 53) (N := 16) (z := nI 16) d_M_init_53 (by decide) (by decide) (by decide) (Nat.le_of_ble_eq_true rfl) (Nat.le_of_ble_eq_true rfl) (fun a6 => ?_)
  refine g_perm (List.perm_append_singleton _ _) ?_
  show pG m_M_init τ _ 6 3204 55 _ (.ref _ :: .ref _ :: _) ([(a6, .inl (16, fun _ => 0)), (a5, .inl (16, fun _ => 0)), (a4, .inl (32, fun _ => 0)), (a3, .inl (60, fun _ => 0)), (a2, .inl (60, fun _ => 0)), (a1, .inl (3020, fun _ => 0)), (b, .inr (.inr (5, [.ref a1, .int 0, .int 0, .ref a2, .ref a3, .ref a4, .int (nI 3), .ref a5, .null, .null, .int 0, .null, .null, .null, .null, .long 0, .null, .int 0])))] ++ wr)
  refine g_put (q := 6) (ci := 5) (j := 8) (T := F_M) (N := 18) (ty0 := ft_M) (ty := ft_M 8) (pc := 55) ([(a6, .inl (16, fun _ => 0)), (a5, .inl (16, fun _ => 0)), (a4, .inl (32, fun _ => 0)), (a3, .inl (60, fun _ => 0)), (a2, .inl (60, fun _ => 0)), (a1, .inl (3020, fun _ => 0)), (b, .inr (.inr (5, [.ref a1, .int 0, .int 0, .ref a2, .ref a3, .ref a4, .int (nI 3), .ref a5, .ref a6, .null, .int 0, .null, .null, .null, .null, .long 0, .null, .int 0])))] ++ wr) d_M_init_55 rfl rfl in_M ft_M_ok n_M (by decide) lf_M_29 rfl rfl (ft_M_ok 8 (by decide)) rfl rfl (Nat.le_of_ble_eq_true rfl) rfl ?_
  refine g_aload_n (pc := 58) d_M_init_58 rfl ?_
  refine g_iconst (pc := 59) (v := nI 4) d_M_init_59 (by decide) ?_
  refine g_newI (pc := 60) (N := 4) (z := nI 4) d_M_init_60 (by decide) (by decide) (by decide) (Nat.le_of_ble_eq_true rfl) (Nat.le_of_ble_eq_true rfl) (fun a7 => ?_)
  refine g_perm (List.perm_append_singleton _ _) ?_
  show pG m_M_init τ _ 7 3208 62 _ (.ref _ :: .ref _ :: _) ([(a7, .inl (4, fun _ => 0)), (a6, .inl (16, fun _ => 0)), (a5, .inl (16, fun _ => 0)), (a4, .inl (32, fun _ => 0)), (a3, .inl (60, fun _ => 0)), (a2, .inl (60, fun _ => 0)), (a1, .inl (3020, fun _ => 0)), (b, .inr (.inr (5, [.ref a1, .int 0, .int 0, .ref a2, .ref a3, .ref a4, .int (nI 3), .ref a5, .ref a6, .null, .int 0, .null, .null, .null, .null, .long 0, .null, .int 0])))] ++ wr)
  refine g_put (q := 7) (ci := 5) (j := 9) (T := F_M) (N := 18) (ty0 := ft_M) (ty := ft_M 9) (pc := 62) ([(a7, .inl (4, fun _ => 0)), (a6, .inl (16, fun _ => 0)), (a5, .inl (16, fun _ => 0)), (a4, .inl (32, fun _ => 0)), (a3, .inl (60, fun _ => 0)), (a2, .inl (60, fun _ => 0)), (a1, .inl (3020, fun _ => 0)), (b, .inr (.inr (5, [.ref a1, .int 0, .int 0, .ref a2, .ref a3, .ref a4, .int (nI 3), .ref a5, .ref a6, .ref a7, .int 0, .null, .null, .null, .null, .long 0, .null, .int 0])))] ++ wr) d_M_init_62 rfl rfl in_M ft_M_ok n_M (by decide) lf_M_32 rfl rfl (ft_M_ok 9 (by decide)) rfl rfl (Nat.le_of_ble_eq_true rfl) rfl ?_
  refine g_aload_n (pc := 65) d_M_init_65 rfl ?_
  refine g_bipush (pc := 66) (v := nI 40) d_M_init_66 (by decide) ?_
  refine g_newJ (pc := 68) (N := 40) (z := nI 40) d_M_init_68 (by decide) (by decide) (by decide) (Nat.le_of_ble_eq_true rfl) (Nat.le_of_ble_eq_true rfl) (fun a8 => ?_)
  refine g_perm (List.perm_append_singleton _ _) ?_
  show pG m_M_init τ _ 8 3248 70 _ (.ref _ :: .ref _ :: _) ([(a8, .inr (.inl (40, fun _ => 0))), (a7, .inl (4, fun _ => 0)), (a6, .inl (16, fun _ => 0)), (a5, .inl (16, fun _ => 0)), (a4, .inl (32, fun _ => 0)), (a3, .inl (60, fun _ => 0)), (a2, .inl (60, fun _ => 0)), (a1, .inl (3020, fun _ => 0)), (b, .inr (.inr (5, [.ref a1, .int 0, .int 0, .ref a2, .ref a3, .ref a4, .int (nI 3), .ref a5, .ref a6, .ref a7, .int 0, .null, .null, .null, .null, .long 0, .null, .int 0])))] ++ wr)
  refine g_put (q := 8) (ci := 5) (j := 11) (T := F_M) (N := 18) (ty0 := ft_M) (ty := ft_M 11) (pc := 70) ([(a8, .inr (.inl (40, fun _ => 0))), (a7, .inl (4, fun _ => 0)), (a6, .inl (16, fun _ => 0)), (a5, .inl (16, fun _ => 0)), (a4, .inl (32, fun _ => 0)), (a3, .inl (60, fun _ => 0)), (a2, .inl (60, fun _ => 0)), (a1, .inl (3020, fun _ => 0)), (b, .inr (.inr (5, [.ref a1, .int 0, .int 0, .ref a2, .ref a3, .ref a4, .int (nI 3), .ref a5, .ref a6, .ref a7, .int 0, .ref a8, .null, .null, .null, .long 0, .null, .int 0])))] ++ wr) d_M_init_70 rfl rfl in_M ft_M_ok n_M (by decide) lf_M_35 rfl rfl (ft_M_ok 11 (by decide)) rfl rfl (Nat.le_of_ble_eq_true rfl) rfl ?_
  refine g_aload_n (pc := 73) d_M_init_73 rfl ?_
  refine g_bipush (pc := 74) (v := nI 40) d_M_init_74 (by decide) ?_
  refine g_newI (pc := 76) (N := 40) (z := nI 40) d_M_init_76 (by decide) (by decide) (by decide) (Nat.le_of_ble_eq_true rfl) (Nat.le_of_ble_eq_true rfl) (fun a9 => ?_)
  refine g_perm (List.perm_append_singleton _ _) ?_
  show pG m_M_init τ _ 9 3288 78 _ (.ref _ :: .ref _ :: _) ([(a9, .inl (40, fun _ => 0)), (a8, .inr (.inl (40, fun _ => 0))), (a7, .inl (4, fun _ => 0)), (a6, .inl (16, fun _ => 0)), (a5, .inl (16, fun _ => 0)), (a4, .inl (32, fun _ => 0)), (a3, .inl (60, fun _ => 0)), (a2, .inl (60, fun _ => 0)), (a1, .inl (3020, fun _ => 0)), (b, .inr (.inr (5, [.ref a1, .int 0, .int 0, .ref a2, .ref a3, .ref a4, .int (nI 3), .ref a5, .ref a6, .ref a7, .int 0, .ref a8, .null, .null, .null, .long 0, .null, .int 0])))] ++ wr)
  refine g_put (q := 9) (ci := 5) (j := 12) (T := F_M) (N := 18) (ty0 := ft_M) (ty := ft_M 12) (pc := 78) ([(a9, .inl (40, fun _ => 0)), (a8, .inr (.inl (40, fun _ => 0))), (a7, .inl (4, fun _ => 0)), (a6, .inl (16, fun _ => 0)), (a5, .inl (16, fun _ => 0)), (a4, .inl (32, fun _ => 0)), (a3, .inl (60, fun _ => 0)), (a2, .inl (60, fun _ => 0)), (a1, .inl (3020, fun _ => 0)), (b, .inr (.inr (5, [.ref a1, .int 0, .int 0, .ref a2, .ref a3, .ref a4, .int (nI 3), .ref a5, .ref a6, .ref a7, .int 0, .ref a8, .ref a9, .null, .null, .long 0, .null, .int 0])))] ++ wr) d_M_init_78 rfl rfl in_M ft_M_ok n_M (by decide) lf_M_39 rfl rfl (ft_M_ok 12 (by decide)) rfl rfl (Nat.le_of_ble_eq_true rfl) rfl ?_
  refine g_aload_n (pc := 81) d_M_init_81 rfl ?_
  refine g_bipush (pc := 82) (v := nI 40) d_M_init_82 (by decide) ?_
  refine g_newJ (pc := 84) (N := 40) (z := nI 40) d_M_init_84 (by decide) (by decide) (by decide) (Nat.le_of_ble_eq_true rfl) (Nat.le_of_ble_eq_true rfl) (fun a10 => ?_)
  refine g_perm (List.perm_append_singleton _ _) ?_
  show pG m_M_init τ _ 10 3328 86 _ (.ref _ :: .ref _ :: _) ([(a10, .inr (.inl (40, fun _ => 0))), (a9, .inl (40, fun _ => 0)), (a8, .inr (.inl (40, fun _ => 0))), (a7, .inl (4, fun _ => 0)), (a6, .inl (16, fun _ => 0)), (a5, .inl (16, fun _ => 0)), (a4, .inl (32, fun _ => 0)), (a3, .inl (60, fun _ => 0)), (a2, .inl (60, fun _ => 0)), (a1, .inl (3020, fun _ => 0)), (b, .inr (.inr (5, [.ref a1, .int 0, .int 0, .ref a2, .ref a3, .ref a4, .int (nI 3), .ref a5, .ref a6, .ref a7, .int 0, .ref a8, .ref a9, .null, .null, .long 0, .null, .int 0])))] ++ wr)
  refine g_put (q := 10) (ci := 5) (j := 13) (T := F_M) (N := 18) (ty0 := ft_M) (ty := ft_M 13) (pc := 86) ([(a10, .inr (.inl (40, fun _ => 0))), (a9, .inl (40, fun _ => 0)), (a8, .inr (.inl (40, fun _ => 0))), (a7, .inl (4, fun _ => 0)), (a6, .inl (16, fun _ => 0)), (a5, .inl (16, fun _ => 0)), (a4, .inl (32, fun _ => 0)), (a3, .inl (60, fun _ => 0)), (a2, .inl (60, fun _ => 0)), (a1, .inl (3020, fun _ => 0)), (b, .inr (.inr (5, [.ref a1, .int 0, .int 0, .ref a2, .ref a3, .ref a4, .int (nI 3), .ref a5, .ref a6, .ref a7, .int 0, .ref a8, .ref a9, .ref a10, .null, .long 0, .null, .int 0])))] ++ wr) d_M_init_86 rfl rfl in_M ft_M_ok n_M (by decide) lf_M_42 rfl rfl (ft_M_ok 13 (by decide)) rfl rfl (Nat.le_of_ble_eq_true rfl) rfl ?_
  refine g_aload_n (pc := 89) d_M_init_89 rfl ?_
  refine g_bipush (pc := 90) (v := nI 40) d_M_init_90 (by decide) ?_
  refine g_newI (pc := 92) (N := 40) (z := nI 40) d_M_init_92 (by decide) (by decide) (by decide) (Nat.le_of_ble_eq_true rfl) (Nat.le_of_ble_eq_true rfl) (fun a11 => ?_)
  refine g_perm (List.perm_append_singleton _ _) ?_
  show pG m_M_init τ _ 11 3368 94 _ (.ref _ :: .ref _ :: _) ([(a11, .inl (40, fun _ => 0)), (a10, .inr (.inl (40, fun _ => 0))), (a9, .inl (40, fun _ => 0)), (a8, .inr (.inl (40, fun _ => 0))), (a7, .inl (4, fun _ => 0)), (a6, .inl (16, fun _ => 0)), (a5, .inl (16, fun _ => 0)), (a4, .inl (32, fun _ => 0)), (a3, .inl (60, fun _ => 0)), (a2, .inl (60, fun _ => 0)), (a1, .inl (3020, fun _ => 0)), (b, .inr (.inr (5, [.ref a1, .int 0, .int 0, .ref a2, .ref a3, .ref a4, .int (nI 3), .ref a5, .ref a6, .ref a7, .int 0, .ref a8, .ref a9, .ref a10, .null, .long 0, .null, .int 0])))] ++ wr)
  refine g_put (q := 11) (ci := 5) (j := 14) (T := F_M) (N := 18) (ty0 := ft_M) (ty := ft_M 14) (pc := 94) ([(a11, .inl (40, fun _ => 0)), (a10, .inr (.inl (40, fun _ => 0))), (a9, .inl (40, fun _ => 0)), (a8, .inr (.inl (40, fun _ => 0))), (a7, .inl (4, fun _ => 0)), (a6, .inl (16, fun _ => 0)), (a5, .inl (16, fun _ => 0)), (a4, .inl (32, fun _ => 0)), (a3, .inl (60, fun _ => 0)), (a2, .inl (60, fun _ => 0)), (a1, .inl (3020, fun _ => 0)), (b, .inr (.inr (5, [.ref a1, .int 0, .int 0, .ref a2, .ref a3, .ref a4, .int (nI 3), .ref a5, .ref a6, .ref a7, .int 0, .ref a8, .ref a9, .ref a10, .ref a11, .long 0, .null, .int 0])))] ++ wr) d_M_init_94 rfl rfl in_M ft_M_ok n_M (by decide) lf_M_45 rfl rfl (ft_M_ok 14 (by decide)) rfl rfl (Nat.le_of_ble_eq_true rfl) rfl ?_
  refine g_aload_n (pc := 97) d_M_init_97 rfl ?_
  refine g_bipush (pc := 98) (v := nI 64) d_M_init_98 (by decide) ?_
  refine g_newI (pc := 100) (N := 64) (z := nI 64) d_M_init_100 (by decide) (by decide) (by decide) (Nat.le_of_ble_eq_true rfl) (Nat.le_of_ble_eq_true rfl) (fun a12 => ?_)
  refine g_perm (List.perm_append_singleton _ _) ?_
  show pG m_M_init τ _ 12 3432 102 _ (.ref _ :: .ref _ :: _) ([(a12, .inl (64, fun _ => 0)), (a11, .inl (40, fun _ => 0)), (a10, .inr (.inl (40, fun _ => 0))), (a9, .inl (40, fun _ => 0)), (a8, .inr (.inl (40, fun _ => 0))), (a7, .inl (4, fun _ => 0)), (a6, .inl (16, fun _ => 0)), (a5, .inl (16, fun _ => 0)), (a4, .inl (32, fun _ => 0)), (a3, .inl (60, fun _ => 0)), (a2, .inl (60, fun _ => 0)), (a1, .inl (3020, fun _ => 0)), (b, .inr (.inr (5, [.ref a1, .int 0, .int 0, .ref a2, .ref a3, .ref a4, .int (nI 3), .ref a5, .ref a6, .ref a7, .int 0, .ref a8, .ref a9, .ref a10, .ref a11, .long 0, .null, .int 0])))] ++ wr)
  refine g_put (q := 12) (ci := 5) (j := 16) (T := F_M) (N := 18) (ty0 := ft_M) (ty := ft_M 16) (pc := 102) ([(a12, .inl (64, fun _ => 0)), (a11, .inl (40, fun _ => 0)), (a10, .inr (.inl (40, fun _ => 0))), (a9, .inl (40, fun _ => 0)), (a8, .inr (.inl (40, fun _ => 0))), (a7, .inl (4, fun _ => 0)), (a6, .inl (16, fun _ => 0)), (a5, .inl (16, fun _ => 0)), (a4, .inl (32, fun _ => 0)), (a3, .inl (60, fun _ => 0)), (a2, .inl (60, fun _ => 0)), (a1, .inl (3020, fun _ => 0)), (b, .inr (.inr (5, [.ref a1, .int 0, .int 0, .ref a2, .ref a3, .ref a4, .int (nI 3), .ref a5, .ref a6, .ref a7, .int 0, .ref a8, .ref a9, .ref a10, .ref a11, .long 0, .ref a12, .int 0])))] ++ wr) d_M_init_102 rfl rfl in_M ft_M_ok n_M (by decide) lf_M_48 rfl rfl (ft_M_ok 16 (by decide)) rfl rfl (Nat.le_of_ble_eq_true rfl) rfl ?_
  refine g_perm (((show [12, 11, 10, 9, 8, 7, 6, 5, 4, 3, 2, 1, 0].Perm [0, 1, 2, 3, 4, 5, 6, 7, 8, 9, 10, 11, 12] by decide).map (fun j => (wM (fun j => ([b, a1, a2, a3, a4, a5, a6, a7, a8, a9, a10, a11, a12] : List Nat).getD j 0) (fun j => ([0, 0, nI 3, 0, 0] : List Int32).getD j 0) (fun _ _ => 0) (fun _ _ => 0) 0).getD j (0, .inl (0, fun _ => 0)))).append_right wr) ?_
  refine g_vret (pc := 105) d_M_init_105 rfl (Nat.le_of_ble_eq_true rfl) (Nat.le_of_ble_eq_true rfl) ?_
  refine ⟨fun j => ([b, a1, a2, a3, a4, a5, a6, a7, a8, a9, a10, a11, a12] : List Nat).getD j 0, fun j => ([0, 0, nI 3, 0, 0] : List Int32).getD j 0, fun _ _ => 0, fun _ _ => 0, 0, rfl, rfl, rfl, ?_⟩
  refine ⟨⟨rfl, by decide, fun j p hj => by simp at hj⟩, ⟨rfl, by decide, fun j p hj => by simp at hj⟩, fun n hn => ⟨rfl, (show oI none ≤ 16 by decide)⟩, ⟨rfl, fun j x hj => by simp at hj⟩, ⟨rfl, by decide, fun k rl x y h c hk => by simp at hk⟩⟩
set_option maxRecDepth 100000 in
set_option maxHeartbeats 4000000 in
theorem c_K_init {τ : Nat × Nat} {wr : pW} (b : Nat) : pC m_K_init τ [.ref b] ([(b, .inr (.inr (0, [.null, .null, .null, .null])))] ++ wr) (fun rr w2 => ∃ a i r L, rr = none ∧ w2 = wX a i r L ++ wr ∧ a 0 = b ∧ XI [] [] [] [] i r L) := by
  refine pC.of rfl (Nat.le_of_ble_eq_true rfl) ?_
  show pG m_K_init τ _ 0 0 0 [(0, _)] [] _
  refine g_aload_n (pc := 0) d_K_init_0 rfl ?_
  refine g_objInit (pc := 1) d_K_init_1 lm_K_1 (by decide) (by decide) ?_
  refine g_aload_n (pc := 4) d_K_init_4 rfl ?_
  refine g_new (pc := 5) (Cn := R_T) (ci := 1) (T := F_T) (N := 3) (fs := [.null, .null, .int 0]) (ft := ft_T) d_K_init_5 lc_K_7 ins_T ini_T rfl in_T ft_T_ok (fun j hj => by rcases (show j = 0 ∨ j = 1 ∨ j = 2 by omega) with rfl | rfl | rfl <;> rfl) (Nat.le_of_ble_eq_true rfl) (Nat.le_of_ble_eq_true rfl) (fun a1 => ?_)
  refine g_perm (List.perm_append_singleton _ _) ?_
  show pG m_K_init τ _ 1 3 8 _ (.ref _ :: .ref _ :: _) ([(a1, .inr (.inr (1, [.null, .null, .int 0]))), (b, .inr (.inr (0, [.null, .null, .null, .null])))] ++ wr)
  refine g_dup (pc := 8) d_K_init_8 rfl ?_
  refine g_callI (M' := m_T_init) (pc := 9) d_K_init_9 lm_K_9 (c_T_init a1) v_T_init rfl (by decide) rfl (Nat.le_of_ble_eq_true rfl) ?_
  rintro _ _ ⟨a3, a2, fa2, fa3, rfl, rfl, hfT⟩
  show pG m_K_init τ _ 3 35 12 _ (.ref _ :: .ref _ :: _) ([(a2, .inl (16, fa2)), (a3, .inl (16, fa3)), (a1, .inr (.inr (1, [.ref a3, .ref a2, .int (nI 3)]))), (b, .inr (.inr (0, [.null, .null, .null, .null])))] ++ wr)
  refine g_putF (q := 3) (ci := 0) (j := 0) (T := F_K) (N := 4) (ty0 := ft_K) (ty := ft_K 0) (pc := 12) ([(a2, .inl (16, fa2)), (a3, .inl (16, fa3)), (a1, .inr (.inr (1, [.ref a3, .ref a2, .int (nI 3)]))), (b, .inr (.inr (0, [.ref a1, .null, .null, .null])))] ++ wr) d_K_init_12 rfl rfl in_K ft_K_ok n_K (by decide) lf_K_10 rfl rfl rfl rfl (ft_K_ok 0 (by decide)) rfl rfl (Nat.le_of_ble_eq_true rfl) rfl ?_
  refine g_aload_n (pc := 15) d_K_init_15 rfl ?_
  refine g_new (pc := 16) (Cn := R_S) (ci := 2) (T := F_S) (N := 3) (fs := [.null, .null, .int 0]) (ft := ft_S) d_K_init_16 lc_K_16 ins_S ini_S rfl in_S ft_S_ok (fun j hj => by rcases (show j = 0 ∨ j = 1 ∨ j = 2 by omega) with rfl | rfl | rfl <;> rfl) (Nat.le_of_ble_eq_true rfl) (Nat.le_of_ble_eq_true rfl) (fun a4 => ?_)
  refine g_perm (List.perm_append_singleton _ _) ?_
  show pG m_K_init τ _ 4 38 19 _ (.ref _ :: .ref _ :: _) ([(a4, .inr (.inr (2, [.null, .null, .int 0]))), (a2, .inl (16, fa2)), (a3, .inl (16, fa3)), (a1, .inr (.inr (1, [.ref a3, .ref a2, .int (nI 3)]))), (b, .inr (.inr (0, [.ref a1, .null, .null, .null])))] ++ wr)
  refine g_dup (pc := 19) d_K_init_19 rfl ?_
  refine g_callIN (M' := m_S_init) (pc := 20) d_K_init_20 rfl (fun U h => h.1) (c_S_init a4) v_S_init rfl (by decide) rfl (Nat.le_of_ble_eq_true rfl) ?_
  rintro _ _ ⟨a6, a5, rfl, rfl⟩
  show pG m_K_init τ _ 6 1898 23 _ (.ref _ :: .ref _ :: _) ([(a5, .inl (60, fun _ => 0)), (a6, .inl (1800, fun _ => 0)), (a4, .inr (.inr (2, [.ref a6, .ref a5, .int 0]))), (a2, .inl (16, fa2)), (a3, .inl (16, fa3)), (a1, .inr (.inr (1, [.ref a3, .ref a2, .int (nI 3)]))), (b, .inr (.inr (0, [.ref a1, .null, .null, .null])))] ++ wr)
  refine g_putF (q := 6) (ci := 0) (j := 1) (T := F_K) (N := 4) (ty0 := ft_K) (ty := ft_K 1) (pc := 23) ([(a5, .inl (60, fun _ => 0)), (a6, .inl (1800, fun _ => 0)), (a4, .inr (.inr (2, [.ref a6, .ref a5, .int 0]))), (a2, .inl (16, fa2)), (a3, .inl (16, fa3)), (a1, .inr (.inr (1, [.ref a3, .ref a2, .int (nI 3)]))), (b, .inr (.inr (0, [.ref a1, .ref a4, .null, .null])))] ++ wr) d_K_init_23 rfl rfl in_K ft_K_ok n_K (by decide) lf_K_19 rfl rfl rfl rfl (ft_K_ok 1 (by decide)) rfl rfl (Nat.le_of_ble_eq_true rfl) rfl ?_
  refine g_aload_n (pc := 26) d_K_init_26 rfl ?_
  refine g_new (pc := 27) (Cn := R_D) (ci := 3) (T := F_D) (N := 5) (fs := [.null, .null, .int 0, .null, .int 0]) (ft := ft_D) d_K_init_27 lc_K_23 ins_D ini_D rfl in_D ft_D_ok (fun j hj => by rcases (show j = 0 ∨ j = 1 ∨ j = 2 ∨ j = 3 ∨ j = 4 by omega) with rfl | rfl | rfl | rfl | rfl <;> rfl) (Nat.le_of_ble_eq_true rfl) (Nat.le_of_ble_eq_true rfl) (fun a7 => ?_)
  refine g_perm (List.perm_append_singleton _ _) ?_
  show pG m_K_init τ _ 7 1903 30 _ (.ref _ :: .ref _ :: _) ([(a7, .inr (.inr (3, [.null, .null, .int 0, .null, .int 0]))), (a5, .inl (60, fun _ => 0)), (a6, .inl (1800, fun _ => 0)), (a4, .inr (.inr (2, [.ref a6, .ref a5, .int 0]))), (a2, .inl (16, fa2)), (a3, .inl (16, fa3)), (a1, .inr (.inr (1, [.ref a3, .ref a2, .int (nI 3)]))), (b, .inr (.inr (0, [.ref a1, .ref a4, .null, .null])))] ++ wr)
  refine g_dup (pc := 30) d_K_init_30 rfl ?_
  refine g_aload_n (pc := 31) d_K_init_31 rfl ?_
  refine g_get (q := 7) (ci := 0) (j := 1) (T := F_K) (N := 4) (pc := 32) d_K_init_32 rfl rfl in_K (by decide) lf_K_19 rfl rfl ?_
  refine g_callI (M' := m_D_init) (pc := 35) d_K_init_35 lm_K_25 (c_D_init a7 a4) v_D_init rfl (by decide) rfl (Nat.le_of_ble_eq_true rfl) ?_
  rintro _ _ ⟨a9, a8, rfl, rfl⟩
  show pG m_K_init τ _ 9 1963 38 _ (.ref _ :: .ref _ :: _) ([(a8, .inl (30, fun _ => 0)), (a9, .inl (30, fun _ => 0)), (a7, .inr (.inr (3, [.ref a4, .ref a9, .int 0, .ref a8, .int 0]))), (a5, .inl (60, fun _ => 0)), (a6, .inl (1800, fun _ => 0)), (a4, .inr (.inr (2, [.ref a6, .ref a5, .int 0]))), (a2, .inl (16, fa2)), (a3, .inl (16, fa3)), (a1, .inr (.inr (1, [.ref a3, .ref a2, .int (nI 3)]))), (b, .inr (.inr (0, [.ref a1, .ref a4, .null, .null])))] ++ wr)
  refine g_putF (q := 9) (ci := 0) (j := 2) (T := F_K) (N := 4) (ty0 := ft_K) (ty := ft_K 2) (pc := 38) ([(a8, .inl (30, fun _ => 0)), (a9, .inl (30, fun _ => 0)), (a7, .inr (.inr (3, [.ref a4, .ref a9, .int 0, .ref a8, .int 0]))), (a5, .inl (60, fun _ => 0)), (a6, .inl (1800, fun _ => 0)), (a4, .inr (.inr (2, [.ref a6, .ref a5, .int 0]))), (a2, .inl (16, fa2)), (a3, .inl (16, fa3)), (a1, .inr (.inr (1, [.ref a3, .ref a2, .int (nI 3)]))), (b, .inr (.inr (0, [.ref a1, .ref a4, .ref a7, .null])))] ++ wr) d_K_init_38 rfl rfl in_K ft_K_ok n_K (by decide) lf_K_28 rfl rfl rfl rfl (ft_K_ok 2 (by decide)) rfl rfl (Nat.le_of_ble_eq_true rfl) rfl ?_
  refine g_aload_n (pc := 41) d_K_init_41 rfl ?_
  refine g_new (pc := 42) (Cn := R_B) (ci := 4) (T := F_B) (N := 7) (fs := [.null, .null, .null, .null, .null, .int 0, .null]) (ft := ft_B) d_K_init_42 lc_K_32 ins_B ini_B rfl in_B ft_B_ok (fun j hj => by rcases (show j = 0 ∨ j = 1 ∨ j = 2 ∨ j = 3 ∨ j = 4 ∨ j = 5 ∨ j = 6 by omega) with rfl | rfl | rfl | rfl | rfl | rfl | rfl <;> rfl) (Nat.le_of_ble_eq_true rfl) (Nat.le_of_ble_eq_true rfl) (fun a10 => ?_)
  refine g_perm (List.perm_append_singleton _ _) ?_
  show pG m_K_init τ _ 10 1970 45 _ (.ref _ :: .ref _ :: _) ([(a10, .inr (.inr (4, [.null, .null, .null, .null, .null, .int 0, .null]))), (a8, .inl (30, fun _ => 0)), (a9, .inl (30, fun _ => 0)), (a7, .inr (.inr (3, [.ref a4, .ref a9, .int 0, .ref a8, .int 0]))), (a5, .inl (60, fun _ => 0)), (a6, .inl (1800, fun _ => 0)), (a4, .inr (.inr (2, [.ref a6, .ref a5, .int 0]))), (a2, .inl (16, fa2)), (a3, .inl (16, fa3)), (a1, .inr (.inr (1, [.ref a3, .ref a2, .int (nI 3)]))), (b, .inr (.inr (0, [.ref a1, .ref a4, .ref a7, .null])))] ++ wr)
  refine g_dup (pc := 45) d_K_init_45 rfl ?_
  refine g_callIN (M' := m_B_init) (pc := 46) d_K_init_46 rfl (fun U h => h.2.1) (c_B_init a10) v_B_init rfl (by decide) rfl (Nat.le_of_ble_eq_true rfl) ?_
  rintro _ _ ⟨a16, a15, a14, a13, a12, a11, rfl, rfl⟩
  show pG m_K_init τ _ 16 2210 49 _ (.ref _ :: .ref _ :: _) ([(a11, .inl (40, fun _ => 0)), (a12, .inl (40, fun _ => 0)), (a13, .inl (40, fun _ => 0)), (a14, .inl (40, fun _ => 0)), (a15, .inl (40, fun _ => 0)), (a16, .inr (.inl (40, fun _ => 0))), (a10, .inr (.inr (4, [.ref a16, .ref a15, .ref a14, .ref a13, .ref a12, .int 0, .ref a11]))), (a8, .inl (30, fun _ => 0)), (a9, .inl (30, fun _ => 0)), (a7, .inr (.inr (3, [.ref a4, .ref a9, .int 0, .ref a8, .int 0]))), (a5, .inl (60, fun _ => 0)), (a6, .inl (1800, fun _ => 0)), (a4, .inr (.inr (2, [.ref a6, .ref a5, .int 0]))), (a2, .inl (16, fa2)), (a3, .inl (16, fa3)), (a1, .inr (.inr (1, [.ref a3, .ref a2, .int (nI 3)]))), (b, .inr (.inr (0, [.ref a1, .ref a4, .ref a7, .null])))] ++ wr)
  refine g_putF (q := 16) (ci := 0) (j := 3) (T := F_K) (N := 4) (ty0 := ft_K) (ty := ft_K 3) (pc := 49) ([(a11, .inl (40, fun _ => 0)), (a12, .inl (40, fun _ => 0)), (a13, .inl (40, fun _ => 0)), (a14, .inl (40, fun _ => 0)), (a15, .inl (40, fun _ => 0)), (a16, .inr (.inl (40, fun _ => 0))), (a10, .inr (.inr (4, [.ref a16, .ref a15, .ref a14, .ref a13, .ref a12, .int 0, .ref a11]))), (a8, .inl (30, fun _ => 0)), (a9, .inl (30, fun _ => 0)), (a7, .inr (.inr (3, [.ref a4, .ref a9, .int 0, .ref a8, .int 0]))), (a5, .inl (60, fun _ => 0)), (a6, .inl (1800, fun _ => 0)), (a4, .inr (.inr (2, [.ref a6, .ref a5, .int 0]))), (a2, .inl (16, fa2)), (a3, .inl (16, fa3)), (a1, .inr (.inr (1, [.ref a3, .ref a2, .int (nI 3)]))), (b, .inr (.inr (0, [.ref a1, .ref a4, .ref a7, .ref a10])))] ++ wr) d_K_init_49 rfl rfl in_K ft_K_ok n_K (by decide) lf_K_35 rfl rfl rfl rfl (ft_K_ok 3 (by decide)) rfl rfl (Nat.le_of_ble_eq_true rfl) rfl ?_
  refine g_perm (((show [16, 15, 14, 13, 12, 11, 4, 10, 9, 3, 8, 7, 2, 6, 5, 1, 0].Perm [0, 1, 2, 3, 4, 5, 6, 7, 8, 9, 10, 11, 12, 13, 14, 15, 16] by decide).map (fun j => (wX (fun j => ([b, a1, a4, a7, a10, a3, a2, a6, a5, a9, a8, a16, a15, a14, a13, a12, a11] : List Nat).getD j 0) (fun j => ([nI 3, 0, 0, 0, 0] : List Int32).getD j 0) (fun j => ([fa3, fa2, fun _ => 0, fun _ => 0, fun _ => 0, fun _ => 0, fun _ => 0, fun _ => 0, fun _ => 0, fun _ => 0, fun _ => 0] : List (Nat → Int32)).getD j (fun _ => 0)) (fun _ => 0)).getD j (0, .inl (0, fun _ => 0)))).append_right wr) ?_
  refine g_vret (pc := 52) d_K_init_52 rfl (Nat.le_of_ble_eq_true rfl) (Nat.le_of_ble_eq_true rfl) ?_
  refine ⟨fun j => ([b, a1, a4, a7, a10, a3, a2, a6, a5, a9, a8, a16, a15, a14, a13, a12, a11] : List Nat).getD j 0, fun j => ([nI 3, 0, 0, 0, 0] : List Int32).getD j 0, fun j => ([fa3, fa2, fun _ => 0, fun _ => 0, fun _ => 0, fun _ => 0, fun _ => 0, fun _ => 0, fun _ => 0, fun _ => 0, fun _ => 0] : List (Nat → Int32)).getD j (fun _ => 0), fun _ => 0, rfl, rfl, rfl, ?_⟩
  refine ⟨⟨rfl, by decide, fun j hj => hfT j hj, fun j p hj => by simp at hj⟩, ⟨rfl, by decide, fun j p hj => by simp at hj⟩, ⟨rfl, fun _ j x hj => by simp at hj⟩, ⟨rfl, by decide, fun k rl x y h c hk => by simp at hk⟩⟩
