/-! Booleans as ints, tokens as numbers. -/
def bI (b : Bool) : Int32 := if b then nI 1 else nI 0
theorem bI_t : bI true = nI 1 := rfl
theorem bI_f : bI false = nI 0 := rfl
theorem narrow_bI (b : Bool) : narrow .boolean (.int (bI b)) = .int (bI b) := by cases b <;> rfl
theorem bI_1 {b : Bool} (h : b = true) : nI 1 = bI b := by rw [h]; rfl
theorem bI_0 {b : Bool} (h : b = false) : nI 0 = bI b := by rw [h]; rfl
section bRules
variable {M : pMD} {τ : Nat × Nat} {Q : Option Value → pW → Prop} {k n pc : Nat} {ls : List (Nat × Value)} {rest : List Value} {w : pW}
theorem g_ifb_eq {b : Bool} {off : Int} {tgt : Nat} (hd : decode M.2.1 pc = .ok (.ifCond .eq off, 3)) (ht : (pc : Int) + off = (tgt : Int)) (kt : b = false → pG M τ Q k n tgt ls rest w) (kf : b = true → pG M τ Q k n (pc + 3) ls rest w) : pG M τ Q k n pc ls (.int (bI b) :: rest) w := by
  cases b
  · exact g_if_eq hd ht (fun _ => kt rfl) (fun h => absurd rfl h)
  · exact g_if_eq hd ht (fun h => absurd h (by decide)) (fun _ => kf rfl)
theorem g_ifb_ne {b : Bool} {off : Int} {tgt : Nat} (hd : decode M.2.1 pc = .ok (.ifCond .ne off, 3)) (ht : (pc : Int) + off = (tgt : Int)) (kt : b = true → pG M τ Q k n tgt ls rest w) (kf : b = false → pG M τ Q k n (pc + 3) ls rest w) : pG M τ Q k n pc ls (.int (bI b) :: rest) w := by
  cases b
  · exact g_if_ne hd ht (fun h => absurd rfl h) (fun _ => kf rfl)
  · exact g_if_ne hd ht (fun _ => kt rfl) (fun h => absurd h (by decide))
end bRules
/-- a token of the class: what it is, its info, its type -/
def tok (t i y : Nat) : Nat := t * 512 + i * 16 + y
abbrev kTg (x : Nat) : Nat := x / 512
abbrev kIn (x : Nat) : Nat := x / 16 % 32
abbrev kTy (x : Nat) : Nat := x % 16
def kPt (x : Nat) : Nat := if x / 512 < 3 then 0 else if x / 512 < 5 then 1 else 2
def kBd (x : Nat) : Bool := decide (x / 512 = 3) || decide (x / 512 = 4)
theorem tok_or : ∀ t, t < 8 → ∀ i, i < 32 → ∀ y, y < 16 → (nI t <<< (nI 9 &&& 31)) ||| (nI i <<< (nI 4 &&& 31)) ||| nI y = nI (tok t i y) := by decide +kernel
theorem k_tag {x : Nat} (h : x < 4096) : nI x >>> (nI 9 &&& 31) = nI (x / 512) := pk_shrN (by omega) (nI 9 &&& 31) 9 (by decide)
theorem k_sh4 {x : Nat} (h : x < 4096) : nI x >>> (nI 4 &&& 31) = nI (x / 16) := pk_shrN (by omega) (nI 4 &&& 31) 4 (by decide)
theorem k_info {x : Nat} (h : x < 4096) : (nI x >>> (nI 4 &&& 31)) &&& nI 31 = nI (x / 16 % 32) := by rw [k_sh4 h]; exact pk_andN (by omega) 5 (by decide)
theorem k_type {x : Nat} (h : x < 4096) : nI x &&& nI 15 = nI (x % 16) := pk_andN (by omega) 4 (by decide)
theorem tok_lt {t i y : Nat} (ht : t < 8) (hi : i < 32) (hy : y < 16) : tok t i y < 4096 := by unfold tok; omega
theorem tok_tg {t i y : Nat} (hi : i < 32) (hy : y < 16) : tok t i y / 512 = t := by unfold tok; omega
theorem tok_in {t i y : Nat} (hi : i < 32) (hy : y < 16) : tok t i y / 16 % 32 = i := by unfold tok; omega
theorem tok_ty {t i y : Nat} (hy : y < 16) : tok t i y % 16 = y := by unfold tok; omega
theorem tok_eta {x : Nat} (h : x < 4096) : tok (x / 512) (x / 16 % 32) (x % 16) = x := by unfold tok; omega
theorem nI_inj {a b : Nat} (ha : a < 2 ^ 31) (hb : b < 2 ^ 31) (h : nI a = nI b) : a = b := (nI_eq ha hb).mp h
theorem nI_ne {a b : Nat} (ha : a < 2 ^ 31) (hb : b < 2 ^ 31) (h : a ≠ b) : ¬ nI a = nI b := fun e => h (nI_inj ha hb e)
theorem nI_m1 {a : Nat} (ha : a < 2 ^ 31) : ¬ nI a = -1 := fun e => by
  have := congrArg Int32.toInt e
  rw [nI_toInt ha] at this
  have e2 : (-1 : Int32).toInt = -1 := by decide
  omega
theorem nI_m4 {a : Nat} (ha : a < 2 ^ 31) : ¬ nI a = -4 := fun e => by
  have := congrArg Int32.toInt e
  rw [nI_toInt ha] at this
  have e2 : (-4 : Int32).toInt = -4 := by decide
  omega
section nRules
variable {M : pMD} {τ : Nat × Nat} {Q : Option Value → pW → Prop} {k n pc x y : Nat} {ls : List (Nat × Value)} {rest : List Value} {w : pW}
theorem g_nadd (hd : decode M.2.1 pc = .ok (.iadd, 1)) (kk : pG M τ Q k n (pc + 1) ls (.int (nI (x + y)) :: rest) w) : pG M τ Q k n pc ls (.int (nI y) :: .int (nI x) :: rest) w := g_iadd hd (by rw [nI_add]; exact kk)
theorem g_nsub (hd : decode M.2.1 pc = .ok (.isub, 1)) (h : y ≤ x) (kk : pG M τ Q k n (pc + 1) ls (.int (nI (x - y)) :: rest) w) : pG M τ Q k n pc ls (.int (nI y) :: .int (nI x) :: rest) w := g_isub hd (by rw [pk_sub h]; exact kk)
theorem g_nmul (hd : decode M.2.1 pc = .ok (.imul, 1)) (kk : pG M τ Q k n (pc + 1) ls (.int (nI (x * y)) :: rest) w) : pG M τ Q k n pc ls (.int (nI y) :: .int (nI x) :: rest) w := g_imul hd (by rw [pk_mul]; exact kk)
theorem g_ndiv (hd : decode M.2.1 pc = .ok (.idiv, 1)) (hx : x < 2 ^ 31) (h0 : 0 < y) (hy : y < 2 ^ 31) (kk : pG M τ Q k n (pc + 1) ls (.int (nI (x / y)) :: rest) w) : pG M τ Q k n pc ls (.int (nI y) :: .int (nI x) :: rest) w := g_idiv hd (nI_ne0 h0 hy) (by rw [pk_div hx h0 hy]; exact kk)
theorem g_nrem (hd : decode M.2.1 pc = .ok (.irem, 1)) (hx : x < 2 ^ 31) (h0 : 0 < y) (hy : y < 2 ^ 31) (kk : pG M τ Q k n (pc + 1) ls (.int (nI (x % y)) :: rest) w) : pG M τ Q k n pc ls (.int (nI y) :: .int (nI x) :: rest) w := g_irem hd (nI_ne0 h0 hy) (by rw [pk_rem hx h0 hy]; exact kk)
theorem nI_inc (x d : Nat) : nI x + Int32.ofInt d = nI (x + d) := by
  rw [← nI_add]
  rfl
theorem g_niinc {z d : Nat} (ls2 : List (Nat × Value)) (hd : decode M.2.1 pc = .ok (.iinc z d, 3)) (hk : ls.lookup z = some (.int (nI x))) (hn : z < M.2.2.1) (hs : (z, Value.int (nI (x + d))) :: ls.filter (fun q => !(q.1 == z) && !(q.1 + 1 == z && q.2.category == 2)) = ls2) (kk : pG M τ Q k n (pc + 3) ls2 rest w) : pG M τ Q k n pc ls rest w := g_iinc ls2 hd hk (nI_inc x d) hn hs kk
theorem g_nicmp_eq {off : Int} {tgt : Nat} (hd : decode M.2.1 pc = .ok (.if_icmp .eq off, 3)) (ht : (pc : Int) + off = (tgt : Int)) (hx : x < 2 ^ 31) (hy : y < 2 ^ 31) (kt : x = y → pG M τ Q k n tgt ls rest w) (kf : x ≠ y → pG M τ Q k n (pc + 3) ls rest w) : pG M τ Q k n pc ls (.int (nI y) :: .int (nI x) :: rest) w := g_icmp_eq hd ht (fun h => kt ((nI_eq hx hy).mp h)) (fun h => kf (fun e => h ((nI_eq hx hy).mpr e)))
theorem g_nicmp_ne {off : Int} {tgt : Nat} (hd : decode M.2.1 pc = .ok (.if_icmp .ne off, 3)) (ht : (pc : Int) + off = (tgt : Int)) (hx : x < 2 ^ 31) (hy : y < 2 ^ 31) (kt : x ≠ y → pG M τ Q k n tgt ls rest w) (kf : x = y → pG M τ Q k n (pc + 3) ls rest w) : pG M τ Q k n pc ls (.int (nI y) :: .int (nI x) :: rest) w := g_icmp_ne hd ht (fun h => kt (fun e => h ((nI_eq hx hy).mpr e))) (fun h => kf ((nI_eq hx hy).mp h))
theorem g_nicmp_lt {off : Int} {tgt : Nat} (hd : decode M.2.1 pc = .ok (.if_icmp .lt off, 3)) (ht : (pc : Int) + off = (tgt : Int)) (hx : x < 2 ^ 31) (hy : y < 2 ^ 31) (kt : x < y → pG M τ Q k n tgt ls rest w) (kf : y ≤ x → pG M τ Q k n (pc + 3) ls rest w) : pG M τ Q k n pc ls (.int (nI y) :: .int (nI x) :: rest) w := g_icmp_lt hd ht (fun h => kt ((nI_ltI hx hy).mp h)) (fun h => kf (Nat.not_lt.mp (fun e => h ((nI_ltI hx hy).mpr e))))
theorem g_nicmp_ge {off : Int} {tgt : Nat} (hd : decode M.2.1 pc = .ok (.if_icmp .ge off, 3)) (ht : (pc : Int) + off = (tgt : Int)) (hx : x < 2 ^ 31) (hy : y < 2 ^ 31) (kt : y ≤ x → pG M τ Q k n tgt ls rest w) (kf : x < y → pG M τ Q k n (pc + 3) ls rest w) : pG M τ Q k n pc ls (.int (nI y) :: .int (nI x) :: rest) w := g_icmp_ge hd ht (fun h => kt ((nI_leI hy hx).mp h)) (fun h => kf (Nat.not_le.mp (fun e => h ((nI_leI hy hx).mpr e))))
theorem g_nicmp_gt {off : Int} {tgt : Nat} (hd : decode M.2.1 pc = .ok (.if_icmp .gt off, 3)) (ht : (pc : Int) + off = (tgt : Int)) (hx : x < 2 ^ 31) (hy : y < 2 ^ 31) (kt : y < x → pG M τ Q k n tgt ls rest w) (kf : x ≤ y → pG M τ Q k n (pc + 3) ls rest w) : pG M τ Q k n pc ls (.int (nI y) :: .int (nI x) :: rest) w := g_icmp_gt hd ht (fun h => kt ((nI_ltI hy hx).mp h)) (fun h => kf (Nat.not_lt.mp (fun e => h ((nI_ltI hy hx).mpr e))))
theorem g_nicmp_le {off : Int} {tgt : Nat} (hd : decode M.2.1 pc = .ok (.if_icmp .le off, 3)) (ht : (pc : Int) + off = (tgt : Int)) (hx : x < 2 ^ 31) (hy : y < 2 ^ 31) (kt : x ≤ y → pG M τ Q k n tgt ls rest w) (kf : y < x → pG M τ Q k n (pc + 3) ls rest w) : pG M τ Q k n pc ls (.int (nI y) :: .int (nI x) :: rest) w := g_icmp_le hd ht (fun h => kt ((nI_leI hx hy).mp h)) (fun h => kf (Nat.not_le.mp (fun e => h ((nI_leI hx hy).mpr e))))
theorem g_nif_eq {off : Int} {tgt : Nat} (hd : decode M.2.1 pc = .ok (.ifCond .eq off, 3)) (ht : (pc : Int) + off = (tgt : Int)) (hx : x < 2 ^ 31) (kt : x = 0 → pG M τ Q k n tgt ls rest w) (kf : x ≠ 0 → pG M τ Q k n (pc + 3) ls rest w) : pG M τ Q k n pc ls (.int (nI x) :: rest) w := g_if_eq hd ht (fun h => kt ((nI_eq hx (by decide)).mp h)) (fun h => kf (fun e => h ((nI_eq hx (by decide)).mpr e)))
theorem g_nif_ne {off : Int} {tgt : Nat} (hd : decode M.2.1 pc = .ok (.ifCond .ne off, 3)) (ht : (pc : Int) + off = (tgt : Int)) (hx : x < 2 ^ 31) (kt : x ≠ 0 → pG M τ Q k n tgt ls rest w) (kf : x = 0 → pG M τ Q k n (pc + 3) ls rest w) : pG M τ Q k n pc ls (.int (nI x) :: rest) w := g_if_ne hd ht (fun h => kt (fun e => h ((nI_eq hx (by decide)).mpr e))) (fun h => kf ((nI_eq hx (by decide)).mp h))
theorem g_nif_gt {off : Int} {tgt : Nat} (hd : decode M.2.1 pc = .ok (.ifCond .gt off, 3)) (ht : (pc : Int) + off = (tgt : Int)) (hx : x < 2 ^ 31) (kt : 0 < x → pG M τ Q k n tgt ls rest w) (kf : x = 0 → pG M τ Q k n (pc + 3) ls rest w) : pG M τ Q k n pc ls (.int (nI x) :: rest) w := g_if_gt hd ht (fun h => kt ((nI_ltI (by decide) hx).mp h)) (fun h => kf (Nat.eq_zero_of_not_pos (fun e => h ((nI_ltI (by decide) hx).mpr e))))
theorem g_nif_le {off : Int} {tgt : Nat} (hd : decode M.2.1 pc = .ok (.ifCond .le off, 3)) (ht : (pc : Int) + off = (tgt : Int)) (hx : x < 2 ^ 31) (kt : x = 0 → pG M τ Q k n tgt ls rest w) (kf : 0 < x → pG M τ Q k n (pc + 3) ls rest w) : pG M τ Q k n pc ls (.int (nI x) :: rest) w := g_if_le hd ht (fun h => kt (Nat.le_zero.mp ((nI_leI hx (by decide)).mp h))) (fun h => kf (Nat.not_le.mp (fun e => h ((nI_leI hx (by decide)).mpr e))))
theorem g_nif_lt {off : Int} {tgt : Nat} (hd : decode M.2.1 pc = .ok (.ifCond .lt off, 3)) (ht : (pc : Int) + off = (tgt : Int)) (hx : x < 2 ^ 31) (kf : pG M τ Q k n (pc + 3) ls rest w) : pG M τ Q k n pc ls (.int (nI x) :: rest) w := g_if_lt hd ht (fun h => absurd h (nI_pos hx)) (fun _ => kf)
theorem g_nif_ge {off : Int} {tgt : Nat} (hd : decode M.2.1 pc = .ok (.ifCond .ge off, 3)) (ht : (pc : Int) + off = (tgt : Int)) (hx : x < 2 ^ 31) (kt : pG M τ Q k n tgt ls rest w) : pG M τ Q k n pc ls (.int (nI x) :: rest) w := g_if_ge hd ht (fun _ => kt) (fun h => absurd (nI_pos' hx) h)
end nRules
