/-! Names of the system: written by wip/whole/gen_names.py out of the listing and the tables. -/
def pTB : List Cond := lw_tbl.filter goodWord
theorem pT {w : Cond} (k : Nat) (h : lw_tbl[k]? = some w) (g : goodWord w = true) : w ∈ pTB := List.mem_filter.mpr ⟨List.mem_of_getElem? h, g⟩
theorem pTs {ws : List Cond} (ps : List Nat) (h : ws = ps.filterMap (fun i => lw_tbl[i]?)) (g : ws.all goodWord = true) : ∀ w ∈ ws, w ∈ pTB := fun w hw => List.mem_filter.mpr ⟨by rw [h] at hw; obtain ⟨i, -, hi⟩ := List.mem_filterMap.mp hw; exact List.mem_of_getElem? hi, List.all_eq_true.mp g w hw⟩
theorem pTBg {w : Cond} (h : w ∈ pTB) : (w.onTables && w.keeps) = true ∨ ∃ ty, w = .arrayClass ty := good_of_word (List.mem_filter.mp h).2
abbrev pMD : Type := MethodName × ByteArray × Nat × Option FieldType × Room
def R_K : String := "ProofKernel"
def F_K : u_T := fun k => match k with
  | 0 => ("ProofKernel", "types", "LProofKernel$Types;", true)
  | 1 => ("ProofKernel", "shelf", "LProofKernel$Shelf;", true)
  | 2 => ("ProofKernel", "draft", "LProofKernel$Draft;", true)
  | _ => ("ProofKernel", "book", "LProofKernel$Book;", true)
def ft_K : Nat → FieldType := fun k => match k with
  | 0 => .object "ProofKernel$Types"
  | 1 => .object "ProofKernel$Shelf"
  | 2 => .object "ProofKernel$Draft"
  | _ => .object "ProofKernel$Book"
theorem in_K : ∀ w ∈ u_ws R_K F_K 4, w ∈ pTB := pTs [151, 153, 155, 157] (by decide +kernel) (by decide +kernel)
theorem n_K : ∀ a, a < 4 → ∀ b, b < 4 → a ≠ b → (F_K a).2.1 ≠ (F_K b).2.1 := by decide +kernel
theorem ft_K_ok : ∀ k, k < 4 → parseFieldDescriptor (F_K k).2.2.1 = some (ft_K k) := by decide +kernel
theorem ini_K : Cond.initialized R_K ∈ pTB := pT 46 (by decide +kernel) rfl
theorem ins_K : Cond.instantiable R_K 4 ∈ pTB := pT 56 (by decide +kernel) rfl
def R_T : String := "ProofKernel$Types"
def F_T : u_T := fun k => match k with
  | 0 => ("ProofKernel$Types", "from", "[I", true)
  | 1 => ("ProofKernel$Types", "to", "[I", true)
  | _ => ("ProofKernel$Types", "count", "I", false)
def ft_T : Nat → FieldType := fun k => match k with
  | 0 => .array .int
  | 1 => .array .int
  | _ => .int
theorem in_T : ∀ w ∈ u_ws R_T F_T 3, w ∈ pTB := pTs [72, 74, 76] (by decide +kernel) (by decide +kernel)
theorem n_T : ∀ a, a < 3 → ∀ b, b < 3 → a ≠ b → (F_T a).2.1 ≠ (F_T b).2.1 := by decide +kernel
theorem ft_T_ok : ∀ k, k < 3 → parseFieldDescriptor (F_T k).2.2.1 = some (ft_T k) := by decide +kernel
theorem ini_T : Cond.initialized R_T ∈ pTB := pT 47 (by decide +kernel) rfl
theorem ins_T : Cond.instantiable R_T 3 ∈ pTB := pT 64 (by decide +kernel) rfl
def R_S : String := "ProofKernel$Shelf"
def F_S : u_T := fun k => match k with
  | 0 => ("ProofKernel$Shelf", "tokens", "[I", true)
  | 1 => ("ProofKernel$Shelf", "lengths", "[I", true)
  | _ => ("ProofKernel$Shelf", "count", "I", false)
def ft_S : Nat → FieldType := fun k => match k with
  | 0 => .array .int
  | 1 => .array .int
  | _ => .int
theorem in_S : ∀ w ∈ u_ws R_S F_S 3, w ∈ pTB := pTs [89, 91, 93] (by decide +kernel) (by decide +kernel)
theorem n_S : ∀ a, a < 3 → ∀ b, b < 3 → a ≠ b → (F_S a).2.1 ≠ (F_S b).2.1 := by decide +kernel
theorem ft_S_ok : ∀ k, k < 3 → parseFieldDescriptor (F_S k).2.2.1 = some (ft_S k) := by decide +kernel
theorem ini_S : Cond.initialized R_S ∈ pTB := pT 48 (by decide +kernel) rfl
theorem ins_S : Cond.instantiable R_S 3 ∈ pTB := pT 81 (by decide +kernel) rfl
def R_D : String := "ProofKernel$Draft"
def F_D : u_T := fun k => match k with
  | 0 => ("ProofKernel$Draft", "shelf", "LProofKernel$Shelf;", true)
  | 1 => ("ProofKernel$Draft", "row", "[I", true)
  | 2 => ("ProofKernel$Draft", "length", "I", false)
  | 3 => ("ProofKernel$Draft", "depths", "[I", true)
  | _ => ("ProofKernel$Draft", "waiting", "I", false)
def ft_D : Nat → FieldType := fun k => match k with
  | 0 => .object "ProofKernel$Shelf"
  | 1 => .array .int
  | 2 => .int
  | 3 => .array .int
  | _ => .int
theorem in_D : ∀ w ∈ u_ws R_D F_D 5, w ∈ pTB := pTs [107, 109, 111, 113, 115] (by decide +kernel) (by decide +kernel)
theorem n_D : ∀ a, a < 5 → ∀ b, b < 5 → a ≠ b → (F_D a).2.1 ≠ (F_D b).2.1 := by decide +kernel
theorem ft_D_ok : ∀ k, k < 5 → parseFieldDescriptor (F_D k).2.2.1 = some (ft_D k) := by decide +kernel
theorem ini_D : Cond.initialized R_D ∈ pTB := pT 49 (by decide +kernel) rfl
theorem ins_D : Cond.instantiable R_D 5 ∈ pTB := pT 97 (by decide +kernel) rfl
def R_B : String := "ProofKernel$Book"
def F_B : u_T := fun k => match k with
  | 0 => ("ProofKernel$Book", "assumed", "[J", true)
  | 1 => ("ProofKernel$Book", "conclusions", "[I", true)
  | 2 => ("ProofKernel$Book", "rules", "[I", true)
  | 3 => ("ProofKernel$Book", "namedByX", "[I", true)
  | 4 => ("ProofKernel$Book", "namedByY", "[I", true)
  | 5 => ("ProofKernel$Book", "count", "I", false)
  | _ => ("ProofKernel$Book", "stepsUpTo", "[I", true)
def ft_B : Nat → FieldType := fun k => match k with
  | 0 => .array .long
  | 1 => .array .int
  | 2 => .array .int
  | 3 => .array .int
  | 4 => .array .int
  | 5 => .int
  | _ => .array .int
theorem in_B : ∀ w ∈ u_ws R_B F_B 7, w ∈ pTB := pTs [131, 133, 135, 137, 139, 141, 143] (by decide +kernel) (by decide +kernel)
theorem n_B : ∀ a, a < 7 → ∀ b, b < 7 → a ≠ b → (F_B a).2.1 ≠ (F_B b).2.1 := by decide +kernel
theorem ft_B_ok : ∀ k, k < 7 → parseFieldDescriptor (F_B k).2.2.1 = some (ft_B k) := by decide +kernel
theorem ini_B : Cond.initialized R_B ∈ pTB := pT 50 (by decide +kernel) rfl
theorem ins_B : Cond.instantiable R_B 7 ∈ pTB := pT 119 (by decide +kernel) rfl
def R_M : String := "ProofKernelModel"
def F_M : u_T := fun k => match k with
  | 0 => ("ProofKernelModel", "row", "[I", false)
  | 1 => ("ProofKernelModel", "made", "I", false)
  | 2 => ("ProofKernelModel", "terms", "I", false)
  | 3 => ("ProofKernelModel", "length", "[I", false)
  | 4 => ("ProofKernelModel", "sort", "[I", false)
  | 5 => ("ProofKernelModel", "kind", "[I", false)
  | 6 => ("ProofKernelModel", "types", "I", false)
  | 7 => ("ProofKernelModel", "from", "[I", false)
  | 8 => ("ProofKernelModel", "to", "[I", false)
  | 9 => ("ProofKernelModel", "declared", "[I", false)
  | 10 => ("ProofKernelModel", "theorems", "I", false)
  | 11 => ("ProofKernelModel", "hypotheses", "[J", false)
  | 12 => ("ProofKernelModel", "conclusion", "[I", false)
  | 13 => ("ProofKernelModel", "axioms", "[J", false)
  | 14 => ("ProofKernelModel", "steps", "[I", false)
  | 15 => ("ProofKernelModel", "set", "J", false)
  | 16 => ("ProofKernelModel", "text", "[I", false)
  | _ => ("ProofKernelModel", "size", "I", false)
def ft_M : Nat → FieldType := fun k => match k with
  | 0 => .array .int
  | 1 => .int
  | 2 => .int
  | 3 => .array .int
  | 4 => .array .int
  | 5 => .array .int
  | 6 => .int
  | 7 => .array .int
  | 8 => .array .int
  | 9 => .array .int
  | 10 => .int
  | 11 => .array .long
  | 12 => .array .int
  | 13 => .array .long
  | 14 => .array .int
  | 15 => .long
  | 16 => .array .int
  | _ => .int
theorem in_M : ∀ w ∈ u_ws R_M F_M 18, w ∈ pTB := pTs [544, 546, 548, 550, 552, 554, 556, 558, 560, 562, 564, 566, 568, 570, 572, 574, 576, 578] (by decide +kernel) (by decide +kernel)
theorem n_M : ∀ a, a < 18 → ∀ b, b < 18 → a ≠ b → (F_M a).2.1 ≠ (F_M b).2.1 := by decide +kernel
theorem ft_M_ok : ∀ k, k < 18 → parseFieldDescriptor (F_M k).2.2.1 = some (ft_M k) := by decide +kernel
theorem ini_M : Cond.initialized R_M ∈ pTB := pT 51 (by decide +kernel) rfl
theorem ins_M : Cond.instantiable R_M 18 ∈ pTB := pT 521 (by decide +kernel) rfl
def R_O : String := "ProofKernel$Token"
def R_L : String := "ProofKernelLaw"
theorem ini_O : Cond.initialized R_O ∈ pTB := pT 52 (by decide +kernel) rfl
abbrev pCl : List vw_C := [(R_K, F_K, 4), (R_T, F_T, 3), (R_S, F_S, 3), (R_D, F_D, 5), (R_B, F_B, 7), (R_M, F_M, 18)]
theorem pw_aI : Cond.arrayClass .int ∈ pTB := pT 79 (by decide +kernel) rfl
theorem pw_aJ : Cond.arrayClass .long ∈ pTB := pT 146 (by decide +kernel) rfl
theorem pw_oi1 : Cond.instanceMethod objectInit ∈ pTB := pT 61 (by decide +kernel) rfl
theorem pw_oi2 : Cond.code objectInit ⟨#[0xb1]⟩ 1 none ∈ pTB := pT 62 (by decide +kernel) rfl
abbrev b_K_init : ByteArray := prog_1_method_1_code
def y_K_init : MethodName := ⟨R_K, "<init>", "()V"⟩
abbrev m_K_init : pMD := (y_K_init, b_K_init, 1, none, { frames := 2, cells := 16, slots := 2210, locals := 80 })
theorem wc_K_init : Cond.code y_K_init b_K_init 1 none ∈ pTB := pT 59 (by decide +kernel) rfl
theorem wi_K_init : Cond.instanceMethod y_K_init ∈ pTB := pT 58 (by decide +kernel) rfl
abbrev b_K_arrow : ByteArray := prog_1_method_2_code
def y_K_arrow : MethodName := ⟨R_K, "arrow", "(II)I"⟩
abbrev m_K_arrow : pMD := (y_K_arrow, b_K_arrow, 3, (some .int), { frames := 2, cells := 0, slots := 0, locals := 80 })
theorem wc_K_arrow : Cond.code y_K_arrow b_K_arrow 3 (some .int) ∈ pTB := pT 163 (by decide +kernel) rfl
theorem wi_K_arrow : Cond.instanceMethod y_K_arrow ∈ pTB := pT 161 (by decide +kernel) rfl
theorem wl_K_arrow : Cond.selects R_K y_K_arrow y_K_arrow ∈ pTB := pT 162 (by decide +kernel) rfl
abbrev b_K_variable : ByteArray := prog_1_method_3_code
def y_K_variable : MethodName := ⟨R_K, "variable", "(II)I"⟩
abbrev m_K_variable : pMD := (y_K_variable, b_K_variable, 3, (some .int), { frames := 4, cells := 0, slots := 0, locals := 160 })
theorem wc_K_variable : Cond.code y_K_variable b_K_variable 3 (some .int) ∈ pTB := pT 175 (by decide +kernel) rfl
theorem wi_K_variable : Cond.instanceMethod y_K_variable ∈ pTB := pT 173 (by decide +kernel) rfl
theorem wl_K_variable : Cond.selects R_K y_K_variable y_K_variable ∈ pTB := pT 174 (by decide +kernel) rfl
abbrev b_K_constant : ByteArray := prog_1_method_4_code
def y_K_constant : MethodName := ⟨R_K, "constant", "(II)I"⟩
abbrev m_K_constant : pMD := (y_K_constant, b_K_constant, 4, (some .int), { frames := 4, cells := 0, slots := 0, locals := 160 })
theorem wc_K_constant : Cond.code y_K_constant b_K_constant 4 (some .int) ∈ pTB := pT 221 (by decide +kernel) rfl
theorem wi_K_constant : Cond.instanceMethod y_K_constant ∈ pTB := pT 219 (by decide +kernel) rfl
theorem wl_K_constant : Cond.selects R_K y_K_constant y_K_constant ∈ pTB := pT 220 (by decide +kernel) rfl
abbrev b_K_apply : ByteArray := prog_1_method_5_code
def y_K_apply : MethodName := ⟨R_K, "apply", "(II)I"⟩
abbrev m_K_apply : pMD := (y_K_apply, b_K_apply, 3, (some .int), { frames := 5, cells := 0, slots := 0, locals := 200 })
theorem wc_K_apply : Cond.code y_K_apply b_K_apply 3 (some .int) ∈ pTB := pT 244 (by decide +kernel) rfl
theorem wi_K_apply : Cond.instanceMethod y_K_apply ∈ pTB := pT 242 (by decide +kernel) rfl
theorem wl_K_apply : Cond.selects R_K y_K_apply y_K_apply ∈ pTB := pT 243 (by decide +kernel) rfl
abbrev b_K_bind : ByteArray := prog_1_method_6_code
def y_K_bind : MethodName := ⟨R_K, "bind", "(ZII)I"⟩
abbrev m_K_bind : pMD := (y_K_bind, b_K_bind, 8, (some .int), { frames := 5, cells := 0, slots := 0, locals := 200 })
theorem wc_K_bind : Cond.code y_K_bind b_K_bind 8 (some .int) ∈ pTB := pT 280 (by decide +kernel) rfl
theorem wi_K_bind : Cond.instanceMethod y_K_bind ∈ pTB := pT 278 (by decide +kernel) rfl
theorem wl_K_bind : Cond.selects R_K y_K_bind y_K_bind ∈ pTB := pT 279 (by decide +kernel) rfl
abbrev b_K_join : ByteArray := prog_1_method_7_code
def y_K_join : MethodName := ⟨R_K, "join", "(ZII)I"⟩
abbrev m_K_join : pMD := (y_K_join, b_K_join, 6, (some .int), { frames := 5, cells := 0, slots := 0, locals := 200 })
theorem wc_K_join : Cond.code y_K_join b_K_join 6 (some .int) ∈ pTB := pT 322 (by decide +kernel) rfl
theorem wi_K_join : Cond.instanceMethod y_K_join ∈ pTB := pT 320 (by decide +kernel) rfl
theorem wl_K_join : Cond.selects R_K y_K_join y_K_join ∈ pTB := pT 321 (by decide +kernel) rfl
abbrev b_K_rule : ByteArray := prog_1_method_8_code
def y_K_rule : MethodName := ⟨R_K, "rule", "(III)I"⟩
abbrev m_K_rule : pMD := (y_K_rule, b_K_rule, 4, (some .int), { frames := 8, cells := 0, slots := 0, locals := 320 })
theorem wc_K_rule : Cond.code y_K_rule b_K_rule 4 (some .int) ∈ pTB := pT 330 (by decide +kernel) rfl
theorem wi_K_rule : Cond.instanceMethod y_K_rule ∈ pTB := pT 328 (by decide +kernel) rfl
theorem wl_K_rule : Cond.selects R_K y_K_rule y_K_rule ∈ pTB := pT 329 (by decide +kernel) rfl
abbrev b_K_terms : ByteArray := prog_1_method_9_code
def y_K_terms : MethodName := ⟨R_K, "terms", "()I"⟩
abbrev m_K_terms : pMD := (y_K_terms, b_K_terms, 1, (some .int), { frames := 2, cells := 0, slots := 0, locals := 80 })
theorem wc_K_terms : Cond.code y_K_terms b_K_terms 1 (some .int) ∈ pTB := pT 432 (by decide +kernel) rfl
theorem wi_K_terms : Cond.instanceMethod y_K_terms ∈ pTB := pT 430 (by decide +kernel) rfl
theorem wl_K_terms : Cond.selects R_K y_K_terms y_K_terms ∈ pTB := pT 431 (by decide +kernel) rfl
abbrev b_K_theorems : ByteArray := prog_1_method_10_code
def y_K_theorems : MethodName := ⟨R_K, "theorems", "()I"⟩
abbrev m_K_theorems : pMD := (y_K_theorems, b_K_theorems, 1, (some .int), { frames := 2, cells := 0, slots := 0, locals := 80 })
theorem wc_K_theorems : Cond.code y_K_theorems b_K_theorems 1 (some .int) ∈ pTB := pT 436 (by decide +kernel) rfl
theorem wi_K_theorems : Cond.instanceMethod y_K_theorems ∈ pTB := pT 434 (by decide +kernel) rfl
theorem wl_K_theorems : Cond.selects R_K y_K_theorems y_K_theorems ∈ pTB := pT 435 (by decide +kernel) rfl
abbrev b_K_typeOf : ByteArray := prog_1_method_11_code
def y_K_typeOf : MethodName := ⟨R_K, "typeOf", "(I)I"⟩
abbrev m_K_typeOf : pMD := (y_K_typeOf, b_K_typeOf, 2, (some .int), { frames := 3, cells := 0, slots := 0, locals := 120 })
theorem wc_K_typeOf : Cond.code y_K_typeOf b_K_typeOf 2 (some .int) ∈ pTB := pT 444 (by decide +kernel) rfl
theorem wi_K_typeOf : Cond.instanceMethod y_K_typeOf ∈ pTB := pT 442 (by decide +kernel) rfl
theorem wl_K_typeOf : Cond.selects R_K y_K_typeOf y_K_typeOf ∈ pTB := pT 443 (by decide +kernel) rfl
abbrev b_K_size : ByteArray := prog_1_method_12_code
def y_K_size : MethodName := ⟨R_K, "size", "(I)I"⟩
abbrev m_K_size : pMD := (y_K_size, b_K_size, 2, (some .int), { frames := 2, cells := 0, slots := 0, locals := 80 })
theorem wc_K_size : Cond.code y_K_size b_K_size 2 (some .int) ∈ pTB := pT 448 (by decide +kernel) rfl
theorem wi_K_size : Cond.instanceMethod y_K_size ∈ pTB := pT 446 (by decide +kernel) rfl
theorem wl_K_size : Cond.selects R_K y_K_size y_K_size ∈ pTB := pT 447 (by decide +kernel) rfl
abbrev b_K_free : ByteArray := prog_1_method_13_code
def y_K_free : MethodName := ⟨R_K, "free", "(II)Z"⟩
abbrev m_K_free : pMD := (y_K_free, b_K_free, 3, (some .boolean), { frames := 3, cells := 0, slots := 0, locals := 120 })
theorem wc_K_free : Cond.code y_K_free b_K_free 3 (some .boolean) ∈ pTB := pT 456 (by decide +kernel) rfl
theorem wi_K_free : Cond.instanceMethod y_K_free ∈ pTB := pT 454 (by decide +kernel) rfl
theorem wl_K_free : Cond.selects R_K y_K_free y_K_free ∈ pTB := pT 455 (by decide +kernel) rfl
abbrev b_K_printed : ByteArray := prog_1_method_14_code
def y_K_printed : MethodName := ⟨R_K, "printed", "(II)I"⟩
abbrev m_K_printed : pMD := (y_K_printed, b_K_printed, 7, (some .int), { frames := 3, cells := 0, slots := 0, locals := 120 })
theorem wc_K_printed : Cond.code y_K_printed b_K_printed 7 (some .int) ∈ pTB := pT 460 (by decide +kernel) rfl
theorem wi_K_printed : Cond.instanceMethod y_K_printed ∈ pTB := pT 458 (by decide +kernel) rfl
theorem wl_K_printed : Cond.selects R_K y_K_printed y_K_printed ∈ pTB := pT 459 (by decide +kernel) rfl
abbrev b_K_conclusion : ByteArray := prog_1_method_15_code
def y_K_conclusion : MethodName := ⟨R_K, "conclusion", "(I)I"⟩
abbrev m_K_conclusion : pMD := (y_K_conclusion, b_K_conclusion, 2, (some .int), { frames := 2, cells := 0, slots := 0, locals := 80 })
theorem wc_K_conclusion : Cond.code y_K_conclusion b_K_conclusion 2 (some .int) ∈ pTB := pT 477 (by decide +kernel) rfl
theorem wi_K_conclusion : Cond.instanceMethod y_K_conclusion ∈ pTB := pT 475 (by decide +kernel) rfl
theorem wl_K_conclusion : Cond.selects R_K y_K_conclusion y_K_conclusion ∈ pTB := pT 476 (by decide +kernel) rfl
abbrev b_K_hypotheses : ByteArray := prog_1_method_16_code
def y_K_hypotheses : MethodName := ⟨R_K, "hypotheses", "(I)J"⟩
abbrev m_K_hypotheses : pMD := (y_K_hypotheses, b_K_hypotheses, 2, (some .long), { frames := 2, cells := 0, slots := 0, locals := 80 })
theorem wc_K_hypotheses : Cond.code y_K_hypotheses b_K_hypotheses 2 (some .long) ∈ pTB := pT 481 (by decide +kernel) rfl
theorem wi_K_hypotheses : Cond.instanceMethod y_K_hypotheses ∈ pTB := pT 479 (by decide +kernel) rfl
theorem wl_K_hypotheses : Cond.selects R_K y_K_hypotheses y_K_hypotheses ∈ pTB := pT 480 (by decide +kernel) rfl
abbrev b_K_axioms : ByteArray := prog_1_method_17_code
def y_K_axioms : MethodName := ⟨R_K, "axioms", "(I)J"⟩
abbrev m_K_axioms : pMD := (y_K_axioms, b_K_axioms, 2, (some .long), { frames := 3, cells := 0, slots := 0, locals := 120 })
theorem wc_K_axioms : Cond.code y_K_axioms b_K_axioms 2 (some .long) ∈ pTB := pT 485 (by decide +kernel) rfl
theorem wi_K_axioms : Cond.instanceMethod y_K_axioms ∈ pTB := pT 483 (by decide +kernel) rfl
theorem wl_K_axioms : Cond.selects R_K y_K_axioms y_K_axioms ∈ pTB := pT 484 (by decide +kernel) rfl
abbrev b_K_steps : ByteArray := prog_1_method_18_code
def y_K_steps : MethodName := ⟨R_K, "steps", "(I)I"⟩
abbrev m_K_steps : pMD := (y_K_steps, b_K_steps, 2, (some .int), { frames := 3, cells := 0, slots := 0, locals := 120 })
theorem wc_K_steps : Cond.code y_K_steps b_K_steps 2 (some .int) ∈ pTB := pT 507 (by decide +kernel) rfl
theorem wi_K_steps : Cond.instanceMethod y_K_steps ∈ pTB := pT 505 (by decide +kernel) rfl
theorem wl_K_steps : Cond.selects R_K y_K_steps y_K_steps ∈ pTB := pT 506 (by decide +kernel) rfl
abbrev b_K_typeAt : ByteArray := prog_1_method_19_code
def y_K_typeAt : MethodName := ⟨R_K, "typeAt", "(I)I"⟩
abbrev m_K_typeAt : pMD := (y_K_typeAt, b_K_typeAt, 2, (some .int), { frames := 2, cells := 0, slots := 0, locals := 80 })
theorem wc_K_typeAt : Cond.code y_K_typeAt b_K_typeAt 2 (some .int) ∈ pTB := pT 252 (by decide +kernel) rfl
theorem wi_K_typeAt : Cond.instanceMethod y_K_typeAt ∈ pTB := pT 251 (by decide +kernel) rfl
theorem wl_K_typeAt : Cond.selects R_K y_K_typeAt y_K_typeAt ∈ pTB := pT 1 (by decide +kernel) rfl
abbrev b_K_isA : ByteArray := prog_1_method_20_code
def y_K_isA : MethodName := ⟨R_K, "isA", "(II)Z"⟩
abbrev m_K_isA : pMD := (y_K_isA, b_K_isA, 3, (some .boolean), { frames := 2, cells := 0, slots := 0, locals := 80 })
theorem wc_K_isA : Cond.code y_K_isA b_K_isA 3 (some .boolean) ∈ pTB := pT 284 (by decide +kernel) rfl
theorem wi_K_isA : Cond.instanceMethod y_K_isA ∈ pTB := pT 283 (by decide +kernel) rfl
theorem wl_K_isA : Cond.selects R_K y_K_isA y_K_isA ∈ pTB := pT 3 (by decide +kernel) rfl
abbrev b_K_declaredType : ByteArray := prog_1_method_21_code
def y_K_declaredType : MethodName := ⟨R_K, "declaredType", "(I)I"⟩
abbrev m_K_declaredType : pMD := (y_K_declaredType, b_K_declaredType, 4, (some .int), { frames := 2, cells := 0, slots := 0, locals := 80 })
theorem wc_K_declaredType : Cond.code y_K_declaredType b_K_declaredType 4 (some .int) ∈ pTB := pT 225 (by decide +kernel) rfl
theorem wi_K_declaredType : Cond.instanceMethod y_K_declaredType ∈ pTB := pT 224 (by decide +kernel) rfl
theorem wl_K_declaredType : Cond.selects R_K y_K_declaredType y_K_declaredType ∈ pTB := pT 0 (by decide +kernel) rfl
abbrev b_K_draftApplication : ByteArray := prog_1_method_22_code
def y_K_draftApplication : MethodName := ⟨R_K, "draftApplication", "(II)V"⟩
abbrev m_K_draftApplication : pMD := (y_K_draftApplication, b_K_draftApplication, 3, none, { frames := 4, cells := 0, slots := 0, locals := 160 })
theorem wc_K_draftApplication : Cond.code y_K_draftApplication b_K_draftApplication 3 none ∈ pTB := pT 260 (by decide +kernel) rfl
theorem wi_K_draftApplication : Cond.instanceMethod y_K_draftApplication ∈ pTB := pT 259 (by decide +kernel) rfl
theorem wl_K_draftApplication : Cond.selects R_K y_K_draftApplication y_K_draftApplication ∈ pTB := pT 2 (by decide +kernel) rfl
abbrev b_K_draftAbstraction : ByteArray := prog_1_method_23_code
def y_K_draftAbstraction : MethodName := ⟨R_K, "draftAbstraction", "(II)V"⟩
abbrev m_K_draftAbstraction : pMD := (y_K_draftAbstraction, b_K_draftAbstraction, 4, none, { frames := 4, cells := 0, slots := 0, locals := 160 })
theorem wc_K_draftAbstraction : Cond.code y_K_draftAbstraction b_K_draftAbstraction 4 none ∈ pTB := pT 310 (by decide +kernel) rfl
theorem wi_K_draftAbstraction : Cond.instanceMethod y_K_draftAbstraction ∈ pTB := pT 309 (by decide +kernel) rfl
theorem wl_K_draftAbstraction : Cond.selects R_K y_K_draftAbstraction y_K_draftAbstraction ∈ pTB := pT 6 (by decide +kernel) rfl
abbrev b_K_draftJoint : ByteArray := prog_1_method_24_code
def y_K_draftJoint : MethodName := ⟨R_K, "draftJoint", "(III)V"⟩
abbrev m_K_draftJoint : pMD := (y_K_draftJoint, b_K_draftJoint, 4, none, { frames := 4, cells := 0, slots := 0, locals := 160 })
theorem wc_K_draftJoint : Cond.code y_K_draftJoint b_K_draftJoint 4 none ∈ pTB := pT 326 (by decide +kernel) rfl
theorem wi_K_draftJoint : Cond.instanceMethod y_K_draftJoint ∈ pTB := pT 325 (by decide +kernel) rfl
theorem wl_K_draftJoint : Cond.selects R_K y_K_draftJoint y_K_draftJoint ∈ pTB := pT 7 (by decide +kernel) rfl
abbrev b_K_isThere : ByteArray := prog_1_method_25_code
def y_K_isThere : MethodName := ⟨R_K, "isThere", "(II)Z"⟩
abbrev m_K_isThere : pMD := (y_K_isThere, b_K_isThere, 3, (some .boolean), { frames := 2, cells := 0, slots := 0, locals := 80 })
theorem wc_K_isThere : Cond.code y_K_isThere b_K_isThere 3 (some .boolean) ∈ pTB := pT 336 (by decide +kernel) rfl
theorem wi_K_isThere : Cond.instanceMethod y_K_isThere ∈ pTB := pT 335 (by decide +kernel) rfl
theorem wl_K_isThere : Cond.selects R_K y_K_isThere y_K_isThere ∈ pTB := pT 8 (by decide +kernel) rfl
abbrev b_K_startOf : ByteArray := prog_1_method_26_code
def y_K_startOf : MethodName := ⟨R_K, "startOf", "(II)I"⟩
abbrev m_K_startOf : pMD := (y_K_startOf, b_K_startOf, 3, (some .int), { frames := 2, cells := 0, slots := 0, locals := 80 })
theorem wc_K_startOf : Cond.code y_K_startOf b_K_startOf 3 (some .int) ∈ pTB := pT 350 (by decide +kernel) rfl
theorem wi_K_startOf : Cond.instanceMethod y_K_startOf ∈ pTB := pT 349 (by decide +kernel) rfl
theorem wl_K_startOf : Cond.selects R_K y_K_startOf y_K_startOf ∈ pTB := pT 10 (by decide +kernel) rfl
abbrev b_K_isAsTheRuleSays : ByteArray := prog_1_method_27_code
def y_K_isAsTheRuleSays : MethodName := ⟨R_K, "isAsTheRuleSays", "(III)Z"⟩
abbrev m_K_isAsTheRuleSays : pMD := (y_K_isAsTheRuleSays, b_K_isAsTheRuleSays, 6, (some .boolean), { frames := 4, cells := 0, slots := 0, locals := 160 })
theorem wc_K_isAsTheRuleSays : Cond.code y_K_isAsTheRuleSays b_K_isAsTheRuleSays 6 (some .boolean) ∈ pTB := pT 346 (by decide +kernel) rfl
theorem wi_K_isAsTheRuleSays : Cond.instanceMethod y_K_isAsTheRuleSays ∈ pTB := pT 345 (by decide +kernel) rfl
theorem wl_K_isAsTheRuleSays : Cond.selects R_K y_K_isAsTheRuleSays y_K_isAsTheRuleSays ∈ pTB := pT 9 (by decide +kernel) rfl
abbrev b_K_bindsWhatIsAssumed : ByteArray := prog_1_method_28_code
def y_K_bindsWhatIsAssumed : MethodName := ⟨R_K, "bindsWhatIsAssumed", "(III)Z"⟩
abbrev m_K_bindsWhatIsAssumed : pMD := (y_K_bindsWhatIsAssumed, b_K_bindsWhatIsAssumed, 6, (some .boolean), { frames := 3, cells := 0, slots := 0, locals := 120 })
theorem wc_K_bindsWhatIsAssumed : Cond.code y_K_bindsWhatIsAssumed b_K_bindsWhatIsAssumed 6 (some .boolean) ∈ pTB := pT 372 (by decide +kernel) rfl
theorem wi_K_bindsWhatIsAssumed : Cond.instanceMethod y_K_bindsWhatIsAssumed ∈ pTB := pT 371 (by decide +kernel) rfl
theorem wl_K_bindsWhatIsAssumed : Cond.selects R_K y_K_bindsWhatIsAssumed y_K_bindsWhatIsAssumed ∈ pTB := pT 11 (by decide +kernel) rfl
abbrev b_K_derive : ByteArray := prog_1_method_29_code
def y_K_derive : MethodName := ⟨R_K, "derive", "(III)I"⟩
abbrev m_K_derive : pMD := (y_K_derive, b_K_derive, 9, (some .int), { frames := 7, cells := 0, slots := 0, locals := 280 })
theorem wc_K_derive : Cond.code y_K_derive b_K_derive 9 (some .int) ∈ pTB := pT 391 (by decide +kernel) rfl
theorem wi_K_derive : Cond.instanceMethod y_K_derive ∈ pTB := pT 390 (by decide +kernel) rfl
theorem wl_K_derive : Cond.selects R_K y_K_derive y_K_derive ∈ pTB := pT 12 (by decide +kernel) rfl
abbrev b_K_joinedHypotheses : ByteArray := prog_1_method_30_code
def y_K_joinedHypotheses : MethodName := ⟨R_K, "joinedHypotheses", "(III)J"⟩
abbrev m_K_joinedHypotheses : pMD := (y_K_joinedHypotheses, b_K_joinedHypotheses, 6, (some .long), { frames := 2, cells := 0, slots := 0, locals := 80 })
theorem wc_K_joinedHypotheses : Cond.code y_K_joinedHypotheses b_K_joinedHypotheses 6 (some .long) ∈ pTB := pT 409 (by decide +kernel) rfl
theorem wi_K_joinedHypotheses : Cond.instanceMethod y_K_joinedHypotheses ∈ pTB := pT 408 (by decide +kernel) rfl
theorem wl_K_joinedHypotheses : Cond.selects R_K y_K_joinedHypotheses y_K_joinedHypotheses ∈ pTB := pT 15 (by decide +kernel) rfl
abbrev b_K_substitutedHypotheses : ByteArray := prog_1_method_31_code
def y_K_substitutedHypotheses : MethodName := ⟨R_K, "substitutedHypotheses", "(II)J"⟩
abbrev m_K_substitutedHypotheses : pMD := (y_K_substitutedHypotheses, b_K_substitutedHypotheses, 9, (some .long), { frames := 6, cells := 0, slots := 0, locals := 240 })
theorem wc_K_substitutedHypotheses : Cond.code y_K_substitutedHypotheses b_K_substitutedHypotheses 9 (some .long) ∈ pTB := pT 395 (by decide +kernel) rfl
theorem wi_K_substitutedHypotheses : Cond.instanceMethod y_K_substitutedHypotheses ∈ pTB := pT 394 (by decide +kernel) rfl
theorem wl_K_substitutedHypotheses : Cond.selects R_K y_K_substitutedHypotheses y_K_substitutedHypotheses ∈ pTB := pT 13 (by decide +kernel) rfl
abbrev b_K_draftSubstituted : ByteArray := prog_1_method_32_code
def y_K_draftSubstituted : MethodName := ⟨R_K, "draftSubstituted", "(II)V"⟩
abbrev m_K_draftSubstituted : pMD := (y_K_draftSubstituted, b_K_draftSubstituted, 4, none, { frames := 5, cells := 0, slots := 0, locals := 200 })
theorem wc_K_draftSubstituted : Cond.code y_K_draftSubstituted b_K_draftSubstituted 4 none ∈ pTB := pT 399 (by decide +kernel) rfl
theorem wi_K_draftSubstituted : Cond.instanceMethod y_K_draftSubstituted ∈ pTB := pT 398 (by decide +kernel) rfl
theorem wl_K_draftSubstituted : Cond.selects R_K y_K_draftSubstituted y_K_draftSubstituted ∈ pTB := pT 14 (by decide +kernel) rfl
abbrev b_K_draftConclusion : ByteArray := prog_1_method_33_code
def y_K_draftConclusion : MethodName := ⟨R_K, "draftConclusion", "(III)V"⟩
abbrev m_K_draftConclusion : pMD := (y_K_draftConclusion, b_K_draftConclusion, 6, none, { frames := 6, cells := 0, slots := 0, locals := 240 })
theorem wc_K_draftConclusion : Cond.code y_K_draftConclusion b_K_draftConclusion 6 none ∈ pTB := pT 414 (by decide +kernel) rfl
theorem wi_K_draftConclusion : Cond.instanceMethod y_K_draftConclusion ∈ pTB := pT 413 (by decide +kernel) rfl
theorem wl_K_draftConclusion : Cond.selects R_K y_K_draftConclusion y_K_draftConclusion ∈ pTB := pT 16 (by decide +kernel) rfl
abbrev b_K_isIn : ByteArray := prog_1_method_34_code
def y_K_isIn : MethodName := ⟨R_K, "isIn", "(JI)Z"⟩
abbrev m_K_isIn : pMD := (y_K_isIn, b_K_isIn, 3, (some .boolean), { frames := 1, cells := 0, slots := 0, locals := 40 })
theorem wc_K_isIn : Cond.code y_K_isIn b_K_isIn 3 (some .boolean) ∈ pTB := pT 379 (by decide +kernel) rfl
theorem ws_K_isIn : Cond.static y_K_isIn ∈ pTB := pT 378 (by decide +kernel) rfl
abbrev b_M_init : ByteArray := prog_8_method_1_code
def y_M_init : MethodName := ⟨R_M, "<init>", "()V"⟩
abbrev m_M_init : pMD := (y_M_init, b_M_init, 1, none, { frames := 1, cells := 12, slots := 3432, locals := 40 })
theorem wc_M_init : Cond.code y_M_init b_M_init 1 none ∈ pTB := pT 524 (by decide +kernel) rfl
theorem wi_M_init : Cond.instanceMethod y_M_init ∈ pTB := pT 523 (by decide +kernel) rfl
abbrev b_M_parts : ByteArray := prog_8_method_2_code
def y_M_parts : MethodName := ⟨R_M, "parts", "(I)I"⟩
abbrev m_M_parts : pMD := (y_M_parts, b_M_parts, 1, (some .int), { frames := 1, cells := 0, slots := 0, locals := 40 })
theorem wc_M_parts : Cond.code y_M_parts b_M_parts 1 (some .int) ∈ pTB := pT 615 (by decide +kernel) rfl
theorem ws_M_parts : Cond.static y_M_parts ∈ pTB := pT 614 (by decide +kernel) rfl
abbrev b_M_isVariable : ByteArray := prog_8_method_3_code
def y_M_isVariable : MethodName := ⟨R_M, "isVariable", "(I)Z"⟩
abbrev m_M_isVariable : pMD := (y_M_isVariable, b_M_isVariable, 1, (some .boolean), { frames := 1, cells := 0, slots := 0, locals := 40 })
theorem wc_M_isVariable : Cond.code y_M_isVariable b_M_isVariable 1 (some .boolean) ∈ pTB := pT 654 (by decide +kernel) rfl
theorem ws_M_isVariable : Cond.static y_M_isVariable ∈ pTB := pT 653 (by decide +kernel) rfl
abbrev b_M_end : ByteArray := prog_8_method_4_code
def y_M_end : MethodName := ⟨R_M, "end", "(I)I"⟩
abbrev m_M_end : pMD := (y_M_end, b_M_end, 4, (some .int), { frames := 2, cells := 0, slots := 0, locals := 80 })
theorem wc_M_end : Cond.code y_M_end b_M_end 4 (some .int) ∈ pTB := pT 612 (by decide +kernel) rfl
theorem wi_M_end : Cond.instanceMethod y_M_end ∈ pTB := pT 611 (by decide +kernel) rfl
theorem wl_M_end : Cond.selects R_M y_M_end y_M_end ∈ pTB := pT 25 (by decide +kernel) rfl
abbrev b_M_same : ByteArray := prog_8_method_5_code
def y_M_same : MethodName := ⟨R_M, "same", "(II)Z"⟩
abbrev m_M_same : pMD := (y_M_same, b_M_same, 6, (some .boolean), { frames := 3, cells := 0, slots := 0, locals := 120 })
theorem wc_M_same : Cond.code y_M_same b_M_same 6 (some .boolean) ∈ pTB := pT 608 (by decide +kernel) rfl
theorem wi_M_same : Cond.instanceMethod y_M_same ∈ pTB := pT 607 (by decide +kernel) rfl
theorem wl_M_same : Cond.selects R_M y_M_same y_M_same ∈ pTB := pT 24 (by decide +kernel) rfl
abbrev b_M_depth : ByteArray := prog_8_method_6_code
def y_M_depth : MethodName := ⟨R_M, "depth", "(II)I"⟩
abbrev m_M_depth : pMD := (y_M_depth, b_M_depth, 5, (some .int), { frames := 3, cells := 0, slots := 0, locals := 120 })
theorem wc_M_depth : Cond.code y_M_depth b_M_depth 5 (some .int) ∈ pTB := pT 663 (by decide +kernel) rfl
theorem wi_M_depth : Cond.instanceMethod y_M_depth ∈ pTB := pT 662 (by decide +kernel) rfl
theorem wl_M_depth : Cond.selects R_M y_M_depth y_M_depth ∈ pTB := pT 33 (by decide +kernel) rfl
abbrev b_M_binder : ByteArray := prog_8_method_7_code
def y_M_binder : MethodName := ⟨R_M, "binder", "(I)I"⟩
abbrev m_M_binder : pMD := (y_M_binder, b_M_binder, 4, (some .int), { frames := 3, cells := 0, slots := 0, locals := 120 })
theorem wc_M_binder : Cond.code y_M_binder b_M_binder 4 (some .int) ∈ pTB := pT 623 (by decide +kernel) rfl
theorem wi_M_binder : Cond.instanceMethod y_M_binder ∈ pTB := pT 622 (by decide +kernel) rfl
theorem wl_M_binder : Cond.selects R_M y_M_binder y_M_binder ∈ pTB := pT 27 (by decide +kernel) rfl
abbrev b_M_find : ByteArray := prog_8_method_8_code
def y_M_find : MethodName := ⟨R_M, "find", "(II)I"⟩
abbrev m_M_find : pMD := (y_M_find, b_M_find, 4, (some .int), { frames := 1, cells := 0, slots := 0, locals := 40 })
theorem wc_M_find : Cond.code y_M_find b_M_find 4 (some .int) ∈ pTB := pT 592 (by decide +kernel) rfl
theorem wi_M_find : Cond.instanceMethod y_M_find ∈ pTB := pT 591 (by decide +kernel) rfl
theorem wl_M_find : Cond.selects R_M y_M_find y_M_find ∈ pTB := pT 21 (by decide +kernel) rfl
abbrev b_M_typesAt : ByteArray := prog_8_method_9_code
def y_M_typesAt : MethodName := ⟨R_M, "typesAt", "(I)I"⟩
abbrev m_M_typesAt : pMD := (y_M_typesAt, b_M_typesAt, 6, (some .int), { frames := 4, cells := 0, slots := 0, locals := 160 })
theorem wc_M_typesAt : Cond.code y_M_typesAt b_M_typesAt 6 (some .int) ∈ pTB := pT 619 (by decide +kernel) rfl
theorem wi_M_typesAt : Cond.instanceMethod y_M_typesAt ∈ pTB := pT 618 (by decide +kernel) rfl
theorem wl_M_typesAt : Cond.selects R_M y_M_typesAt y_M_typesAt ∈ pTB := pT 26 (by decide +kernel) rfl
abbrev b_M_put : ByteArray := prog_8_method_10_code
def y_M_put : MethodName := ⟨R_M, "put", "(I)V"⟩
abbrev m_M_put : pMD := (y_M_put, b_M_put, 2, none, { frames := 1, cells := 0, slots := 0, locals := 40 })
theorem wc_M_put : Cond.code y_M_put b_M_put 2 none ∈ pTB := pT 600 (by decide +kernel) rfl
theorem wi_M_put : Cond.instanceMethod y_M_put ∈ pTB := pT 599 (by decide +kernel) rfl
theorem wl_M_put : Cond.selects R_M y_M_put y_M_put ∈ pTB := pT 22 (by decide +kernel) rfl
abbrev b_M_copy : ByteArray := prog_8_method_11_code
def y_M_copy : MethodName := ⟨R_M, "copy", "(I)V"⟩
abbrev m_M_copy : pMD := (y_M_copy, b_M_copy, 4, none, { frames := 3, cells := 0, slots := 0, locals := 120 })
theorem wc_M_copy : Cond.code y_M_copy b_M_copy 4 none ∈ pTB := pT 643 (by decide +kernel) rfl
theorem wi_M_copy : Cond.instanceMethod y_M_copy ∈ pTB := pT 642 (by decide +kernel) rfl
theorem wl_M_copy : Cond.selects R_M y_M_copy y_M_copy ∈ pTB := pT 30 (by decide +kernel) rfl
abbrev b_M_copyWith : ByteArray := prog_8_method_12_code
def y_M_copyWith : MethodName := ⟨R_M, "copyWith", "(III)V"⟩
abbrev m_M_copyWith : pMD := (y_M_copyWith, b_M_copyWith, 6, none, { frames := 4, cells := 0, slots := 0, locals := 160 })
theorem wc_M_copyWith : Cond.code y_M_copyWith b_M_copyWith 6 none ∈ pTB := pT 659 (by decide +kernel) rfl
theorem wi_M_copyWith : Cond.instanceMethod y_M_copyWith ∈ pTB := pT 658 (by decide +kernel) rfl
theorem wl_M_copyWith : Cond.selects R_M y_M_copyWith y_M_copyWith ∈ pTB := pT 32 (by decide +kernel) rfl
abbrev b_M_copyOpened : ByteArray := prog_8_method_13_code
def y_M_copyOpened : MethodName := ⟨R_M, "copyOpened", "(II)V"⟩
abbrev m_M_copyOpened : pMD := (y_M_copyOpened, b_M_copyOpened, 5, none, { frames := 4, cells := 0, slots := 0, locals := 160 })
theorem wc_M_copyOpened : Cond.code y_M_copyOpened b_M_copyOpened 5 none ∈ pTB := pT 703 (by decide +kernel) rfl
theorem wi_M_copyOpened : Cond.instanceMethod y_M_copyOpened ∈ pTB := pT 702 (by decide +kernel) rfl
theorem wl_M_copyOpened : Cond.selects R_M y_M_copyOpened y_M_copyOpened ∈ pTB := pT 40 (by decide +kernel) rfl
abbrev b_M_keep : ByteArray := prog_8_method_14_code
def y_M_keep : MethodName := ⟨R_M, "keep", "()I"⟩
abbrev m_M_keep : pMD := (y_M_keep, b_M_keep, 2, (some .int), { frames := 5, cells := 0, slots := 0, locals := 200 })
theorem wc_M_keep : Cond.code y_M_keep b_M_keep 2 (some .int) ∈ pTB := pT 604 (by decide +kernel) rfl
theorem wi_M_keep : Cond.instanceMethod y_M_keep ∈ pTB := pT 603 (by decide +kernel) rfl
theorem wl_M_keep : Cond.selects R_M y_M_keep y_M_keep ∈ pTB := pT 23 (by decide +kernel) rfl
abbrev b_M_isType : ByteArray := prog_8_method_15_code
def y_M_isType : MethodName := ⟨R_M, "isType", "(I)Z"⟩
abbrev m_M_isType : pMD := (y_M_isType, b_M_isType, 2, (some .boolean), { frames := 1, cells := 0, slots := 0, locals := 40 })
theorem wc_M_isType : Cond.code y_M_isType b_M_isType 2 (some .boolean) ∈ pTB := pT 588 (by decide +kernel) rfl
theorem wi_M_isType : Cond.instanceMethod y_M_isType ∈ pTB := pT 587 (by decide +kernel) rfl
theorem wl_M_isType : Cond.selects R_M y_M_isType y_M_isType ∈ pTB := pT 20 (by decide +kernel) rfl
abbrev b_M_isTerm : ByteArray := prog_8_method_16_code
def y_M_isTerm : MethodName := ⟨R_M, "isTerm", "(I)Z"⟩
abbrev m_M_isTerm : pMD := (y_M_isTerm, b_M_isTerm, 2, (some .boolean), { frames := 1, cells := 0, slots := 0, locals := 40 })
theorem wc_M_isTerm : Cond.code y_M_isTerm b_M_isTerm 2 (some .boolean) ∈ pTB := pT 635 (by decide +kernel) rfl
theorem wi_M_isTerm : Cond.instanceMethod y_M_isTerm ∈ pTB := pT 634 (by decide +kernel) rfl
theorem wl_M_isTerm : Cond.selects R_M y_M_isTerm y_M_isTerm ∈ pTB := pT 28 (by decide +kernel) rfl
abbrev b_M_isVariableTerm : ByteArray := prog_8_method_17_code
def y_M_isVariableTerm : MethodName := ⟨R_M, "isVariableTerm", "(I)Z"⟩
abbrev m_M_isVariableTerm : pMD := (y_M_isVariableTerm, b_M_isVariableTerm, 2, (some .boolean), { frames := 2, cells := 0, slots := 0, locals := 80 })
theorem wc_M_isVariableTerm : Cond.code y_M_isVariableTerm b_M_isVariableTerm 2 (some .boolean) ∈ pTB := pT 651 (by decide +kernel) rfl
theorem wi_M_isVariableTerm : Cond.instanceMethod y_M_isVariableTerm ∈ pTB := pT 650 (by decide +kernel) rfl
theorem wl_M_isVariableTerm : Cond.selects R_M y_M_isVariableTerm y_M_isVariableTerm ∈ pTB := pT 31 (by decide +kernel) rfl
abbrev b_M_arrow : ByteArray := prog_8_method_18_code
def y_M_arrow : MethodName := ⟨R_M, "arrow", "(II)I"⟩
abbrev m_M_arrow : pMD := (y_M_arrow, b_M_arrow, 4, (some .int), { frames := 2, cells := 0, slots := 0, locals := 80 })
theorem wc_M_arrow : Cond.code y_M_arrow b_M_arrow 4 (some .int) ∈ pTB := pT 584 (by decide +kernel) rfl
theorem wi_M_arrow : Cond.instanceMethod y_M_arrow ∈ pTB := pT 582 (by decide +kernel) rfl
theorem wl_M_arrow : Cond.selects R_M y_M_arrow y_M_arrow ∈ pTB := pT 583 (by decide +kernel) rfl
abbrev b_M_variable : ByteArray := prog_8_method_19_code
def y_M_variable : MethodName := ⟨R_M, "variable", "(II)I"⟩
abbrev m_M_variable : pMD := (y_M_variable, b_M_variable, 3, (some .int), { frames := 6, cells := 0, slots := 0, locals := 240 })
theorem wc_M_variable : Cond.code y_M_variable b_M_variable 3 (some .int) ∈ pTB := pT 596 (by decide +kernel) rfl
theorem wi_M_variable : Cond.instanceMethod y_M_variable ∈ pTB := pT 594 (by decide +kernel) rfl
theorem wl_M_variable : Cond.selects R_M y_M_variable y_M_variable ∈ pTB := pT 595 (by decide +kernel) rfl
abbrev b_M_constant : ByteArray := prog_8_method_20_code
def y_M_constant : MethodName := ⟨R_M, "constant", "(II)I"⟩
abbrev m_M_constant : pMD := (y_M_constant, b_M_constant, 5, (some .int), { frames := 6, cells := 0, slots := 0, locals := 240 })
theorem wc_M_constant : Cond.code y_M_constant b_M_constant 5 (some .int) ∈ pTB := pT 627 (by decide +kernel) rfl
theorem wi_M_constant : Cond.instanceMethod y_M_constant ∈ pTB := pT 625 (by decide +kernel) rfl
theorem wl_M_constant : Cond.selects R_M y_M_constant y_M_constant ∈ pTB := pT 626 (by decide +kernel) rfl
abbrev b_M_fits : ByteArray := prog_8_method_21_code
def y_M_fits : MethodName := ⟨R_M, "fits", "(II)Z"⟩
abbrev m_M_fits : pMD := (y_M_fits, b_M_fits, 3, (some .boolean), { frames := 1, cells := 0, slots := 0, locals := 40 })
theorem wc_M_fits : Cond.code y_M_fits b_M_fits 3 (some .boolean) ∈ pTB := pT 639 (by decide +kernel) rfl
theorem wi_M_fits : Cond.instanceMethod y_M_fits ∈ pTB := pT 638 (by decide +kernel) rfl
theorem wl_M_fits : Cond.selects R_M y_M_fits y_M_fits ∈ pTB := pT 29 (by decide +kernel) rfl
abbrev b_M_apply : ByteArray := prog_8_method_22_code
def y_M_apply : MethodName := ⟨R_M, "apply", "(II)I"⟩
abbrev m_M_apply : pMD := (y_M_apply, b_M_apply, 3, (some .int), { frames := 6, cells := 0, slots := 0, locals := 240 })
theorem wc_M_apply : Cond.code y_M_apply b_M_apply 3 (some .int) ∈ pTB := pT 631 (by decide +kernel) rfl
theorem wi_M_apply : Cond.instanceMethod y_M_apply ∈ pTB := pT 629 (by decide +kernel) rfl
theorem wl_M_apply : Cond.selects R_M y_M_apply y_M_apply ∈ pTB := pT 630 (by decide +kernel) rfl
abbrev b_M_bind : ByteArray := prog_8_method_23_code
def y_M_bind : MethodName := ⟨R_M, "bind", "(ZII)I"⟩
abbrev m_M_bind : pMD := (y_M_bind, b_M_bind, 6, (some .int), { frames := 6, cells := 0, slots := 0, locals := 240 })
theorem wc_M_bind : Cond.code y_M_bind b_M_bind 6 (some .int) ∈ pTB := pT 647 (by decide +kernel) rfl
theorem wi_M_bind : Cond.instanceMethod y_M_bind ∈ pTB := pT 645 (by decide +kernel) rfl
theorem wl_M_bind : Cond.selects R_M y_M_bind y_M_bind ∈ pTB := pT 646 (by decide +kernel) rfl
abbrev b_M_join : ByteArray := prog_8_method_24_code
def y_M_join : MethodName := ⟨R_M, "join", "(ZII)I"⟩
abbrev m_M_join : pMD := (y_M_join, b_M_join, 4, (some .int), { frames := 6, cells := 0, slots := 0, locals := 240 })
theorem wc_M_join : Cond.code y_M_join b_M_join 4 (some .int) ∈ pTB := pT 667 (by decide +kernel) rfl
theorem wi_M_join : Cond.instanceMethod y_M_join ∈ pTB := pT 665 (by decide +kernel) rfl
theorem wl_M_join : Cond.selects R_M y_M_join y_M_join ∈ pTB := pT 666 (by decide +kernel) rfl
abbrev b_M_isTheorem : ByteArray := prog_8_method_25_code
def y_M_isTheorem : MethodName := ⟨R_M, "isTheorem", "(I)Z"⟩
abbrev m_M_isTheorem : pMD := (y_M_isTheorem, b_M_isTheorem, 2, (some .boolean), { frames := 1, cells := 0, slots := 0, locals := 40 })
theorem wc_M_isTheorem : Cond.code y_M_isTheorem b_M_isTheorem 2 (some .boolean) ∈ pTB := pT 682 (by decide +kernel) rfl
theorem wi_M_isTheorem : Cond.instanceMethod y_M_isTheorem ∈ pTB := pT 681 (by decide +kernel) rfl
theorem wl_M_isTheorem : Cond.selects R_M y_M_isTheorem y_M_isTheorem ∈ pTB := pT 35 (by decide +kernel) rfl
abbrev b_M_isIn : ByteArray := prog_8_method_26_code
def y_M_isIn : MethodName := ⟨R_M, "isIn", "(II)Z"⟩
abbrev m_M_isIn : pMD := (y_M_isIn, b_M_isIn, 5, (some .boolean), { frames := 1, cells := 0, slots := 0, locals := 40 })
theorem wc_M_isIn : Cond.code y_M_isIn b_M_isIn 5 (some .boolean) ∈ pTB := pT 699 (by decide +kernel) rfl
theorem wi_M_isIn : Cond.instanceMethod y_M_isIn ∈ pTB := pT 698 (by decide +kernel) rfl
theorem wl_M_isIn : Cond.selects R_M y_M_isIn y_M_isIn ∈ pTB := pT 39 (by decide +kernel) rfl
abbrev b_M_freeInSet : ByteArray := prog_8_method_27_code
def y_M_freeInSet : MethodName := ⟨R_M, "freeInSet", "(I)Z"⟩
abbrev m_M_freeInSet : pMD := (y_M_freeInSet, b_M_freeInSet, 4, (some .boolean), { frames := 2, cells := 0, slots := 0, locals := 80 })
theorem wc_M_freeInSet : Cond.code y_M_freeInSet b_M_freeInSet 4 (some .boolean) ∈ pTB := pT 695 (by decide +kernel) rfl
theorem wi_M_freeInSet : Cond.instanceMethod y_M_freeInSet ∈ pTB := pT 694 (by decide +kernel) rfl
theorem wl_M_freeInSet : Cond.selects R_M y_M_freeInSet y_M_freeInSet ∈ pTB := pT 38 (by decide +kernel) rfl
abbrev b_M_named : ByteArray := prog_8_method_28_code
def y_M_named : MethodName := ⟨R_M, "named", "(I)I"⟩
abbrev m_M_named : pMD := (y_M_named, b_M_named, 1, (some .int), { frames := 1, cells := 0, slots := 0, locals := 40 })
theorem wc_M_named : Cond.code y_M_named b_M_named 1 (some .int) ∈ pTB := pT 678 (by decide +kernel) rfl
theorem ws_M_named : Cond.static y_M_named ∈ pTB := pT 677 (by decide +kernel) rfl
abbrev b_M_there : ByteArray := prog_8_method_29_code
def y_M_there : MethodName := ⟨R_M, "there", "(III)Z"⟩
abbrev m_M_there : pMD := (y_M_there, b_M_there, 5, (some .boolean), { frames := 2, cells := 0, slots := 0, locals := 80 })
theorem wc_M_there : Cond.code y_M_there b_M_there 5 (some .boolean) ∈ pTB := pT 675 (by decide +kernel) rfl
theorem wi_M_there : Cond.instanceMethod y_M_there ∈ pTB := pT 674 (by decide +kernel) rfl
theorem wl_M_there : Cond.selects R_M y_M_there y_M_there ∈ pTB := pT 34 (by decide +kernel) rfl
abbrev b_M_reason : ByteArray := prog_8_method_30_code
def y_M_reason : MethodName := ⟨R_M, "reason", "(III)I"⟩
abbrev m_M_reason : pMD := (y_M_reason, b_M_reason, 6, (some .int), { frames := 5, cells := 0, slots := 0, locals := 200 })
theorem wc_M_reason : Cond.code y_M_reason b_M_reason 6 (some .int) ∈ pTB := pT 690 (by decide +kernel) rfl
theorem wi_M_reason : Cond.instanceMethod y_M_reason ∈ pTB := pT 689 (by decide +kernel) rfl
theorem wl_M_reason : Cond.selects R_M y_M_reason y_M_reason ∈ pTB := pT 37 (by decide +kernel) rfl
abbrev b_M_equate : ByteArray := prog_8_method_31_code
def y_M_equate : MethodName := ⟨R_M, "equate", "(III)I"⟩
abbrev m_M_equate : pMD := (y_M_equate, b_M_equate, 7, (some .int), { frames := 6, cells := 0, slots := 0, locals := 240 })
theorem wc_M_equate : Cond.code y_M_equate b_M_equate 7 (some .int) ∈ pTB := pT 707 (by decide +kernel) rfl
theorem wi_M_equate : Cond.instanceMethod y_M_equate ∈ pTB := pT 706 (by decide +kernel) rfl
theorem wl_M_equate : Cond.selects R_M y_M_equate y_M_equate ∈ pTB := pT 41 (by decide +kernel) rfl
abbrev b_M_abstraction : ByteArray := prog_8_method_32_code
def y_M_abstraction : MethodName := ⟨R_M, "abstraction", "(III)I"⟩
abbrev m_M_abstraction : pMD := (y_M_abstraction, b_M_abstraction, 5, (some .int), { frames := 5, cells := 0, slots := 0, locals := 200 })
theorem wc_M_abstraction : Cond.code y_M_abstraction b_M_abstraction 5 (some .int) ∈ pTB := pT 711 (by decide +kernel) rfl
theorem wi_M_abstraction : Cond.instanceMethod y_M_abstraction ∈ pTB := pT 710 (by decide +kernel) rfl
theorem wl_M_abstraction : Cond.selects R_M y_M_abstraction y_M_abstraction ∈ pTB := pT 42 (by decide +kernel) rfl
abbrev b_M_two : ByteArray := prog_8_method_33_code
def y_M_two : MethodName := ⟨R_M, "two", "(IIII)I"⟩
abbrev m_M_two : pMD := (y_M_two, b_M_two, 8, (some .int), { frames := 5, cells := 0, slots := 0, locals := 200 })
theorem wc_M_two : Cond.code y_M_two b_M_two 8 (some .int) ∈ pTB := pT 715 (by decide +kernel) rfl
theorem wi_M_two : Cond.instanceMethod y_M_two ∈ pTB := pT 714 (by decide +kernel) rfl
theorem wl_M_two : Cond.selects R_M y_M_two y_M_two ∈ pTB := pT 43 (by decide +kernel) rfl
abbrev b_M_substitute : ByteArray := prog_8_method_34_code
def y_M_substitute : MethodName := ⟨R_M, "substitute", "(III)I"⟩
abbrev m_M_substitute : pMD := (y_M_substitute, b_M_substitute, 10, (some .int), { frames := 6, cells := 0, slots := 0, locals := 240 })
theorem wc_M_substitute : Cond.code y_M_substitute b_M_substitute 10 (some .int) ∈ pTB := pT 686 (by decide +kernel) rfl
theorem wi_M_substitute : Cond.instanceMethod y_M_substitute ∈ pTB := pT 685 (by decide +kernel) rfl
theorem wl_M_substitute : Cond.selects R_M y_M_substitute y_M_substitute ∈ pTB := pT 36 (by decide +kernel) rfl
abbrev b_M_rule : ByteArray := prog_8_method_35_code
def y_M_rule : MethodName := ⟨R_M, "rule", "(III)I"⟩
abbrev m_M_rule : pMD := (y_M_rule, b_M_rule, 11, (some .int), { frames := 7, cells := 0, slots := 0, locals := 280 })
theorem wc_M_rule : Cond.code y_M_rule b_M_rule 11 (some .int) ∈ pTB := pT 671 (by decide +kernel) rfl
theorem wi_M_rule : Cond.instanceMethod y_M_rule ∈ pTB := pT 669 (by decide +kernel) rfl
theorem wl_M_rule : Cond.selects R_M y_M_rule y_M_rule ∈ pTB := pT 670 (by decide +kernel) rfl
abbrev b_M_terms : ByteArray := prog_8_method_36_code
def y_M_terms : MethodName := ⟨R_M, "terms", "()I"⟩
abbrev m_M_terms : pMD := (y_M_terms, b_M_terms, 1, (some .int), { frames := 1, cells := 0, slots := 0, locals := 40 })
theorem wc_M_terms : Cond.code y_M_terms b_M_terms 1 (some .int) ∈ pTB := pT 720 (by decide +kernel) rfl
theorem wi_M_terms : Cond.instanceMethod y_M_terms ∈ pTB := pT 718 (by decide +kernel) rfl
theorem wl_M_terms : Cond.selects R_M y_M_terms y_M_terms ∈ pTB := pT 719 (by decide +kernel) rfl
abbrev b_M_theorems : ByteArray := prog_8_method_37_code
def y_M_theorems : MethodName := ⟨R_M, "theorems", "()I"⟩
abbrev m_M_theorems : pMD := (y_M_theorems, b_M_theorems, 1, (some .int), { frames := 1, cells := 0, slots := 0, locals := 40 })
theorem wc_M_theorems : Cond.code y_M_theorems b_M_theorems 1 (some .int) ∈ pTB := pT 724 (by decide +kernel) rfl
theorem wi_M_theorems : Cond.instanceMethod y_M_theorems ∈ pTB := pT 722 (by decide +kernel) rfl
theorem wl_M_theorems : Cond.selects R_M y_M_theorems y_M_theorems ∈ pTB := pT 723 (by decide +kernel) rfl
abbrev b_M_typeOf : ByteArray := prog_8_method_38_code
def y_M_typeOf : MethodName := ⟨R_M, "typeOf", "(I)I"⟩
abbrev m_M_typeOf : pMD := (y_M_typeOf, b_M_typeOf, 2, (some .int), { frames := 2, cells := 0, slots := 0, locals := 80 })
theorem wc_M_typeOf : Cond.code y_M_typeOf b_M_typeOf 2 (some .int) ∈ pTB := pT 728 (by decide +kernel) rfl
theorem wi_M_typeOf : Cond.instanceMethod y_M_typeOf ∈ pTB := pT 726 (by decide +kernel) rfl
theorem wl_M_typeOf : Cond.selects R_M y_M_typeOf y_M_typeOf ∈ pTB := pT 727 (by decide +kernel) rfl
abbrev b_M_size : ByteArray := prog_8_method_39_code
def y_M_size : MethodName := ⟨R_M, "size", "(I)I"⟩
abbrev m_M_size : pMD := (y_M_size, b_M_size, 2, (some .int), { frames := 2, cells := 0, slots := 0, locals := 80 })
theorem wc_M_size : Cond.code y_M_size b_M_size 2 (some .int) ∈ pTB := pT 732 (by decide +kernel) rfl
theorem wi_M_size : Cond.instanceMethod y_M_size ∈ pTB := pT 730 (by decide +kernel) rfl
theorem wl_M_size : Cond.selects R_M y_M_size y_M_size ∈ pTB := pT 731 (by decide +kernel) rfl
abbrev b_M_free : ByteArray := prog_8_method_40_code
def y_M_free : MethodName := ⟨R_M, "free", "(II)Z"⟩
abbrev m_M_free : pMD := (y_M_free, b_M_free, 3, (some .boolean), { frames := 3, cells := 0, slots := 0, locals := 120 })
theorem wc_M_free : Cond.code y_M_free b_M_free 3 (some .boolean) ∈ pTB := pT 736 (by decide +kernel) rfl
theorem wi_M_free : Cond.instanceMethod y_M_free ∈ pTB := pT 734 (by decide +kernel) rfl
theorem wl_M_free : Cond.selects R_M y_M_free y_M_free ∈ pTB := pT 735 (by decide +kernel) rfl
abbrev b_M_say : ByteArray := prog_8_method_41_code
def y_M_say : MethodName := ⟨R_M, "say", "(I)V"⟩
abbrev m_M_say : pMD := (y_M_say, b_M_say, 2, none, { frames := 1, cells := 0, slots := 0, locals := 40 })
theorem wc_M_say : Cond.code y_M_say b_M_say 2 none ∈ pTB := pT 744 (by decide +kernel) rfl
theorem wi_M_say : Cond.instanceMethod y_M_say ∈ pTB := pT 743 (by decide +kernel) rfl
theorem wl_M_say : Cond.selects R_M y_M_say y_M_say ∈ pTB := pT 44 (by decide +kernel) rfl
abbrev b_M_printed : ByteArray := prog_8_method_42_code
def y_M_printed : MethodName := ⟨R_M, "printed", "(II)I"⟩
abbrev m_M_printed : pMD := (y_M_printed, b_M_printed, 6, (some .int), { frames := 2, cells := 0, slots := 0, locals := 80 })
theorem wc_M_printed : Cond.code y_M_printed b_M_printed 6 (some .int) ∈ pTB := pT 740 (by decide +kernel) rfl
theorem wi_M_printed : Cond.instanceMethod y_M_printed ∈ pTB := pT 738 (by decide +kernel) rfl
theorem wl_M_printed : Cond.selects R_M y_M_printed y_M_printed ∈ pTB := pT 739 (by decide +kernel) rfl
abbrev b_M_conclusion : ByteArray := prog_8_method_43_code
def y_M_conclusion : MethodName := ⟨R_M, "conclusion", "(I)I"⟩
abbrev m_M_conclusion : pMD := (y_M_conclusion, b_M_conclusion, 2, (some .int), { frames := 2, cells := 0, slots := 0, locals := 80 })
theorem wc_M_conclusion : Cond.code y_M_conclusion b_M_conclusion 2 (some .int) ∈ pTB := pT 748 (by decide +kernel) rfl
theorem wi_M_conclusion : Cond.instanceMethod y_M_conclusion ∈ pTB := pT 746 (by decide +kernel) rfl
theorem wl_M_conclusion : Cond.selects R_M y_M_conclusion y_M_conclusion ∈ pTB := pT 747 (by decide +kernel) rfl
abbrev b_M_hypotheses : ByteArray := prog_8_method_44_code
def y_M_hypotheses : MethodName := ⟨R_M, "hypotheses", "(I)J"⟩
abbrev m_M_hypotheses : pMD := (y_M_hypotheses, b_M_hypotheses, 2, (some .long), { frames := 2, cells := 0, slots := 0, locals := 80 })
theorem wc_M_hypotheses : Cond.code y_M_hypotheses b_M_hypotheses 2 (some .long) ∈ pTB := pT 752 (by decide +kernel) rfl
theorem wi_M_hypotheses : Cond.instanceMethod y_M_hypotheses ∈ pTB := pT 750 (by decide +kernel) rfl
theorem wl_M_hypotheses : Cond.selects R_M y_M_hypotheses y_M_hypotheses ∈ pTB := pT 751 (by decide +kernel) rfl
abbrev b_M_axioms : ByteArray := prog_8_method_45_code
def y_M_axioms : MethodName := ⟨R_M, "axioms", "(I)J"⟩
abbrev m_M_axioms : pMD := (y_M_axioms, b_M_axioms, 2, (some .long), { frames := 2, cells := 0, slots := 0, locals := 80 })
theorem wc_M_axioms : Cond.code y_M_axioms b_M_axioms 2 (some .long) ∈ pTB := pT 756 (by decide +kernel) rfl
theorem wi_M_axioms : Cond.instanceMethod y_M_axioms ∈ pTB := pT 754 (by decide +kernel) rfl
theorem wl_M_axioms : Cond.selects R_M y_M_axioms y_M_axioms ∈ pTB := pT 755 (by decide +kernel) rfl
abbrev b_M_steps : ByteArray := prog_8_method_46_code
def y_M_steps : MethodName := ⟨R_M, "steps", "(I)I"⟩
abbrev m_M_steps : pMD := (y_M_steps, b_M_steps, 2, (some .int), { frames := 2, cells := 0, slots := 0, locals := 80 })
theorem wc_M_steps : Cond.code y_M_steps b_M_steps 2 (some .int) ∈ pTB := pT 760 (by decide +kernel) rfl
theorem wi_M_steps : Cond.instanceMethod y_M_steps ∈ pTB := pT 758 (by decide +kernel) rfl
theorem wl_M_steps : Cond.selects R_M y_M_steps y_M_steps ∈ pTB := pT 759 (by decide +kernel) rfl
abbrev b_B_init : ByteArray := prog_2_method_1_code
def y_B_init : MethodName := ⟨R_B, "<init>", "()V"⟩
abbrev m_B_init : pMD := (y_B_init, b_B_init, 1, none, { frames := 1, cells := 6, slots := 240, locals := 40 })
theorem wc_B_init : Cond.code y_B_init b_B_init 1 none ∈ pTB := pT 122 (by decide +kernel) rfl
theorem wi_B_init : Cond.instanceMethod y_B_init ∈ pTB := pT 121 (by decide +kernel) rfl
abbrev b_B_count : ByteArray := prog_2_method_2_code
def y_B_count : MethodName := ⟨R_B, "count", "()I"⟩
abbrev m_B_count : pMD := (y_B_count, b_B_count, 1, (some .int), { frames := 1, cells := 0, slots := 0, locals := 40 })
theorem wc_B_count : Cond.code y_B_count b_B_count 1 (some .int) ∈ pTB := pT 440 (by decide +kernel) rfl
theorem wi_B_count : Cond.instanceMethod y_B_count ∈ pTB := pT 438 (by decide +kernel) rfl
theorem wl_B_count : Cond.selects R_B y_B_count y_B_count ∈ pTB := pT 439 (by decide +kernel) rfl
abbrev b_B_has : ByteArray := prog_2_method_3_code
def y_B_has : MethodName := ⟨R_B, "has", "(I)Z"⟩
abbrev m_B_has : pMD := (y_B_has, b_B_has, 2, (some .boolean), { frames := 1, cells := 0, slots := 0, locals := 40 })
theorem wc_B_has : Cond.code y_B_has b_B_has 2 (some .boolean) ∈ pTB := pT 340 (by decide +kernel) rfl
theorem wi_B_has : Cond.instanceMethod y_B_has ∈ pTB := pT 338 (by decide +kernel) rfl
theorem wl_B_has : Cond.selects R_B y_B_has y_B_has ∈ pTB := pT 339 (by decide +kernel) rfl
abbrev b_B_isFull : ByteArray := prog_2_method_4_code
def y_B_isFull : MethodName := ⟨R_B, "isFull", "()Z"⟩
abbrev m_B_isFull : pMD := (y_B_isFull, b_B_isFull, 1, (some .boolean), { frames := 1, cells := 0, slots := 0, locals := 40 })
theorem wc_B_isFull : Cond.code y_B_isFull b_B_isFull 1 (some .boolean) ∈ pTB := pT 387 (by decide +kernel) rfl
theorem wi_B_isFull : Cond.instanceMethod y_B_isFull ∈ pTB := pT 385 (by decide +kernel) rfl
theorem wl_B_isFull : Cond.selects R_B y_B_isFull y_B_isFull ∈ pTB := pT 386 (by decide +kernel) rfl
abbrev b_B_hypothesesOf : ByteArray := prog_2_method_5_code
def y_B_hypothesesOf : MethodName := ⟨R_B, "hypothesesOf", "(I)J"⟩
abbrev m_B_hypothesesOf : pMD := (y_B_hypothesesOf, b_B_hypothesesOf, 2, (some .long), { frames := 1, cells := 0, slots := 0, locals := 40 })
theorem wc_B_hypothesesOf : Cond.code y_B_hypothesesOf b_B_hypothesesOf 2 (some .long) ∈ pTB := pT 376 (by decide +kernel) rfl
theorem wi_B_hypothesesOf : Cond.instanceMethod y_B_hypothesesOf ∈ pTB := pT 374 (by decide +kernel) rfl
theorem wl_B_hypothesesOf : Cond.selects R_B y_B_hypothesesOf y_B_hypothesesOf ∈ pTB := pT 375 (by decide +kernel) rfl
abbrev b_B_conclusionOf : ByteArray := prog_2_method_6_code
def y_B_conclusionOf : MethodName := ⟨R_B, "conclusionOf", "(I)I"⟩
abbrev m_B_conclusionOf : pMD := (y_B_conclusionOf, b_B_conclusionOf, 2, (some .int), { frames := 1, cells := 0, slots := 0, locals := 40 })
theorem wc_B_conclusionOf : Cond.code y_B_conclusionOf b_B_conclusionOf 2 (some .int) ∈ pTB := pT 354 (by decide +kernel) rfl
theorem wi_B_conclusionOf : Cond.instanceMethod y_B_conclusionOf ∈ pTB := pT 352 (by decide +kernel) rfl
theorem wl_B_conclusionOf : Cond.selects R_B y_B_conclusionOf y_B_conclusionOf ∈ pTB := pT 353 (by decide +kernel) rfl
abbrev b_B_axiomsOf : ByteArray := prog_2_method_7_code
def y_B_axiomsOf : MethodName := ⟨R_B, "axiomsOf", "(I)J"⟩
abbrev m_B_axiomsOf : pMD := (y_B_axiomsOf, b_B_axiomsOf, 7, (some .long), { frames := 2, cells := 0, slots := 0, locals := 80 })
theorem wc_B_axiomsOf : Cond.code y_B_axiomsOf b_B_axiomsOf 7 (some .long) ∈ pTB := pT 489 (by decide +kernel) rfl
theorem wi_B_axiomsOf : Cond.instanceMethod y_B_axiomsOf ∈ pTB := pT 487 (by decide +kernel) rfl
theorem wl_B_axiomsOf : Cond.selects R_B y_B_axiomsOf y_B_axiomsOf ∈ pTB := pT 488 (by decide +kernel) rfl
abbrev b_B_stepsOf : ByteArray := prog_2_method_8_code
def y_B_stepsOf : MethodName := ⟨R_B, "stepsOf", "(I)I"⟩
abbrev m_B_stepsOf : pMD := (y_B_stepsOf, b_B_stepsOf, 4, (some .int), { frames := 2, cells := 0, slots := 0, locals := 80 })
theorem wc_B_stepsOf : Cond.code y_B_stepsOf b_B_stepsOf 4 (some .int) ∈ pTB := pT 511 (by decide +kernel) rfl
theorem wi_B_stepsOf : Cond.instanceMethod y_B_stepsOf ∈ pTB := pT 509 (by decide +kernel) rfl
theorem wl_B_stepsOf : Cond.selects R_B y_B_stepsOf y_B_stepsOf ∈ pTB := pT 510 (by decide +kernel) rfl
abbrev b_B_add : ByteArray := prog_2_method_9_code
def y_B_add : MethodName := ⟨R_B, "add", "(IIIJI)I"⟩
abbrev m_B_add : pMD := (y_B_add, b_B_add, 7, (some .int), { frames := 1, cells := 0, slots := 0, locals := 40 })
theorem wc_B_add : Cond.code y_B_add b_B_add 7 (some .int) ∈ pTB := pT 428 (by decide +kernel) rfl
theorem wi_B_add : Cond.instanceMethod y_B_add ∈ pTB := pT 426 (by decide +kernel) rfl
theorem wl_B_add : Cond.selects R_B y_B_add y_B_add ∈ pTB := pT 427 (by decide +kernel) rfl
abbrev b_B_firstPremise : ByteArray := prog_2_method_10_code
def y_B_firstPremise : MethodName := ⟨R_B, "firstPremise", "(I)I"⟩
abbrev m_B_firstPremise : pMD := (y_B_firstPremise, b_B_firstPremise, 2, (some .int), { frames := 1, cells := 0, slots := 0, locals := 40 })
theorem wc_B_firstPremise : Cond.code y_B_firstPremise b_B_firstPremise 2 (some .int) ∈ pTB := pT 494 (by decide +kernel) rfl
theorem wi_B_firstPremise : Cond.instanceMethod y_B_firstPremise ∈ pTB := pT 493 (by decide +kernel) rfl
theorem wl_B_firstPremise : Cond.selects R_B y_B_firstPremise y_B_firstPremise ∈ pTB := pT 17 (by decide +kernel) rfl
abbrev b_B_secondPremise : ByteArray := prog_2_method_11_code
def y_B_secondPremise : MethodName := ⟨R_B, "secondPremise", "(I)I"⟩
abbrev m_B_secondPremise : pMD := (y_B_secondPremise, b_B_secondPremise, 2, (some .int), { frames := 1, cells := 0, slots := 0, locals := 40 })
theorem wc_B_secondPremise : Cond.code y_B_secondPremise b_B_secondPremise 2 (some .int) ∈ pTB := pT 502 (by decide +kernel) rfl
theorem wi_B_secondPremise : Cond.instanceMethod y_B_secondPremise ∈ pTB := pT 501 (by decide +kernel) rfl
theorem wl_B_secondPremise : Cond.selects R_B y_B_secondPremise y_B_secondPremise ∈ pTB := pT 18 (by decide +kernel) rfl
abbrev b_B_stepsBefore : ByteArray := prog_2_method_12_code
def y_B_stepsBefore : MethodName := ⟨R_B, "stepsBefore", "(I)I"⟩
abbrev m_B_stepsBefore : pMD := (y_B_stepsBefore, b_B_stepsBefore, 2, (some .int), { frames := 1, cells := 0, slots := 0, locals := 40 })
theorem wc_B_stepsBefore : Cond.code y_B_stepsBefore b_B_stepsBefore 2 (some .int) ∈ pTB := pT 515 (by decide +kernel) rfl
theorem wi_B_stepsBefore : Cond.instanceMethod y_B_stepsBefore ∈ pTB := pT 514 (by decide +kernel) rfl
theorem wl_B_stepsBefore : Cond.selects R_B y_B_stepsBefore y_B_stepsBefore ∈ pTB := pT 19 (by decide +kernel) rfl
abbrev b_B_setOf : ByteArray := prog_2_method_13_code
def y_B_setOf : MethodName := ⟨R_B, "setOf", "(I)J"⟩
abbrev m_B_setOf : pMD := (y_B_setOf, b_B_setOf, 1, (some .long), { frames := 1, cells := 0, slots := 0, locals := 40 })
theorem wc_B_setOf : Cond.code y_B_setOf b_B_setOf 1 (some .long) ∈ pTB := pT 498 (by decide +kernel) rfl
theorem ws_B_setOf : Cond.static y_B_setOf ∈ pTB := pT 497 (by decide +kernel) rfl
abbrev b_D_init : ByteArray := prog_3_method_1_code
def y_D_init : MethodName := ⟨R_D, "<init>", "(LProofKernel$Shelf;)V"⟩
abbrev m_D_init : pMD := (y_D_init, b_D_init, 2, none, { frames := 1, cells := 2, slots := 60, locals := 40 })
theorem wc_D_init : Cond.code y_D_init b_D_init 2 none ∈ pTB := pT 100 (by decide +kernel) rfl
theorem wi_D_init : Cond.instanceMethod y_D_init ∈ pTB := pT 99 (by decide +kernel) rfl
abbrev b_D_clear : ByteArray := prog_3_method_2_code
def y_D_clear : MethodName := ⟨R_D, "clear", "()V"⟩
abbrev m_D_clear : pMD := (y_D_clear, b_D_clear, 1, none, { frames := 1, cells := 0, slots := 0, locals := 40 })
theorem wc_D_clear : Cond.code y_D_clear b_D_clear 1 none ∈ pTB := pT 179 (by decide +kernel) rfl
theorem wi_D_clear : Cond.instanceMethod y_D_clear ∈ pTB := pT 177 (by decide +kernel) rfl
theorem wl_D_clear : Cond.selects R_D y_D_clear y_D_clear ∈ pTB := pT 178 (by decide +kernel) rfl
abbrev b_D_length : ByteArray := prog_3_method_3_code
def y_D_length : MethodName := ⟨R_D, "length", "()I"⟩
abbrev m_D_length : pMD := (y_D_length, b_D_length, 1, (some .int), { frames := 1, cells := 0, slots := 0, locals := 40 })
theorem wc_D_length : Cond.code y_D_length b_D_length 1 (some .int) ∈ pTB := pT 198 (by decide +kernel) rfl
theorem wi_D_length : Cond.instanceMethod y_D_length ∈ pTB := pT 196 (by decide +kernel) rfl
theorem wl_D_length : Cond.selects R_D y_D_length y_D_length ∈ pTB := pT 197 (by decide +kernel) rfl
abbrev b_D_isTooLarge : ByteArray := prog_3_method_4_code
def y_D_isTooLarge : MethodName := ⟨R_D, "isTooLarge", "()Z"⟩
abbrev m_D_isTooLarge : pMD := (y_D_isTooLarge, b_D_isTooLarge, 1, (some .boolean), { frames := 1, cells := 0, slots := 0, locals := 40 })
theorem wc_D_isTooLarge : Cond.code y_D_isTooLarge b_D_isTooLarge 1 (some .boolean) ∈ pTB := pT 194 (by decide +kernel) rfl
theorem wi_D_isTooLarge : Cond.instanceMethod y_D_isTooLarge ∈ pTB := pT 192 (by decide +kernel) rfl
theorem wl_D_isTooLarge : Cond.selects R_D y_D_isTooLarge y_D_isTooLarge ∈ pTB := pT 193 (by decide +kernel) rfl
abbrev b_D_spoil : ByteArray := prog_3_method_5_code
def y_D_spoil : MethodName := ⟨R_D, "spoil", "()V"⟩
abbrev m_D_spoil : pMD := (y_D_spoil, b_D_spoil, 1, none, { frames := 1, cells := 0, slots := 0, locals := 40 })
theorem wc_D_spoil : Cond.code y_D_spoil b_D_spoil 1 none ∈ pTB := pT 314 (by decide +kernel) rfl
theorem wi_D_spoil : Cond.instanceMethod y_D_spoil ∈ pTB := pT 312 (by decide +kernel) rfl
theorem wl_D_spoil : Cond.selects R_D y_D_spoil y_D_spoil ∈ pTB := pT 313 (by decide +kernel) rfl
abbrev b_D_add : ByteArray := prog_3_method_6_code
def y_D_add : MethodName := ⟨R_D, "add", "(I)V"⟩
abbrev m_D_add : pMD := (y_D_add, b_D_add, 2, none, { frames := 1, cells := 0, slots := 0, locals := 40 })
theorem wc_D_add : Cond.code y_D_add b_D_add 2 none ∈ pTB := pT 186 (by decide +kernel) rfl
theorem wi_D_add : Cond.instanceMethod y_D_add ∈ pTB := pT 184 (by decide +kernel) rfl
theorem wl_D_add : Cond.selects R_D y_D_add y_D_add ∈ pTB := pT 185 (by decide +kernel) rfl
abbrev b_D_addPart : ByteArray := prog_3_method_7_code
def y_D_addPart : MethodName := ⟨R_D, "addPart", "(I)V"⟩
abbrev m_D_addPart : pMD := (y_D_addPart, b_D_addPart, 4, none, { frames := 3, cells := 0, slots := 0, locals := 120 })
theorem wc_D_addPart : Cond.code y_D_addPart b_D_addPart 4 none ∈ pTB := pT 268 (by decide +kernel) rfl
theorem wi_D_addPart : Cond.instanceMethod y_D_addPart ∈ pTB := pT 266 (by decide +kernel) rfl
theorem wl_D_addPart : Cond.selects R_D y_D_addPart y_D_addPart ∈ pTB := pT 267 (by decide +kernel) rfl
abbrev b_D_addBinder : ByteArray := prog_3_method_8_code
def y_D_addBinder : MethodName := ⟨R_D, "addBinder", "(IIII)V"⟩
abbrev m_D_addBinder : pMD := (y_D_addBinder, b_D_addBinder, 9, none, { frames := 3, cells := 0, slots := 0, locals := 120 })
theorem wc_D_addBinder : Cond.code y_D_addBinder b_D_addBinder 9 none ∈ pTB := pT 292 (by decide +kernel) rfl
theorem wi_D_addBinder : Cond.instanceMethod y_D_addBinder ∈ pTB := pT 290 (by decide +kernel) rfl
theorem wl_D_addBinder : Cond.selects R_D y_D_addBinder y_D_addBinder ∈ pTB := pT 291 (by decide +kernel) rfl
abbrev b_D_addFilling : ByteArray := prog_3_method_9_code
def y_D_addFilling : MethodName := ⟨R_D, "addFilling", "(II)V"⟩
abbrev m_D_addFilling : pMD := (y_D_addFilling, b_D_addFilling, 7, none, { frames := 4, cells := 0, slots := 0, locals := 160 })
theorem wc_D_addFilling : Cond.code y_D_addFilling b_D_addFilling 7 none ∈ pTB := pT 418 (by decide +kernel) rfl
theorem wi_D_addFilling : Cond.instanceMethod y_D_addFilling ∈ pTB := pT 416 (by decide +kernel) rfl
theorem wl_D_addFilling : Cond.selects R_D y_D_addFilling y_D_addFilling ∈ pTB := pT 417 (by decide +kernel) rfl
abbrev b_D_addReplacing : ByteArray := prog_3_method_10_code
def y_D_addReplacing : MethodName := ⟨R_D, "addReplacing", "(III)V"⟩
abbrev m_D_addReplacing : pMD := (y_D_addReplacing, b_D_addReplacing, 6, none, { frames := 4, cells := 0, slots := 0, locals := 160 })
theorem wc_D_addReplacing : Cond.code y_D_addReplacing b_D_addReplacing 6 none ∈ pTB := pT 403 (by decide +kernel) rfl
theorem wi_D_addReplacing : Cond.instanceMethod y_D_addReplacing ∈ pTB := pT 401 (by decide +kernel) rfl
theorem wl_D_addReplacing : Cond.selects R_D y_D_addReplacing y_D_addReplacing ∈ pTB := pT 402 (by decide +kernel) rfl
abbrev b_D_isAt : ByteArray := prog_3_method_11_code
def y_D_isAt : MethodName := ⟨R_D, "isAt", "(I)Z"⟩
abbrev m_D_isAt : pMD := (y_D_isAt, b_D_isAt, 3, (some .boolean), { frames := 2, cells := 0, slots := 0, locals := 80 })
theorem wc_D_isAt : Cond.code y_D_isAt b_D_isAt 3 (some .boolean) ∈ pTB := pT 206 (by decide +kernel) rfl
theorem wi_D_isAt : Cond.instanceMethod y_D_isAt ∈ pTB := pT 204 (by decide +kernel) rfl
theorem wl_D_isAt : Cond.selects R_D y_D_isAt y_D_isAt ∈ pTB := pT 205 (by decide +kernel) rfl
abbrev b_D_copyTo : ByteArray := prog_3_method_12_code
def y_D_copyTo : MethodName := ⟨R_D, "copyTo", "([II)V"⟩
abbrev m_D_copyTo : pMD := (y_D_copyTo, b_D_copyTo, 3, none, { frames := 1, cells := 0, slots := 0, locals := 40 })
theorem wc_D_copyTo : Cond.code y_D_copyTo b_D_copyTo 3 none ∈ pTB := pT 214 (by decide +kernel) rfl
theorem wi_D_copyTo : Cond.instanceMethod y_D_copyTo ∈ pTB := pT 212 (by decide +kernel) rfl
theorem wl_D_copyTo : Cond.selects R_D y_D_copyTo y_D_copyTo ∈ pTB := pT 213 (by decide +kernel) rfl
abbrev b_D_beginWalk : ByteArray := prog_3_method_13_code
def y_D_beginWalk : MethodName := ⟨R_D, "beginWalk", "()V"⟩
abbrev m_D_beginWalk : pMD := (y_D_beginWalk, b_D_beginWalk, 1, none, { frames := 1, cells := 0, slots := 0, locals := 40 })
theorem wc_D_beginWalk : Cond.code y_D_beginWalk b_D_beginWalk 1 none ∈ pTB := pT 298 (by decide +kernel) rfl
theorem wi_D_beginWalk : Cond.instanceMethod y_D_beginWalk ∈ pTB := pT 297 (by decide +kernel) rfl
theorem wl_D_beginWalk : Cond.selects R_D y_D_beginWalk y_D_beginWalk ∈ pTB := pT 4 (by decide +kernel) rfl
abbrev b_D_walkOver : ByteArray := prog_3_method_14_code
def y_D_walkOver : MethodName := ⟨R_D, "walkOver", "(I)I"⟩
abbrev m_D_walkOver : pMD := (y_D_walkOver, b_D_walkOver, 5, (some .int), { frames := 2, cells := 0, slots := 0, locals := 80 })
theorem wc_D_walkOver : Cond.code y_D_walkOver b_D_walkOver 5 (some .int) ∈ pTB := pT 302 (by decide +kernel) rfl
theorem wi_D_walkOver : Cond.instanceMethod y_D_walkOver ∈ pTB := pT 301 (by decide +kernel) rfl
theorem wl_D_walkOver : Cond.selects R_D y_D_walkOver y_D_walkOver ∈ pTB := pT 5 (by decide +kernel) rfl
abbrev b_S_init : ByteArray := prog_4_method_1_code
def y_S_init : MethodName := ⟨R_S, "<init>", "()V"⟩
abbrev m_S_init : pMD := (y_S_init, b_S_init, 1, none, { frames := 1, cells := 2, slots := 1860, locals := 40 })
theorem wc_S_init : Cond.code y_S_init b_S_init 1 none ∈ pTB := pT 84 (by decide +kernel) rfl
theorem wi_S_init : Cond.instanceMethod y_S_init ∈ pTB := pT 83 (by decide +kernel) rfl
abbrev b_S_count : ByteArray := prog_4_method_2_code
def y_S_count : MethodName := ⟨R_S, "count", "()I"⟩
abbrev m_S_count : pMD := (y_S_count, b_S_count, 1, (some .int), { frames := 1, cells := 0, slots := 0, locals := 40 })
theorem wc_S_count : Cond.code y_S_count b_S_count 1 (some .int) ∈ pTB := pT 229 (by decide +kernel) rfl
theorem wi_S_count : Cond.instanceMethod y_S_count ∈ pTB := pT 227 (by decide +kernel) rfl
theorem wl_S_count : Cond.selects R_S y_S_count y_S_count ∈ pTB := pT 228 (by decide +kernel) rfl
abbrev b_S_has : ByteArray := prog_4_method_3_code
def y_S_has : MethodName := ⟨R_S, "has", "(I)Z"⟩
abbrev m_S_has : pMD := (y_S_has, b_S_has, 2, (some .boolean), { frames := 1, cells := 0, slots := 0, locals := 40 })
theorem wc_S_has : Cond.code y_S_has b_S_has 2 (some .boolean) ∈ pTB := pT 248 (by decide +kernel) rfl
theorem wi_S_has : Cond.instanceMethod y_S_has ∈ pTB := pT 246 (by decide +kernel) rfl
theorem wl_S_has : Cond.selects R_S y_S_has y_S_has ∈ pTB := pT 247 (by decide +kernel) rfl
abbrev b_S_start : ByteArray := prog_4_method_4_code
def y_S_start : MethodName := ⟨R_S, "start", "(I)I"⟩
abbrev m_S_start : pMD := (y_S_start, b_S_start, 2, (some .int), { frames := 1, cells := 0, slots := 0, locals := 40 })
theorem wc_S_start : Cond.code y_S_start b_S_start 2 (some .int) ∈ pTB := pT 202 (by decide +kernel) rfl
theorem wi_S_start : Cond.instanceMethod y_S_start ∈ pTB := pT 200 (by decide +kernel) rfl
theorem wl_S_start : Cond.selects R_S y_S_start y_S_start ∈ pTB := pT 201 (by decide +kernel) rfl
abbrev b_S_length : ByteArray := prog_4_method_5_code
def y_S_length : MethodName := ⟨R_S, "length", "(I)I"⟩
abbrev m_S_length : pMD := (y_S_length, b_S_length, 2, (some .int), { frames := 1, cells := 0, slots := 0, locals := 40 })
theorem wc_S_length : Cond.code y_S_length b_S_length 2 (some .int) ∈ pTB := pT 452 (by decide +kernel) rfl
theorem wi_S_length : Cond.instanceMethod y_S_length ∈ pTB := pT 450 (by decide +kernel) rfl
theorem wl_S_length : Cond.selects R_S y_S_length y_S_length ∈ pTB := pT 451 (by decide +kernel) rfl
abbrev b_S_token : ByteArray := prog_4_method_6_code
def y_S_token : MethodName := ⟨R_S, "token", "(I)I"⟩
abbrev m_S_token : pMD := (y_S_token, b_S_token, 2, (some .int), { frames := 1, cells := 0, slots := 0, locals := 40 })
theorem wc_S_token : Cond.code y_S_token b_S_token 2 (some .int) ∈ pTB := pT 210 (by decide +kernel) rfl
theorem wi_S_token : Cond.instanceMethod y_S_token ∈ pTB := pT 208 (by decide +kernel) rfl
theorem wl_S_token : Cond.selects R_S y_S_token y_S_token ∈ pTB := pT 209 (by decide +kernel) rfl
abbrev b_S_firstPart : ByteArray := prog_4_method_7_code
def y_S_firstPart : MethodName := ⟨R_S, "firstPart", "(I)I"⟩
abbrev m_S_firstPart : pMD := (y_S_firstPart, b_S_firstPart, 2, (some .int), { frames := 1, cells := 0, slots := 0, locals := 40 })
theorem wc_S_firstPart : Cond.code y_S_firstPart b_S_firstPart 2 (some .int) ∈ pTB := pT 358 (by decide +kernel) rfl
theorem wi_S_firstPart : Cond.instanceMethod y_S_firstPart ∈ pTB := pT 356 (by decide +kernel) rfl
theorem wl_S_firstPart : Cond.selects R_S y_S_firstPart y_S_firstPart ∈ pTB := pT 357 (by decide +kernel) rfl
abbrev b_S_secondPart : ByteArray := prog_4_method_8_code
def y_S_secondPart : MethodName := ⟨R_S, "secondPart", "(I)I"⟩
abbrev m_S_secondPart : pMD := (y_S_secondPart, b_S_secondPart, 2, (some .int), { frames := 3, cells := 0, slots := 0, locals := 120 })
theorem wc_S_secondPart : Cond.code y_S_secondPart b_S_secondPart 2 (some .int) ∈ pTB := pT 368 (by decide +kernel) rfl
theorem wi_S_secondPart : Cond.instanceMethod y_S_secondPart ∈ pTB := pT 366 (by decide +kernel) rfl
theorem wl_S_secondPart : Cond.selects R_S y_S_secondPart y_S_secondPart ∈ pTB := pT 367 (by decide +kernel) rfl
abbrev b_S_behind : ByteArray := prog_4_method_9_code
def y_S_behind : MethodName := ⟨R_S, "behind", "(I)I"⟩
abbrev m_S_behind : pMD := (y_S_behind, b_S_behind, 4, (some .int), { frames := 2, cells := 0, slots := 0, locals := 80 })
theorem wc_S_behind : Cond.code y_S_behind b_S_behind 4 (some .int) ∈ pTB := pT 272 (by decide +kernel) rfl
theorem wi_S_behind : Cond.instanceMethod y_S_behind ∈ pTB := pT 270 (by decide +kernel) rfl
theorem wl_S_behind : Cond.selects R_S y_S_behind y_S_behind ∈ pTB := pT 271 (by decide +kernel) rfl
abbrev b_S_same : ByteArray := prog_4_method_10_code
def y_S_same : MethodName := ⟨R_S, "same", "(II)Z"⟩
abbrev m_S_same : pMD := (y_S_same, b_S_same, 5, (some .boolean), { frames := 3, cells := 0, slots := 0, locals := 120 })
theorem wc_S_same : Cond.code y_S_same b_S_same 5 (some .boolean) ∈ pTB := pT 362 (by decide +kernel) rfl
theorem wi_S_same : Cond.instanceMethod y_S_same ∈ pTB := pT 360 (by decide +kernel) rfl
theorem wl_S_same : Cond.selects R_S y_S_same y_S_same ∈ pTB := pT 361 (by decide +kernel) rfl
abbrev b_S_holds : ByteArray := prog_4_method_11_code
def y_S_holds : MethodName := ⟨R_S, "holds", "(II)Z"⟩
abbrev m_S_holds : pMD := (y_S_holds, b_S_holds, 5, (some .boolean), { frames := 2, cells := 0, slots := 0, locals := 80 })
theorem wc_S_holds : Cond.code y_S_holds b_S_holds 5 (some .boolean) ∈ pTB := pT 383 (by decide +kernel) rfl
theorem wi_S_holds : Cond.instanceMethod y_S_holds ∈ pTB := pT 381 (by decide +kernel) rfl
theorem wl_S_holds : Cond.selects R_S y_S_holds y_S_holds ∈ pTB := pT 382 (by decide +kernel) rfl
abbrev b_S_keep : ByteArray := prog_4_method_12_code
def y_S_keep : MethodName := ⟨R_S, "keep", "(LProofKernel$Draft;)I"⟩
abbrev m_S_keep : pMD := (y_S_keep, b_S_keep, 3, (some .int), { frames := 3, cells := 0, slots := 0, locals := 120 })
theorem wc_S_keep : Cond.code y_S_keep b_S_keep 3 (some .int) ∈ pTB := pT 190 (by decide +kernel) rfl
theorem wi_S_keep : Cond.instanceMethod y_S_keep ∈ pTB := pT 188 (by decide +kernel) rfl
theorem wl_S_keep : Cond.selects R_S y_S_keep y_S_keep ∈ pTB := pT 189 (by decide +kernel) rfl
abbrev b_S_cutTo : ByteArray := prog_4_method_13_code
def y_S_cutTo : MethodName := ⟨R_S, "cutTo", "(I)V"⟩
abbrev m_S_cutTo : pMD := (y_S_cutTo, b_S_cutTo, 2, none, { frames := 1, cells := 0, slots := 0, locals := 40 })
theorem wc_S_cutTo : Cond.code y_S_cutTo b_S_cutTo 2 none ∈ pTB := pT 424 (by decide +kernel) rfl
theorem wi_S_cutTo : Cond.instanceMethod y_S_cutTo ∈ pTB := pT 422 (by decide +kernel) rfl
theorem wl_S_cutTo : Cond.selects R_S y_S_cutTo y_S_cutTo ∈ pTB := pT 423 (by decide +kernel) rfl
abbrev b_O_of : ByteArray := prog_5_method_2_code
def y_O_of : MethodName := ⟨R_O, "of", "(III)I"⟩
abbrev m_O_of : pMD := (y_O_of, b_O_of, 3, (some .int), { frames := 1, cells := 0, slots := 0, locals := 40 })
theorem wc_O_of : Cond.code y_O_of b_O_of 3 (some .int) ∈ pTB := pT 182 (by decide +kernel) rfl
theorem ws_O_of : Cond.static y_O_of ∈ pTB := pT 181 (by decide +kernel) rfl
abbrev b_O_tag : ByteArray := prog_5_method_3_code
def y_O_tag : MethodName := ⟨R_O, "tag", "(I)I"⟩
abbrev m_O_tag : pMD := (y_O_tag, b_O_tag, 1, (some .int), { frames := 1, cells := 0, slots := 0, locals := 40 })
theorem wc_O_tag : Cond.code y_O_tag b_O_tag 1 (some .int) ∈ pTB := pT 234 (by decide +kernel) rfl
theorem ws_O_tag : Cond.static y_O_tag ∈ pTB := pT 233 (by decide +kernel) rfl
abbrev b_O_info : ByteArray := prog_5_method_4_code
def y_O_info : MethodName := ⟨R_O, "info", "(I)I"⟩
abbrev m_O_info : pMD := (y_O_info, b_O_info, 1, (some .int), { frames := 1, cells := 0, slots := 0, locals := 40 })
theorem wc_O_info : Cond.code y_O_info b_O_info 1 (some .int) ∈ pTB := pT 237 (by decide +kernel) rfl
theorem ws_O_info : Cond.static y_O_info ∈ pTB := pT 236 (by decide +kernel) rfl
abbrev b_O_type : ByteArray := prog_5_method_5_code
def y_O_type : MethodName := ⟨R_O, "type", "(I)I"⟩
abbrev m_O_type : pMD := (y_O_type, b_O_type, 1, (some .int), { frames := 1, cells := 0, slots := 0, locals := 40 })
theorem wc_O_type : Cond.code y_O_type b_O_type 1 (some .int) ∈ pTB := pT 240 (by decide +kernel) rfl
theorem ws_O_type : Cond.static y_O_type ∈ pTB := pT 239 (by decide +kernel) rfl
abbrev b_O_binds : ByteArray := prog_5_method_6_code
def y_O_binds : MethodName := ⟨R_O, "binds", "(I)Z"⟩
abbrev m_O_binds : pMD := (y_O_binds, b_O_binds, 2, (some .boolean), { frames := 1, cells := 0, slots := 0, locals := 40 })
theorem wc_O_binds : Cond.code y_O_binds b_O_binds 2 (some .boolean) ∈ pTB := pT 305 (by decide +kernel) rfl
theorem ws_O_binds : Cond.static y_O_binds ∈ pTB := pT 304 (by decide +kernel) rfl
abbrev b_O_parts : ByteArray := prog_5_method_7_code
def y_O_parts : MethodName := ⟨R_O, "parts", "(I)I"⟩
abbrev m_O_parts : pMD := (y_O_parts, b_O_parts, 2, (some .int), { frames := 1, cells := 0, slots := 0, locals := 40 })
theorem wc_O_parts : Cond.code y_O_parts b_O_parts 2 (some .int) ∈ pTB := pT 275 (by decide +kernel) rfl
theorem ws_O_parts : Cond.static y_O_parts ∈ pTB := pT 274 (by decide +kernel) rfl
abbrev b_O_letter : ByteArray := prog_5_method_8_code
def y_O_letter : MethodName := ⟨R_O, "letter", "(I)I"⟩
abbrev m_O_letter : pMD := (y_O_letter, b_O_letter, 1, (some .int), { frames := 2, cells := 0, slots := 0, locals := 80 })
theorem wc_O_letter : Cond.code y_O_letter b_O_letter 1 (some .int) ∈ pTB := pT 463 (by decide +kernel) rfl
theorem ws_O_letter : Cond.static y_O_letter ∈ pTB := pT 462 (by decide +kernel) rfl
abbrev b_O_showsType : ByteArray := prog_5_method_9_code
def y_O_showsType : MethodName := ⟨R_O, "showsType", "(I)Z"⟩
abbrev m_O_showsType : pMD := (y_O_showsType, b_O_showsType, 1, (some .boolean), { frames := 2, cells := 0, slots := 0, locals := 80 })
theorem wc_O_showsType : Cond.code y_O_showsType b_O_showsType 1 (some .boolean) ∈ pTB := pT 468 (by decide +kernel) rfl
theorem ws_O_showsType : Cond.static y_O_showsType ∈ pTB := pT 467 (by decide +kernel) rfl
abbrev b_O_typeLetter : ByteArray := prog_5_method_10_code
def y_O_typeLetter : MethodName := ⟨R_O, "typeLetter", "(I)I"⟩
abbrev m_O_typeLetter : pMD := (y_O_typeLetter, b_O_typeLetter, 1, (some .int), { frames := 2, cells := 0, slots := 0, locals := 80 })
theorem wc_O_typeLetter : Cond.code y_O_typeLetter b_O_typeLetter 1 (some .int) ∈ pTB := pT 472 (by decide +kernel) rfl
theorem ws_O_typeLetter : Cond.static y_O_typeLetter ∈ pTB := pT 471 (by decide +kernel) rfl
abbrev b_T_init : ByteArray := prog_6_method_1_code
def y_T_init : MethodName := ⟨R_T, "<init>", "()V"⟩
abbrev m_T_init : pMD := (y_T_init, b_T_init, 2, none, { frames := 1, cells := 2, slots := 32, locals := 40 })
theorem wc_T_init : Cond.code y_T_init b_T_init 2 none ∈ pTB := pT 67 (by decide +kernel) rfl
theorem wi_T_init : Cond.instanceMethod y_T_init ∈ pTB := pT 66 (by decide +kernel) rfl
abbrev b_T_count : ByteArray := prog_6_method_2_code
def y_T_count : MethodName := ⟨R_T, "count", "()I"⟩
abbrev m_T_count : pMD := (y_T_count, b_T_count, 1, (some .int), { frames := 1, cells := 0, slots := 0, locals := 40 })
theorem wc_T_count : Cond.code y_T_count b_T_count 1 (some .int) ∈ pTB := pT 288 (by decide +kernel) rfl
theorem wi_T_count : Cond.instanceMethod y_T_count ∈ pTB := pT 286 (by decide +kernel) rfl
theorem wl_T_count : Cond.selects R_T y_T_count y_T_count ∈ pTB := pT 287 (by decide +kernel) rfl
abbrev b_T_has : ByteArray := prog_6_method_3_code
def y_T_has : MethodName := ⟨R_T, "has", "(I)Z"⟩
abbrev m_T_has : pMD := (y_T_has, b_T_has, 2, (some .boolean), { frames := 1, cells := 0, slots := 0, locals := 40 })
theorem wc_T_has : Cond.code y_T_has b_T_has 2 (some .boolean) ∈ pTB := pT 167 (by decide +kernel) rfl
theorem wi_T_has : Cond.instanceMethod y_T_has ∈ pTB := pT 165 (by decide +kernel) rfl
theorem wl_T_has : Cond.selects R_T y_T_has y_T_has ∈ pTB := pT 166 (by decide +kernel) rfl
abbrev b_T_takes : ByteArray := prog_6_method_4_code
def y_T_takes : MethodName := ⟨R_T, "takes", "(II)Z"⟩
abbrev m_T_takes : pMD := (y_T_takes, b_T_takes, 3, (some .boolean), { frames := 1, cells := 0, slots := 0, locals := 40 })
theorem wc_T_takes : Cond.code y_T_takes b_T_takes 3 (some .boolean) ∈ pTB := pT 256 (by decide +kernel) rfl
theorem wi_T_takes : Cond.instanceMethod y_T_takes ∈ pTB := pT 254 (by decide +kernel) rfl
theorem wl_T_takes : Cond.selects R_T y_T_takes y_T_takes ∈ pTB := pT 255 (by decide +kernel) rfl
abbrev b_T_result : ByteArray := prog_6_method_5_code
def y_T_result : MethodName := ⟨R_T, "result", "(I)I"⟩
abbrev m_T_result : pMD := (y_T_result, b_T_result, 2, (some .int), { frames := 1, cells := 0, slots := 0, locals := 40 })
theorem wc_T_result : Cond.code y_T_result b_T_result 2 (some .int) ∈ pTB := pT 264 (by decide +kernel) rfl
theorem wi_T_result : Cond.instanceMethod y_T_result ∈ pTB := pT 262 (by decide +kernel) rfl
theorem wl_T_result : Cond.selects R_T y_T_result y_T_result ∈ pTB := pT 263 (by decide +kernel) rfl
abbrev b_T_numberOf : ByteArray := prog_6_method_6_code
def y_T_numberOf : MethodName := ⟨R_T, "numberOf", "(II)I"⟩
abbrev m_T_numberOf : pMD := (y_T_numberOf, b_T_numberOf, 4, (some .int), { frames := 1, cells := 0, slots := 0, locals := 40 })
theorem wc_T_numberOf : Cond.code y_T_numberOf b_T_numberOf 4 (some .int) ∈ pTB := pT 171 (by decide +kernel) rfl
theorem wi_T_numberOf : Cond.instanceMethod y_T_numberOf ∈ pTB := pT 169 (by decide +kernel) rfl
theorem wl_T_numberOf : Cond.selects R_T y_T_numberOf y_T_numberOf ∈ pTB := pT 170 (by decide +kernel) rfl
abbrev b_T_cutTo : ByteArray := prog_6_method_7_code
def y_T_cutTo : MethodName := ⟨R_T, "cutTo", "(I)V"⟩
abbrev m_T_cutTo : pMD := (y_T_cutTo, b_T_cutTo, 2, none, { frames := 1, cells := 0, slots := 0, locals := 40 })
theorem wc_T_cutTo : Cond.code y_T_cutTo b_T_cutTo 2 none ∈ pTB := pT 318 (by decide +kernel) rfl
theorem wi_T_cutTo : Cond.instanceMethod y_T_cutTo ∈ pTB := pT 316 (by decide +kernel) rfl
theorem wl_T_cutTo : Cond.selects R_T y_T_cutTo y_T_cutTo ∈ pTB := pT 317 (by decide +kernel) rfl
theorem lc_L_7 : Cond.classLink R_L 7 R_K ∈ pTB := pT 55 (by decide +kernel) rfl
theorem lm_L_9 : Cond.methodLink R_L 9 y_K_init ∈ pTB := pT 57 (by decide +kernel) rfl
theorem lm_K_1 : Cond.methodLink R_K 1 objectInit ∈ pTB := pT 60 (by decide +kernel) rfl
theorem lc_K_7 : Cond.classLink R_K 7 R_T ∈ pTB := pT 63 (by decide +kernel) rfl
theorem lm_K_9 : Cond.methodLink R_K 9 y_T_init ∈ pTB := pT 65 (by decide +kernel) rfl
theorem lm_T_3 : Cond.methodLink R_T 3 objectInit ∈ pTB := pT 68 (by decide +kernel) rfl
theorem lf_T_9 : Cond.fieldLink R_T 9 "ProofKernel$Types" "from" "[I" ∈ pTB := pT 69 (by decide +kernel) rfl
theorem lf_T_15 : Cond.fieldLink R_T 15 "ProofKernel$Types" "to" "[I" ∈ pTB := pT 70 (by decide +kernel) rfl
theorem lf_T_18 : Cond.fieldLink R_T 18 "ProofKernel$Types" "count" "I" ∈ pTB := pT 71 (by decide +kernel) rfl
theorem lc_K_16 : Cond.classLink R_K 16 R_S ∈ pTB := pT 80 (by decide +kernel) rfl
theorem nm_K_18 : Cond.methodLinkNest R_K 18 y_S_init "ProofKernel" ∈ lw_tbl := List.mem_of_getElem? (i := 82) (by decide +kernel)
theorem lm_S_3 : Cond.methodLink R_S 3 objectInit ∈ pTB := pT 85 (by decide +kernel) rfl
theorem lf_S_9 : Cond.fieldLink R_S 9 "ProofKernel$Shelf" "tokens" "[I" ∈ pTB := pT 86 (by decide +kernel) rfl
theorem lf_S_15 : Cond.fieldLink R_S 15 "ProofKernel$Shelf" "lengths" "[I" ∈ pTB := pT 87 (by decide +kernel) rfl
theorem lf_S_18 : Cond.fieldLink R_S 18 "ProofKernel$Shelf" "count" "I" ∈ pTB := pT 88 (by decide +kernel) rfl
theorem lc_K_23 : Cond.classLink R_K 23 R_D ∈ pTB := pT 96 (by decide +kernel) rfl
theorem lm_K_25 : Cond.methodLink R_K 25 y_D_init ∈ pTB := pT 98 (by decide +kernel) rfl
theorem lm_D_3 : Cond.methodLink R_D 3 objectInit ∈ pTB := pT 101 (by decide +kernel) rfl
theorem lf_D_18 : Cond.fieldLink R_D 18 "ProofKernel$Draft" "shelf" "LProofKernel$Shelf;" ∈ pTB := pT 102 (by decide +kernel) rfl
theorem lf_D_9 : Cond.fieldLink R_D 9 "ProofKernel$Draft" "row" "[I" ∈ pTB := pT 103 (by decide +kernel) rfl
theorem lf_D_22 : Cond.fieldLink R_D 22 "ProofKernel$Draft" "length" "I" ∈ pTB := pT 104 (by decide +kernel) rfl
theorem lf_D_15 : Cond.fieldLink R_D 15 "ProofKernel$Draft" "depths" "[I" ∈ pTB := pT 105 (by decide +kernel) rfl
theorem lf_D_69 : Cond.fieldLink R_D 69 "ProofKernel$Draft" "waiting" "I" ∈ pTB := pT 106 (by decide +kernel) rfl
theorem lc_K_32 : Cond.classLink R_K 32 R_B ∈ pTB := pT 118 (by decide +kernel) rfl
theorem nm_K_34 : Cond.methodLinkNest R_K 34 y_B_init "ProofKernel" ∈ lw_tbl := List.mem_of_getElem? (i := 120) (by decide +kernel)
theorem lm_B_3 : Cond.methodLink R_B 3 objectInit ∈ pTB := pT 123 (by decide +kernel) rfl
theorem lf_B_9 : Cond.fieldLink R_B 9 "ProofKernel$Book" "assumed" "[J" ∈ pTB := pT 124 (by decide +kernel) rfl
theorem lf_B_15 : Cond.fieldLink R_B 15 "ProofKernel$Book" "conclusions" "[I" ∈ pTB := pT 125 (by decide +kernel) rfl
theorem lf_B_19 : Cond.fieldLink R_B 19 "ProofKernel$Book" "rules" "[I" ∈ pTB := pT 126 (by decide +kernel) rfl
theorem lf_B_22 : Cond.fieldLink R_B 22 "ProofKernel$Book" "namedByX" "[I" ∈ pTB := pT 127 (by decide +kernel) rfl
theorem lf_B_25 : Cond.fieldLink R_B 25 "ProofKernel$Book" "namedByY" "[I" ∈ pTB := pT 128 (by decide +kernel) rfl
theorem lf_B_31 : Cond.fieldLink R_B 31 "ProofKernel$Book" "count" "I" ∈ pTB := pT 129 (by decide +kernel) rfl
theorem lf_B_28 : Cond.fieldLink R_B 28 "ProofKernel$Book" "stepsUpTo" "[I" ∈ pTB := pT 130 (by decide +kernel) rfl
theorem lf_K_10 : Cond.fieldLink R_K 10 "ProofKernel" "types" "LProofKernel$Types;" ∈ pTB := pT 147 (by decide +kernel) rfl
theorem lf_K_19 : Cond.fieldLink R_K 19 "ProofKernel" "shelf" "LProofKernel$Shelf;" ∈ pTB := pT 148 (by decide +kernel) rfl
theorem lf_K_28 : Cond.fieldLink R_K 28 "ProofKernel" "draft" "LProofKernel$Draft;" ∈ pTB := pT 149 (by decide +kernel) rfl
theorem lf_K_35 : Cond.fieldLink R_K 35 "ProofKernel" "book" "LProofKernel$Book;" ∈ pTB := pT 150 (by decide +kernel) rfl
theorem lm_L_13 : Cond.methodLink R_L 13 y_K_arrow ∈ pTB := pT 160 (by decide +kernel) rfl
theorem lm_K_39 : Cond.methodLink R_K 39 y_T_has ∈ pTB := pT 164 (by decide +kernel) rfl
theorem lm_K_43 : Cond.methodLink R_K 43 y_T_numberOf ∈ pTB := pT 168 (by decide +kernel) rfl
theorem lm_L_18 : Cond.methodLink R_L 18 y_K_variable ∈ pTB := pT 172 (by decide +kernel) rfl
theorem lm_K_47 : Cond.methodLink R_K 47 y_D_clear ∈ pTB := pT 176 (by decide +kernel) rfl
theorem lm_K_50 : Cond.methodLink R_K 50 y_O_of ∈ pTB := pT 180 (by decide +kernel) rfl
theorem lm_K_56 : Cond.methodLink R_K 56 y_D_add ∈ pTB := pT 183 (by decide +kernel) rfl
theorem lm_K_60 : Cond.methodLink R_K 60 y_S_keep ∈ pTB := pT 187 (by decide +kernel) rfl
theorem lm_S_37 : Cond.methodLink R_S 37 y_D_isTooLarge ∈ pTB := pT 191 (by decide +kernel) rfl
theorem lm_S_43 : Cond.methodLink R_S 43 y_D_length ∈ pTB := pT 195 (by decide +kernel) rfl
theorem lm_S_34 : Cond.methodLink R_S 34 y_S_start ∈ pTB := pT 199 (by decide +kernel) rfl
theorem lm_S_47 : Cond.methodLink R_S 47 y_D_isAt ∈ pTB := pT 203 (by decide +kernel) rfl
theorem lm_D_32 : Cond.methodLink R_D 32 y_S_token ∈ pTB := pT 207 (by decide +kernel) rfl
theorem lm_S_51 : Cond.methodLink R_S 51 y_D_copyTo ∈ pTB := pT 211 (by decide +kernel) rfl
theorem lm_D_63 : Cond.methodLink R_D 63 arraycopyName ∈ pTB := pT 215 (by decide +kernel) rfl
theorem lm_L_22 : Cond.methodLink R_L 22 y_K_constant ∈ pTB := pT 218 (by decide +kernel) rfl
theorem lm_K_64 : Cond.methodLink R_K 64 y_K_declaredType ∈ pTB := pT 222 (by decide +kernel) rfl
theorem lm_K_131 : Cond.methodLink R_K 131 y_S_count ∈ pTB := pT 226 (by decide +kernel) rfl
theorem lm_K_69 : Cond.methodLink R_K 69 y_S_start ∈ pTB := pT 230 (by decide +kernel) rfl
theorem lm_K_90 : Cond.methodLink R_K 90 y_S_token ∈ pTB := pT 231 (by decide +kernel) rfl
theorem lm_K_167 : Cond.methodLink R_K 167 y_O_tag ∈ pTB := pT 232 (by decide +kernel) rfl
theorem lm_K_170 : Cond.methodLink R_K 170 y_O_info ∈ pTB := pT 235 (by decide +kernel) rfl
theorem lm_K_164 : Cond.methodLink R_K 164 y_O_type ∈ pTB := pT 238 (by decide +kernel) rfl
theorem lm_L_26 : Cond.methodLink R_L 26 y_K_apply ∈ pTB := pT 241 (by decide +kernel) rfl
theorem lm_K_68 : Cond.methodLink R_K 68 y_S_has ∈ pTB := pT 245 (by decide +kernel) rfl
theorem lm_K_72 : Cond.methodLink R_K 72 y_K_typeAt ∈ pTB := pT 249 (by decide +kernel) rfl
theorem lm_K_75 : Cond.methodLink R_K 75 y_T_takes ∈ pTB := pT 253 (by decide +kernel) rfl
theorem lm_K_79 : Cond.methodLink R_K 79 y_K_draftApplication ∈ pTB := pT 257 (by decide +kernel) rfl
theorem lm_K_173 : Cond.methodLink R_K 173 y_T_result ∈ pTB := pT 261 (by decide +kernel) rfl
theorem lm_K_176 : Cond.methodLink R_K 176 y_D_addPart ∈ pTB := pT 265 (by decide +kernel) rfl
theorem lm_D_26 : Cond.methodLink R_D 26 y_S_behind ∈ pTB := pT 269 (by decide +kernel) rfl
theorem lm_S_26 : Cond.methodLink R_S 26 y_O_parts ∈ pTB := pT 273 (by decide +kernel) rfl
theorem lm_D_35 : Cond.methodLink R_D 35 y_D_add ∈ pTB := pT 276 (by decide +kernel) rfl
theorem lm_L_30 : Cond.methodLink R_L 30 y_K_bind ∈ pTB := pT 277 (by decide +kernel) rfl
theorem lm_K_83 : Cond.methodLink R_K 83 y_K_isA ∈ pTB := pT 281 (by decide +kernel) rfl
theorem lm_K_86 : Cond.methodLink R_K 86 y_T_count ∈ pTB := pT 285 (by decide +kernel) rfl
theorem lm_K_93 : Cond.methodLink R_K 93 y_D_addBinder ∈ pTB := pT 289 (by decide +kernel) rfl
theorem lm_D_39 : Cond.methodLink R_D 39 y_O_type ∈ pTB := pT 293 (by decide +kernel) rfl
theorem lm_D_44 : Cond.methodLink R_D 44 y_O_of ∈ pTB := pT 294 (by decide +kernel) rfl
theorem lm_D_48 : Cond.methodLink R_D 48 y_D_beginWalk ∈ pTB := pT 295 (by decide +kernel) rfl
theorem lm_D_51 : Cond.methodLink R_D 51 y_D_walkOver ∈ pTB := pT 299 (by decide +kernel) rfl
theorem lm_D_72 : Cond.methodLink R_D 72 y_O_binds ∈ pTB := pT 303 (by decide +kernel) rfl
theorem lm_D_76 : Cond.methodLink R_D 76 y_O_parts ∈ pTB := pT 306 (by decide +kernel) rfl
theorem lm_K_97 : Cond.methodLink R_K 97 y_K_draftAbstraction ∈ pTB := pT 307 (by decide +kernel) rfl
theorem lm_K_179 : Cond.methodLink R_K 179 y_D_spoil ∈ pTB := pT 311 (by decide +kernel) rfl
theorem lm_K_100 : Cond.methodLink R_K 100 y_T_cutTo ∈ pTB := pT 315 (by decide +kernel) rfl
theorem lm_L_35 : Cond.methodLink R_L 35 y_K_join ∈ pTB := pT 319 (by decide +kernel) rfl
theorem lm_K_103 : Cond.methodLink R_K 103 y_K_draftJoint ∈ pTB := pT 323 (by decide +kernel) rfl
theorem lm_L_39 : Cond.methodLink R_L 39 y_K_rule ∈ pTB := pT 327 (by decide +kernel) rfl
theorem lf_K_107 : Cond.fieldLink R_K 107 "ProofKernel" "NAMED_BY_X" "[I" ∈ pTB := pT 331 (by decide +kernel) rfl
theorem lm_K_111 : Cond.methodLink R_K 111 y_K_isThere ∈ pTB := pT 333 (by decide +kernel) rfl
theorem lm_K_148 : Cond.methodLink R_K 148 y_B_has ∈ pTB := pT 337 (by decide +kernel) rfl
theorem lf_K_114 : Cond.fieldLink R_K 114 "ProofKernel" "NAMED_BY_Y" "[I" ∈ pTB := pT 341 (by decide +kernel) rfl
theorem lm_K_117 : Cond.methodLink R_K 117 y_K_isAsTheRuleSays ∈ pTB := pT 343 (by decide +kernel) rfl
theorem lm_K_182 : Cond.methodLink R_K 182 y_K_startOf ∈ pTB := pT 347 (by decide +kernel) rfl
theorem lm_K_149 : Cond.methodLink R_K 149 y_B_conclusionOf ∈ pTB := pT 351 (by decide +kernel) rfl
theorem lm_K_185 : Cond.methodLink R_K 185 y_S_firstPart ∈ pTB := pT 355 (by decide +kernel) rfl
theorem lm_K_188 : Cond.methodLink R_K 188 y_S_same ∈ pTB := pT 359 (by decide +kernel) rfl
theorem lm_S_22 : Cond.methodLink R_S 22 y_S_behind ∈ pTB := pT 363 (by decide +kernel) rfl
theorem lm_S_31 : Cond.methodLink R_S 31 y_S_token ∈ pTB := pT 364 (by decide +kernel) rfl
theorem lm_K_191 : Cond.methodLink R_K 191 y_S_secondPart ∈ pTB := pT 365 (by decide +kernel) rfl
theorem lm_K_121 : Cond.methodLink R_K 121 y_K_bindsWhatIsAssumed ∈ pTB := pT 369 (by decide +kernel) rfl
theorem lm_K_152 : Cond.methodLink R_K 152 y_B_hypothesesOf ∈ pTB := pT 373 (by decide +kernel) rfl
theorem lm_K_194 : Cond.methodLink R_K 194 y_K_isIn ∈ pTB := pT 377 (by decide +kernel) rfl
theorem lm_K_136 : Cond.methodLink R_K 136 y_S_holds ∈ pTB := pT 380 (by decide +kernel) rfl
theorem lm_K_124 : Cond.methodLink R_K 124 y_B_isFull ∈ pTB := pT 384 (by decide +kernel) rfl
theorem lm_K_128 : Cond.methodLink R_K 128 y_K_derive ∈ pTB := pT 388 (by decide +kernel) rfl
theorem lm_K_198 : Cond.methodLink R_K 198 y_K_substitutedHypotheses ∈ pTB := pT 392 (by decide +kernel) rfl
theorem lm_K_215 : Cond.methodLink R_K 215 y_K_draftSubstituted ∈ pTB := pT 396 (by decide +kernel) rfl
theorem lm_K_218 : Cond.methodLink R_K 218 y_D_addReplacing ∈ pTB := pT 400 (by decide +kernel) rfl
theorem lm_D_60 : Cond.methodLink R_D 60 y_D_addPart ∈ pTB := pT 404 (by decide +kernel) rfl
theorem lk_K_206 : Cond.constantLong R_K 206 (-4) ∈ pTB := pT 405 (by decide +kernel) rfl
theorem lm_K_202 : Cond.methodLink R_K 202 y_K_joinedHypotheses ∈ pTB := pT 406 (by decide +kernel) rfl
theorem lk_K_156 : Cond.constantLong R_K 156 (-1) ∈ pTB := pT 410 (by decide +kernel) rfl
theorem lm_K_208 : Cond.methodLink R_K 208 y_K_draftConclusion ∈ pTB := pT 411 (by decide +kernel) rfl
theorem lm_K_221 : Cond.methodLink R_K 221 y_D_addFilling ∈ pTB := pT 415 (by decide +kernel) rfl
theorem lm_D_54 : Cond.methodLink R_D 54 y_O_tag ∈ pTB := pT 419 (by decide +kernel) rfl
theorem lm_D_57 : Cond.methodLink R_D 57 y_O_info ∈ pTB := pT 420 (by decide +kernel) rfl
theorem lm_K_211 : Cond.methodLink R_K 211 y_S_cutTo ∈ pTB := pT 421 (by decide +kernel) rfl
theorem lm_K_212 : Cond.methodLink R_K 212 y_B_add ∈ pTB := pT 425 (by decide +kernel) rfl
theorem lm_L_44 : Cond.methodLink R_L 44 y_K_terms ∈ pTB := pT 429 (by decide +kernel) rfl
theorem lm_L_49 : Cond.methodLink R_L 49 y_K_theorems ∈ pTB := pT 433 (by decide +kernel) rfl
theorem lm_K_132 : Cond.methodLink R_K 132 y_B_count ∈ pTB := pT 437 (by decide +kernel) rfl
theorem lm_L_53 : Cond.methodLink R_L 53 y_K_typeOf ∈ pTB := pT 441 (by decide +kernel) rfl
theorem lm_L_58 : Cond.methodLink R_L 58 y_K_size ∈ pTB := pT 445 (by decide +kernel) rfl
theorem lm_K_133 : Cond.methodLink R_K 133 y_S_length ∈ pTB := pT 449 (by decide +kernel) rfl
theorem lm_L_62 : Cond.methodLink R_L 62 y_K_free ∈ pTB := pT 453 (by decide +kernel) rfl
theorem lm_L_67 : Cond.methodLink R_L 67 y_K_printed ∈ pTB := pT 457 (by decide +kernel) rfl
theorem lm_K_139 : Cond.methodLink R_K 139 y_O_letter ∈ pTB := pT 461 (by decide +kernel) rfl
theorem lm_O_11 : Cond.methodLink R_O 11 y_O_tag ∈ pTB := pT 464 (by decide +kernel) rfl
theorem lm_O_15 : Cond.methodLink R_O 15 y_O_info ∈ pTB := pT 465 (by decide +kernel) rfl
theorem lm_K_142 : Cond.methodLink R_K 142 y_O_showsType ∈ pTB := pT 466 (by decide +kernel) rfl
theorem lm_O_18 : Cond.methodLink R_O 18 y_O_binds ∈ pTB := pT 469 (by decide +kernel) rfl
theorem lm_K_145 : Cond.methodLink R_K 145 y_O_typeLetter ∈ pTB := pT 470 (by decide +kernel) rfl
theorem lm_O_22 : Cond.methodLink R_O 22 y_O_type ∈ pTB := pT 473 (by decide +kernel) rfl
theorem lm_L_71 : Cond.methodLink R_L 71 y_K_conclusion ∈ pTB := pT 474 (by decide +kernel) rfl
theorem lm_L_75 : Cond.methodLink R_L 75 y_K_hypotheses ∈ pTB := pT 478 (by decide +kernel) rfl
theorem lm_L_80 : Cond.methodLink R_L 80 y_K_axioms ∈ pTB := pT 482 (by decide +kernel) rfl
theorem lm_K_158 : Cond.methodLink R_K 158 y_B_axiomsOf ∈ pTB := pT 486 (by decide +kernel) rfl
theorem nm_B_35 : Cond.methodLinkNest R_B 35 y_K_isIn "ProofKernel" ∈ lw_tbl := List.mem_of_getElem? (i := 490) (by decide +kernel)
theorem lm_B_39 : Cond.methodLink R_B 39 y_B_firstPremise ∈ pTB := pT 491 (by decide +kernel) rfl
theorem nf_B_60 : Cond.fieldLinkNest R_B 60 "ProofKernel" "NAMED_BY_X" "[I" "ProofKernel" ∈ lw_tbl := List.mem_of_getElem? (i := 495) (by decide +kernel)
theorem lm_B_43 : Cond.methodLink R_B 43 y_B_setOf ∈ pTB := pT 496 (by decide +kernel) rfl
theorem lm_B_47 : Cond.methodLink R_B 47 y_B_secondPremise ∈ pTB := pT 499 (by decide +kernel) rfl
theorem nf_B_63 : Cond.fieldLinkNest R_B 63 "ProofKernel" "NAMED_BY_Y" "[I" "ProofKernel" ∈ lw_tbl := List.mem_of_getElem? (i := 503) (by decide +kernel)
theorem lm_L_84 : Cond.methodLink R_L 84 y_K_steps ∈ pTB := pT 504 (by decide +kernel) rfl
theorem lm_K_161 : Cond.methodLink R_K 161 y_B_stepsOf ∈ pTB := pT 508 (by decide +kernel) rfl
theorem lm_B_50 : Cond.methodLink R_B 50 y_B_stepsBefore ∈ pTB := pT 512 (by decide +kernel) rfl
theorem lk_B_53 : Cond.constant R_B 53 1000000 ∈ pTB := pT 516 (by decide +kernel) rfl
theorem lm_B_54 : Cond.methodLink R_B 54 Lib.Math.min.name ∈ pTB := pT 517 (by decide +kernel) rfl
theorem lc_L_10 : Cond.classLink R_L 10 R_M ∈ pTB := pT 520 (by decide +kernel) rfl
theorem lm_L_12 : Cond.methodLink R_L 12 y_M_init ∈ pTB := pT 522 (by decide +kernel) rfl
theorem lm_M_1 : Cond.methodLink R_M 1 objectInit ∈ pTB := pT 525 (by decide +kernel) rfl
theorem lf_M_7 : Cond.fieldLink R_M 7 "ProofKernelModel" "row" "[I" ∈ pTB := pT 526 (by decide +kernel) rfl
theorem lf_M_65 : Cond.fieldLink R_M 65 "ProofKernelModel" "made" "I" ∈ pTB := pT 527 (by decide +kernel) rfl
theorem lf_M_78 : Cond.fieldLink R_M 78 "ProofKernelModel" "terms" "I" ∈ pTB := pT 528 (by decide +kernel) rfl
theorem lf_M_13 : Cond.fieldLink R_M 13 "ProofKernelModel" "length" "[I" ∈ pTB := pT 529 (by decide +kernel) rfl
theorem lf_M_16 : Cond.fieldLink R_M 16 "ProofKernelModel" "sort" "[I" ∈ pTB := pT 530 (by decide +kernel) rfl
theorem lf_M_19 : Cond.fieldLink R_M 19 "ProofKernelModel" "kind" "[I" ∈ pTB := pT 531 (by decide +kernel) rfl
theorem lf_M_22 : Cond.fieldLink R_M 22 "ProofKernelModel" "types" "I" ∈ pTB := pT 532 (by decide +kernel) rfl
theorem lf_M_26 : Cond.fieldLink R_M 26 "ProofKernelModel" "from" "[I" ∈ pTB := pT 533 (by decide +kernel) rfl
theorem lf_M_29 : Cond.fieldLink R_M 29 "ProofKernelModel" "to" "[I" ∈ pTB := pT 534 (by decide +kernel) rfl
theorem lf_M_32 : Cond.fieldLink R_M 32 "ProofKernelModel" "declared" "[I" ∈ pTB := pT 535 (by decide +kernel) rfl
theorem lf_M_115 : Cond.fieldLink R_M 115 "ProofKernelModel" "theorems" "I" ∈ pTB := pT 536 (by decide +kernel) rfl
theorem lf_M_35 : Cond.fieldLink R_M 35 "ProofKernelModel" "hypotheses" "[J" ∈ pTB := pT 537 (by decide +kernel) rfl
theorem lf_M_39 : Cond.fieldLink R_M 39 "ProofKernelModel" "conclusion" "[I" ∈ pTB := pT 538 (by decide +kernel) rfl
theorem lf_M_42 : Cond.fieldLink R_M 42 "ProofKernelModel" "axioms" "[J" ∈ pTB := pT 539 (by decide +kernel) rfl
theorem lf_M_45 : Cond.fieldLink R_M 45 "ProofKernelModel" "steps" "[I" ∈ pTB := pT 540 (by decide +kernel) rfl
theorem lf_M_118 : Cond.fieldLink R_M 118 "ProofKernelModel" "set" "J" ∈ pTB := pT 541 (by decide +kernel) rfl
theorem lf_M_48 : Cond.fieldLink R_M 48 "ProofKernelModel" "text" "[I" ∈ pTB := pT 542 (by decide +kernel) rfl
theorem lf_M_162 : Cond.fieldLink R_M 162 "ProofKernelModel" "size" "I" ∈ pTB := pT 543 (by decide +kernel) rfl
theorem lm_L_17 : Cond.methodLink R_L 17 y_M_arrow ∈ pTB := pT 581 (by decide +kernel) rfl
theorem lm_M_92 : Cond.methodLink R_M 92 y_M_isType ∈ pTB := pT 585 (by decide +kernel) rfl
theorem lm_M_61 : Cond.methodLink R_M 61 y_M_find ∈ pTB := pT 589 (by decide +kernel) rfl
theorem lm_L_21 : Cond.methodLink R_L 21 y_M_variable ∈ pTB := pT 593 (by decide +kernel) rfl
theorem lm_M_68 : Cond.methodLink R_M 68 y_M_put ∈ pTB := pT 597 (by decide +kernel) rfl
theorem lm_M_95 : Cond.methodLink R_M 95 y_M_keep ∈ pTB := pT 601 (by decide +kernel) rfl
theorem lm_M_81 : Cond.methodLink R_M 81 y_M_same ∈ pTB := pT 605 (by decide +kernel) rfl
theorem lm_M_55 : Cond.methodLink R_M 55 y_M_end ∈ pTB := pT 609 (by decide +kernel) rfl
theorem lm_M_51 : Cond.methodLink R_M 51 y_M_parts ∈ pTB := pT 613 (by decide +kernel) rfl
theorem lm_M_85 : Cond.methodLink R_M 85 y_M_typesAt ∈ pTB := pT 616 (by decide +kernel) rfl
theorem lm_M_58 : Cond.methodLink R_M 58 y_M_binder ∈ pTB := pT 620 (by decide +kernel) rfl
theorem lm_L_25 : Cond.methodLink R_L 25 y_M_constant ∈ pTB := pT 624 (by decide +kernel) rfl
theorem lm_L_29 : Cond.methodLink R_L 29 y_M_apply ∈ pTB := pT 628 (by decide +kernel) rfl
theorem lm_M_99 : Cond.methodLink R_M 99 y_M_isTerm ∈ pTB := pT 632 (by decide +kernel) rfl
theorem lm_M_102 : Cond.methodLink R_M 102 y_M_fits ∈ pTB := pT 636 (by decide +kernel) rfl
theorem lm_M_72 : Cond.methodLink R_M 72 y_M_copy ∈ pTB := pT 640 (by decide +kernel) rfl
theorem lm_L_34 : Cond.methodLink R_L 34 y_M_bind ∈ pTB := pT 644 (by decide +kernel) rfl
theorem lm_M_105 : Cond.methodLink R_M 105 y_M_isVariableTerm ∈ pTB := pT 648 (by decide +kernel) rfl
theorem lm_M_88 : Cond.methodLink R_M 88 y_M_isVariable ∈ pTB := pT 652 (by decide +kernel) rfl
theorem lm_M_108 : Cond.methodLink R_M 108 y_M_arrow ∈ pTB := pT 655 (by decide +kernel) rfl
theorem lm_M_111 : Cond.methodLink R_M 111 y_M_copyWith ∈ pTB := pT 656 (by decide +kernel) rfl
theorem lm_M_75 : Cond.methodLink R_M 75 y_M_depth ∈ pTB := pT 660 (by decide +kernel) rfl
theorem lm_L_38 : Cond.methodLink R_L 38 y_M_join ∈ pTB := pT 664 (by decide +kernel) rfl
theorem lm_L_43 : Cond.methodLink R_L 43 y_M_rule ∈ pTB := pT 668 (by decide +kernel) rfl
theorem lm_M_148 : Cond.methodLink R_M 148 y_M_there ∈ pTB := pT 672 (by decide +kernel) rfl
theorem lm_M_125 : Cond.methodLink R_M 125 y_M_named ∈ pTB := pT 676 (by decide +kernel) rfl
theorem lm_M_128 : Cond.methodLink R_M 128 y_M_isTheorem ∈ pTB := pT 679 (by decide +kernel) rfl
theorem lm_M_152 : Cond.methodLink R_M 152 y_M_substitute ∈ pTB := pT 683 (by decide +kernel) rfl
theorem lm_M_155 : Cond.methodLink R_M 155 y_M_reason ∈ pTB := pT 687 (by decide +kernel) rfl
theorem lk_M_131 : Cond.constantLong R_M 131 (-1) ∈ pTB := pT 691 (by decide +kernel) rfl
theorem lm_M_133 : Cond.methodLink R_M 133 y_M_freeInSet ∈ pTB := pT 692 (by decide +kernel) rfl
theorem lm_M_122 : Cond.methodLink R_M 122 y_M_isIn ∈ pTB := pT 696 (by decide +kernel) rfl
theorem lm_M_136 : Cond.methodLink R_M 136 y_M_copyOpened ∈ pTB := pT 700 (by decide +kernel) rfl
theorem lm_M_158 : Cond.methodLink R_M 158 y_M_equate ∈ pTB := pT 704 (by decide +kernel) rfl
theorem lm_M_140 : Cond.methodLink R_M 140 y_M_abstraction ∈ pTB := pT 708 (by decide +kernel) rfl
theorem lm_M_144 : Cond.methodLink R_M 144 y_M_two ∈ pTB := pT 712 (by decide +kernel) rfl
theorem lk_M_161 : Cond.constant R_M 161 1000000 ∈ pTB := pT 716 (by decide +kernel) rfl
theorem lm_L_48 : Cond.methodLink R_L 48 y_M_terms ∈ pTB := pT 717 (by decide +kernel) rfl
theorem lm_L_52 : Cond.methodLink R_L 52 y_M_theorems ∈ pTB := pT 721 (by decide +kernel) rfl
theorem lm_L_57 : Cond.methodLink R_L 57 y_M_typeOf ∈ pTB := pT 725 (by decide +kernel) rfl
theorem lm_L_61 : Cond.methodLink R_L 61 y_M_size ∈ pTB := pT 729 (by decide +kernel) rfl
theorem lm_L_66 : Cond.methodLink R_L 66 y_M_free ∈ pTB := pT 733 (by decide +kernel) rfl
theorem lm_L_70 : Cond.methodLink R_L 70 y_M_printed ∈ pTB := pT 737 (by decide +kernel) rfl
theorem lm_M_165 : Cond.methodLink R_M 165 y_M_say ∈ pTB := pT 741 (by decide +kernel) rfl
theorem lm_L_74 : Cond.methodLink R_L 74 y_M_conclusion ∈ pTB := pT 745 (by decide +kernel) rfl
theorem lm_L_79 : Cond.methodLink R_L 79 y_M_hypotheses ∈ pTB := pT 749 (by decide +kernel) rfl
theorem lm_L_83 : Cond.methodLink R_L 83 y_M_axioms ∈ pTB := pT 753 (by decide +kernel) rfl
theorem lm_L_87 : Cond.methodLink R_L 87 y_M_steps ∈ pTB := pT 757 (by decide +kernel) rfl
theorem pw_mm1 : Cond.static Lib.Math.min.name ∈ pTB := pT 518 (by decide +kernel) rfl
theorem pw_mm2 : Cond.initialized "java/lang/Math" ∈ pTB := pT 54 (by decide +kernel) rfl
theorem pw_mm3 : Cond.code Lib.Math.min.name Lib.Math.min.code 2 (some .int) ∈ pTB := pT 519 (by decide +kernel) rfl
theorem pw_ac1 : Cond.native arraycopyName ∈ pTB := pT 217 (by decide +kernel) rfl
theorem pw_ac2 : Cond.static arraycopyName ∈ pTB := pT 216 (by decide +kernel) rfl
theorem pw_ac3 : Cond.initialized "java/lang/System" ∈ pTB := pT 53 (by decide +kernel) rfl
theorem pw_stX : Cond.laysStatic "ProofKernel" "NAMED_BY_X" "[I" ∈ lw_tbl := List.mem_of_getElem? (i := 332) (by decide +kernel)
theorem pw_stY : Cond.laysStatic "ProofKernel" "NAMED_BY_Y" "[I" ∈ lw_tbl := List.mem_of_getElem? (i := 342) (by decide +kernel)
