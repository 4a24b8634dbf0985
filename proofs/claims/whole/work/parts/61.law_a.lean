/-! The law: its loop, its start. By wip/whole/m_law2.py -/
set_option maxRecDepth 100000 in
set_option maxHeartbeats 4000000 in
theorem law_arrow {p : Program} {l : Launch} {e : Env} {s : State} {m : MethodId} {below : List Frame} {meth : Method} {c : Code} {b Ln : Nat} {xs : Nat → Int32} {D : va_G} {cI cJ : ClassId} {A : Nat → Prop} {QQ : State → Prop} {τ : Nat × Nat} (C : pCx (m_law meth.name) τ p s m #[Value.ref b] meth c D cI cJ A) (hX : va_X b Ln xs s s.heap) (hbl : b < s.heap.size) (hbA : ¬ A b) (hL : Ln ≤ 2048) (i : Nat) (hi : i + 4 ≤ Ln) {Ty : List (Nat × Nat)} {Tm : List (List Nat)} {Th : List Thm} {dX dM : List Nat} {aX : Nat → Nat} {iX : Nat → Int32} {rX : Nat → Nat → Int32} {LX : Nat → Int64} {aM : Nat → Nat} {iM : Nat → Int32} {rM : Nat → Nat → Int32} {LM : Nat → Nat → Int64} {zM : Int64} (hXI : XI Ty Tm Th dX iX rX LX) (hMI : MI Ty Tm Th (dcl Tm) dM iM rM LM) (gs : GS Ty Tm Th) (kk : ∀ (Ty : List (Nat × Nat)) (Tm : List (List Nat)) (Th : List Thm) (dX dM : List Nat) (iX : Nat → Int32) (rX : Nat → Nat → Int32) (LX : Nat → Int64) (iM : Nat → Int32) (rM : Nat → Nat → Int32) (LM : Nat → Nat → Int64) (zM : Int64), XI Ty Tm Th dX iX rX LX → MI Ty Tm Th (dcl Tm) dM iM rM LM → GS Ty Tm Th → pH p l e s m #[Value.ref b] below meth c D cI cJ A QQ 30 5664 641 [(3, .int (nI i)), (2, .ref (aM 0)), (1, .ref (aX 0)), (0, .ref b)] [] (wX aX iX rX LX ++ wM aM iM rM LM zM)) : pH p l e s m #[Value.ref b] below meth c D cI cJ A QQ 30 5664 116 [(3, .int (nI i)), (2, .ref (aM 0)), (1, .ref (aX 0)), (0, .ref b)] [] (wX aX iX rX LX ++ wM aM iM rM LM zM) := by
  refine h_aload_n C (pc := 116) d_law_116 rfl ?_
  refine h_aload_n C (pc := 117) d_law_117 rfl ?_
  refine h_iload_n C (pc := 118) d_law_118 rfl ?_
  refine h_iconst C (pc := 119) (v := nI 1) d_law_119 (by decide) ?_
  refine h_nadd C (pc := 120) d_law_120 ?_
  refine h_sld C hX hbl hbA (pc := 121) (v := xs (i + 1)) d_law_121 (vp_in_nI (by omega) (by omega)) (by rw [nI_clamp (by omega)]) ?_
  refine h_aload_n C (pc := 122) d_law_122 rfl ?_
  refine h_iload_n C (pc := 123) d_law_123 rfl ?_
  refine h_iconst C (pc := 124) (v := nI 2) d_law_124 (by decide) ?_
  refine h_nadd C (pc := 125) d_law_125 ?_
  refine h_sld C hX hbl hbA (pc := 126) (v := xs (i + 2)) d_law_126 (vp_in_nI (by omega) (by omega)) (by rw [nI_clamp (by omega)]) ?_
  refine h_callV C (M' := m_K_arrow) (pc := 127) (q := 0) d_law_127 lm_L_13 (c_K_arrow _ _ hXI) v_K_arrow rfl rfl rfl (by decide) rfl (Nat.le_of_ble_eq_true rfl) ?_
  rintro _ _ ⟨iX2, rX2, LX2, dX2, rfl, rfl, hX2⟩
  show pH p l e s m #[Value.ref b] below meth c D cI cJ A QQ 30 5664 130 _ (.int _ :: _) (wX aX iX2 rX2 LX2 ++ wM aM iM rM LM zM)
  refine h_aload_n C (pc := 130) d_law_130 rfl ?_
  refine h_aload_n C (pc := 131) d_law_131 rfl ?_
  refine h_iload_n C (pc := 132) d_law_132 rfl ?_
  refine h_iconst C (pc := 133) (v := nI 1) d_law_133 (by decide) ?_
  refine h_nadd C (pc := 134) d_law_134 ?_
  refine h_sld C hX hbl hbA (pc := 135) (v := xs (i + 1)) d_law_135 (vp_in_nI (by omega) (by omega)) (by rw [nI_clamp (by omega)]) ?_
  refine h_aload_n C (pc := 136) d_law_136 rfl ?_
  refine h_iload_n C (pc := 137) d_law_137 rfl ?_
  refine h_iconst C (pc := 138) (v := nI 2) d_law_138 (by decide) ?_
  refine h_nadd C (pc := 139) d_law_139 ?_
  refine h_sld C hX hbl hbA (pc := 140) (v := xs (i + 2)) d_law_140 (vp_in_nI (by omega) (by omega)) (by rw [nI_clamp (by omega)]) ?_
  refine h_perm C List.perm_append_comm ?_
  refine h_callV C (M' := m_M_arrow) (pc := 141) (q := 0) d_law_141 lm_L_17 (c_M_arrow _ _ hMI) v_M_arrow rfl rfl rfl (by decide) rfl (Nat.le_of_ble_eq_true rfl) ?_
  rintro _ _ ⟨iM2, rM2, rfl, rfl, hM2, -, -⟩
  have gs2 := gs.arrow hMI.b.1 (xs (i + 1)) (xs (i + 2))
  show pH p l e s m #[Value.ref b] below meth c D cI cJ A QQ 30 5664 144 _ (.int _ :: _) (wM aM iM2 rM2 LM zM ++ wX aX iX2 rX2 LX2)
  refine h_perm C List.perm_append_comm ?_
  refine h_icmp_eq C (pc := 144) (tgt := 641) d_law_144 (by decide) (fun _ => ?_) (fun h => absurd rfl h)
  exact kk _ _ _ _ _ _ _ _ _ _ _ _ hX2 hM2 gs2
set_option maxRecDepth 100000 in
set_option maxHeartbeats 4000000 in
theorem law_variable {p : Program} {l : Launch} {e : Env} {s : State} {m : MethodId} {below : List Frame} {meth : Method} {c : Code} {b Ln : Nat} {xs : Nat → Int32} {D : va_G} {cI cJ : ClassId} {A : Nat → Prop} {QQ : State → Prop} {τ : Nat × Nat} (C : pCx (m_law meth.name) τ p s m #[Value.ref b] meth c D cI cJ A) (hX : va_X b Ln xs s s.heap) (hbl : b < s.heap.size) (hbA : ¬ A b) (hL : Ln ≤ 2048) (i : Nat) (hi : i + 4 ≤ Ln) {Ty : List (Nat × Nat)} {Tm : List (List Nat)} {Th : List Thm} {dX dM : List Nat} {aX : Nat → Nat} {iX : Nat → Int32} {rX : Nat → Nat → Int32} {LX : Nat → Int64} {aM : Nat → Nat} {iM : Nat → Int32} {rM : Nat → Nat → Int32} {LM : Nat → Nat → Int64} {zM : Int64} (hXI : XI Ty Tm Th dX iX rX LX) (hMI : MI Ty Tm Th (dcl Tm) dM iM rM LM) (gs : GS Ty Tm Th) (kk : ∀ (Ty : List (Nat × Nat)) (Tm : List (List Nat)) (Th : List Thm) (dX dM : List Nat) (iX : Nat → Int32) (rX : Nat → Nat → Int32) (LX : Nat → Int64) (iM : Nat → Int32) (rM : Nat → Nat → Int32) (LM : Nat → Nat → Int64) (zM : Int64), XI Ty Tm Th dX iX rX LX → MI Ty Tm Th (dcl Tm) dM iM rM LM → GS Ty Tm Th → pH p l e s m #[Value.ref b] below meth c D cI cJ A QQ 30 5664 641 [(3, .int (nI i)), (2, .ref (aM 0)), (1, .ref (aX 0)), (0, .ref b)] [] (wX aX iX rX LX ++ wM aM iM rM LM zM)) : pH p l e s m #[Value.ref b] below meth c D cI cJ A QQ 30 5664 149 [(3, .int (nI i)), (2, .ref (aM 0)), (1, .ref (aX 0)), (0, .ref b)] [] (wX aX iX rX LX ++ wM aM iM rM LM zM) := by
  refine h_aload_n C (pc := 149) d_law_149 rfl ?_
  refine h_aload_n C (pc := 150) d_law_150 rfl ?_
  refine h_iload_n C (pc := 151) d_law_151 rfl ?_
  refine h_iconst C (pc := 152) (v := nI 1) d_law_152 (by decide) ?_
  refine h_nadd C (pc := 153) d_law_153 ?_
  refine h_sld C hX hbl hbA (pc := 154) (v := xs (i + 1)) d_law_154 (vp_in_nI (by omega) (by omega)) (by rw [nI_clamp (by omega)]) ?_
  refine h_aload_n C (pc := 155) d_law_155 rfl ?_
  refine h_iload_n C (pc := 156) d_law_156 rfl ?_
  refine h_iconst C (pc := 157) (v := nI 2) d_law_157 (by decide) ?_
  refine h_nadd C (pc := 158) d_law_158 ?_
  refine h_sld C hX hbl hbA (pc := 159) (v := xs (i + 2)) d_law_159 (vp_in_nI (by omega) (by omega)) (by rw [nI_clamp (by omega)]) ?_
  refine h_callV C (M' := m_K_variable) (pc := 160) (q := 0) d_law_160 lm_L_18 (c_K_variable _ _ hXI) v_K_variable rfl rfl rfl (by decide) rfl (Nat.le_of_ble_eq_true rfl) ?_
  rintro _ _ ⟨iX2, rX2, LX2, dX2, rfl, rfl, hX2⟩
  show pH p l e s m #[Value.ref b] below meth c D cI cJ A QQ 30 5664 163 _ (.int _ :: _) (wX aX iX2 rX2 LX2 ++ wM aM iM rM LM zM)
  refine h_aload_n C (pc := 163) d_law_163 rfl ?_
  refine h_aload_n C (pc := 164) d_law_164 rfl ?_
  refine h_iload_n C (pc := 165) d_law_165 rfl ?_
  refine h_iconst C (pc := 166) (v := nI 1) d_law_166 (by decide) ?_
  refine h_nadd C (pc := 167) d_law_167 ?_
  refine h_sld C hX hbl hbA (pc := 168) (v := xs (i + 1)) d_law_168 (vp_in_nI (by omega) (by omega)) (by rw [nI_clamp (by omega)]) ?_
  refine h_aload_n C (pc := 169) d_law_169 rfl ?_
  refine h_iload_n C (pc := 170) d_law_170 rfl ?_
  refine h_iconst C (pc := 171) (v := nI 2) d_law_171 (by decide) ?_
  refine h_nadd C (pc := 172) d_law_172 ?_
  refine h_sld C hX hbl hbA (pc := 173) (v := xs (i + 2)) d_law_173 (vp_in_nI (by omega) (by omega)) (by rw [nI_clamp (by omega)]) ?_
  refine h_perm C List.perm_append_comm ?_
  refine h_callV C (M' := m_M_variable) (pc := 174) (q := 0) d_law_174 lm_L_21 (c_M_variable _ _ hMI gs) v_M_variable rfl rfl rfl (by decide) rfl (Nat.le_of_ble_eq_true rfl) ?_
  rintro _ _ ⟨iM2, rM2, LM2, zM2, dM2, rfl, rfl, hM2, gs2⟩
  show pH p l e s m #[Value.ref b] below meth c D cI cJ A QQ 30 5664 177 _ (.int _ :: _) (wM aM iM2 rM2 LM2 zM2 ++ wX aX iX2 rX2 LX2)
  refine h_perm C List.perm_append_comm ?_
  refine h_icmp_eq C (pc := 177) (tgt := 641) d_law_177 (by decide) (fun _ => ?_) (fun h => absurd rfl h)
  exact kk _ _ _ _ _ _ _ _ _ _ _ _ hX2 hM2 gs2
set_option maxRecDepth 100000 in
set_option maxHeartbeats 4000000 in
theorem law_constant {p : Program} {l : Launch} {e : Env} {s : State} {m : MethodId} {below : List Frame} {meth : Method} {c : Code} {b Ln : Nat} {xs : Nat → Int32} {D : va_G} {cI cJ : ClassId} {A : Nat → Prop} {QQ : State → Prop} {τ : Nat × Nat} (C : pCx (m_law meth.name) τ p s m #[Value.ref b] meth c D cI cJ A) (hX : va_X b Ln xs s s.heap) (hbl : b < s.heap.size) (hbA : ¬ A b) (hL : Ln ≤ 2048) (i : Nat) (hi : i + 4 ≤ Ln) {Ty : List (Nat × Nat)} {Tm : List (List Nat)} {Th : List Thm} {dX dM : List Nat} {aX : Nat → Nat} {iX : Nat → Int32} {rX : Nat → Nat → Int32} {LX : Nat → Int64} {aM : Nat → Nat} {iM : Nat → Int32} {rM : Nat → Nat → Int32} {LM : Nat → Nat → Int64} {zM : Int64} (hXI : XI Ty Tm Th dX iX rX LX) (hMI : MI Ty Tm Th (dcl Tm) dM iM rM LM) (gs : GS Ty Tm Th) (kk : ∀ (Ty : List (Nat × Nat)) (Tm : List (List Nat)) (Th : List Thm) (dX dM : List Nat) (iX : Nat → Int32) (rX : Nat → Nat → Int32) (LX : Nat → Int64) (iM : Nat → Int32) (rM : Nat → Nat → Int32) (LM : Nat → Nat → Int64) (zM : Int64), XI Ty Tm Th dX iX rX LX → MI Ty Tm Th (dcl Tm) dM iM rM LM → GS Ty Tm Th → pH p l e s m #[Value.ref b] below meth c D cI cJ A QQ 30 5664 641 [(3, .int (nI i)), (2, .ref (aM 0)), (1, .ref (aX 0)), (0, .ref b)] [] (wX aX iX rX LX ++ wM aM iM rM LM zM)) : pH p l e s m #[Value.ref b] below meth c D cI cJ A QQ 30 5664 182 [(3, .int (nI i)), (2, .ref (aM 0)), (1, .ref (aX 0)), (0, .ref b)] [] (wX aX iX rX LX ++ wM aM iM rM LM zM) := by
  refine h_aload_n C (pc := 182) d_law_182 rfl ?_
  refine h_aload_n C (pc := 183) d_law_183 rfl ?_
  refine h_iload_n C (pc := 184) d_law_184 rfl ?_
  refine h_iconst C (pc := 185) (v := nI 1) d_law_185 (by decide) ?_
  refine h_nadd C (pc := 186) d_law_186 ?_
  refine h_sld C hX hbl hbA (pc := 187) (v := xs (i + 1)) d_law_187 (vp_in_nI (by omega) (by omega)) (by rw [nI_clamp (by omega)]) ?_
  refine h_aload_n C (pc := 188) d_law_188 rfl ?_
  refine h_iload_n C (pc := 189) d_law_189 rfl ?_
  refine h_iconst C (pc := 190) (v := nI 2) d_law_190 (by decide) ?_
  refine h_nadd C (pc := 191) d_law_191 ?_
  refine h_sld C hX hbl hbA (pc := 192) (v := xs (i + 2)) d_law_192 (vp_in_nI (by omega) (by omega)) (by rw [nI_clamp (by omega)]) ?_
  refine h_callV C (M' := m_K_constant) (pc := 193) (q := 0) d_law_193 lm_L_22 (c_K_constant _ _ hXI gs.tm) v_K_constant rfl rfl rfl (by decide) rfl (Nat.le_of_ble_eq_true rfl) ?_
  rintro _ _ ⟨iX2, rX2, LX2, dX2, rfl, rfl, hX2⟩
  show pH p l e s m #[Value.ref b] below meth c D cI cJ A QQ 30 5664 196 _ (.int _ :: _) (wX aX iX2 rX2 LX2 ++ wM aM iM rM LM zM)
  refine h_aload_n C (pc := 196) d_law_196 rfl ?_
  refine h_aload_n C (pc := 197) d_law_197 rfl ?_
  refine h_iload_n C (pc := 198) d_law_198 rfl ?_
  refine h_iconst C (pc := 199) (v := nI 1) d_law_199 (by decide) ?_
  refine h_nadd C (pc := 200) d_law_200 ?_
  refine h_sld C hX hbl hbA (pc := 201) (v := xs (i + 1)) d_law_201 (vp_in_nI (by omega) (by omega)) (by rw [nI_clamp (by omega)]) ?_
  refine h_aload_n C (pc := 202) d_law_202 rfl ?_
  refine h_iload_n C (pc := 203) d_law_203 rfl ?_
  refine h_iconst C (pc := 204) (v := nI 2) d_law_204 (by decide) ?_
  refine h_nadd C (pc := 205) d_law_205 ?_
  refine h_sld C hX hbl hbA (pc := 206) (v := xs (i + 2)) d_law_206 (vp_in_nI (by omega) (by omega)) (by rw [nI_clamp (by omega)]) ?_
  refine h_perm C List.perm_append_comm ?_
  refine h_callV C (M' := m_M_constant) (pc := 207) (q := 0) d_law_207 lm_L_25 (c_M_constant _ _ hMI gs) v_M_constant rfl rfl rfl (by decide) rfl (Nat.le_of_ble_eq_true rfl) ?_
  rintro _ _ ⟨iM2, rM2, LM2, zM2, dM2, rfl, rfl, hM2, gs2⟩
  show pH p l e s m #[Value.ref b] below meth c D cI cJ A QQ 30 5664 210 _ (.int _ :: _) (wM aM iM2 rM2 LM2 zM2 ++ wX aX iX2 rX2 LX2)
  refine h_perm C List.perm_append_comm ?_
  refine h_icmp_eq C (pc := 210) (tgt := 641) d_law_210 (by decide) (fun _ => ?_) (fun h => absurd rfl h)
  exact kk _ _ _ _ _ _ _ _ _ _ _ _ hX2 hM2 gs2
set_option maxRecDepth 100000 in
set_option maxHeartbeats 4000000 in
theorem law_apply {p : Program} {l : Launch} {e : Env} {s : State} {m : MethodId} {below : List Frame} {meth : Method} {c : Code} {b Ln : Nat} {xs : Nat → Int32} {D : va_G} {cI cJ : ClassId} {A : Nat → Prop} {QQ : State → Prop} {τ : Nat × Nat} (C : pCx (m_law meth.name) τ p s m #[Value.ref b] meth c D cI cJ A) (hX : va_X b Ln xs s s.heap) (hbl : b < s.heap.size) (hbA : ¬ A b) (hL : Ln ≤ 2048) (i : Nat) (hi : i + 4 ≤ Ln) {Ty : List (Nat × Nat)} {Tm : List (List Nat)} {Th : List Thm} {dX dM : List Nat} {aX : Nat → Nat} {iX : Nat → Int32} {rX : Nat → Nat → Int32} {LX : Nat → Int64} {aM : Nat → Nat} {iM : Nat → Int32} {rM : Nat → Nat → Int32} {LM : Nat → Nat → Int64} {zM : Int64} (hXI : XI Ty Tm Th dX iX rX LX) (hMI : MI Ty Tm Th (dcl Tm) dM iM rM LM) (gs : GS Ty Tm Th) (kk : ∀ (Ty : List (Nat × Nat)) (Tm : List (List Nat)) (Th : List Thm) (dX dM : List Nat) (iX : Nat → Int32) (rX : Nat → Nat → Int32) (LX : Nat → Int64) (iM : Nat → Int32) (rM : Nat → Nat → Int32) (LM : Nat → Nat → Int64) (zM : Int64), XI Ty Tm Th dX iX rX LX → MI Ty Tm Th (dcl Tm) dM iM rM LM → GS Ty Tm Th → pH p l e s m #[Value.ref b] below meth c D cI cJ A QQ 30 5664 641 [(3, .int (nI i)), (2, .ref (aM 0)), (1, .ref (aX 0)), (0, .ref b)] [] (wX aX iX rX LX ++ wM aM iM rM LM zM)) : pH p l e s m #[Value.ref b] below meth c D cI cJ A QQ 30 5664 215 [(3, .int (nI i)), (2, .ref (aM 0)), (1, .ref (aX 0)), (0, .ref b)] [] (wX aX iX rX LX ++ wM aM iM rM LM zM) := by
  refine h_aload_n C (pc := 215) d_law_215 rfl ?_
  refine h_aload_n C (pc := 216) d_law_216 rfl ?_
  refine h_iload_n C (pc := 217) d_law_217 rfl ?_
  refine h_iconst C (pc := 218) (v := nI 1) d_law_218 (by decide) ?_
  refine h_nadd C (pc := 219) d_law_219 ?_
  refine h_sld C hX hbl hbA (pc := 220) (v := xs (i + 1)) d_law_220 (vp_in_nI (by omega) (by omega)) (by rw [nI_clamp (by omega)]) ?_
  refine h_aload_n C (pc := 221) d_law_221 rfl ?_
  refine h_iload_n C (pc := 222) d_law_222 rfl ?_
  refine h_iconst C (pc := 223) (v := nI 2) d_law_223 (by decide) ?_
  refine h_nadd C (pc := 224) d_law_224 ?_
  refine h_sld C hX hbl hbA (pc := 225) (v := xs (i + 2)) d_law_225 (vp_in_nI (by omega) (by omega)) (by rw [nI_clamp (by omega)]) ?_
  refine h_callV C (M' := m_K_apply) (pc := 226) (q := 0) d_law_226 lm_L_26 (c_K_apply _ _ hXI gs.tm) v_K_apply rfl rfl rfl (by decide) rfl (Nat.le_of_ble_eq_true rfl) ?_
  rintro _ _ ⟨iX2, rX2, LX2, dX2, rfl, rfl, hX2⟩
  show pH p l e s m #[Value.ref b] below meth c D cI cJ A QQ 30 5664 229 _ (.int _ :: _) (wX aX iX2 rX2 LX2 ++ wM aM iM rM LM zM)
  refine h_aload_n C (pc := 229) d_law_229 rfl ?_
  refine h_aload_n C (pc := 230) d_law_230 rfl ?_
  refine h_iload_n C (pc := 231) d_law_231 rfl ?_
  refine h_iconst C (pc := 232) (v := nI 1) d_law_232 (by decide) ?_
  refine h_nadd C (pc := 233) d_law_233 ?_
  refine h_sld C hX hbl hbA (pc := 234) (v := xs (i + 1)) d_law_234 (vp_in_nI (by omega) (by omega)) (by rw [nI_clamp (by omega)]) ?_
  refine h_aload_n C (pc := 235) d_law_235 rfl ?_
  refine h_iload_n C (pc := 236) d_law_236 rfl ?_
  refine h_iconst C (pc := 237) (v := nI 2) d_law_237 (by decide) ?_
  refine h_nadd C (pc := 238) d_law_238 ?_
  refine h_sld C hX hbl hbA (pc := 239) (v := xs (i + 2)) d_law_239 (vp_in_nI (by omega) (by omega)) (by rw [nI_clamp (by omega)]) ?_
  refine h_perm C List.perm_append_comm ?_
  refine h_callV C (M' := m_M_apply) (pc := 240) (q := 0) d_law_240 lm_L_29 (c_M_apply _ _ hMI gs) v_M_apply rfl rfl rfl (by decide) rfl (Nat.le_of_ble_eq_true rfl) ?_
  rintro _ _ ⟨iM2, rM2, LM2, zM2, dM2, rfl, rfl, hM2, gs2⟩
  show pH p l e s m #[Value.ref b] below meth c D cI cJ A QQ 30 5664 243 _ (.int _ :: _) (wM aM iM2 rM2 LM2 zM2 ++ wX aX iX2 rX2 LX2)
  refine h_perm C List.perm_append_comm ?_
  refine h_icmp_eq C (pc := 243) (tgt := 641) d_law_243 (by decide) (fun _ => ?_) (fun h => absurd rfl h)
  exact kk _ _ _ _ _ _ _ _ _ _ _ _ hX2 hM2 gs2
set_option maxRecDepth 100000 in
set_option maxHeartbeats 4000000 in
theorem law_bind_0 {p : Program} {l : Launch} {e : Env} {s : State} {m : MethodId} {below : List Frame} {meth : Method} {c : Code} {b Ln : Nat} {xs : Nat → Int32} {D : va_G} {cI cJ : ClassId} {A : Nat → Prop} {QQ : State → Prop} {τ : Nat × Nat} (C : pCx (m_law meth.name) τ p s m #[Value.ref b] meth c D cI cJ A) (hX : va_X b Ln xs s s.heap) (hbl : b < s.heap.size) (hbA : ¬ A b) (hL : Ln ≤ 2048) (i : Nat) (hi : i + 4 ≤ Ln) {Ty : List (Nat × Nat)} {Tm : List (List Nat)} {Th : List Thm} {dX dM : List Nat} {aX : Nat → Nat} {iX : Nat → Int32} {rX : Nat → Nat → Int32} {LX : Nat → Int64} {aM : Nat → Nat} {iM : Nat → Int32} {rM : Nat → Nat → Int32} {LM : Nat → Nat → Int64} {zM : Int64} (hXI : XI Ty Tm Th dX iX rX LX) (hMI : MI Ty Tm Th (dcl Tm) dM iM rM LM) (gs : GS Ty Tm Th) (kk : ∀ (Ty : List (Nat × Nat)) (Tm : List (List Nat)) (Th : List Thm) (dX dM : List Nat) (iX : Nat → Int32) (rX : Nat → Nat → Int32) (LX : Nat → Int64) (iM : Nat → Int32) (rM : Nat → Nat → Int32) (LM : Nat → Nat → Int64) (zM : Int64), XI Ty Tm Th dX iX rX LX → MI Ty Tm Th (dcl Tm) dM iM rM LM → GS Ty Tm Th → pH p l e s m #[Value.ref b] below meth c D cI cJ A QQ 30 5664 641 [(3, .int (nI i)), (2, .ref (aM 0)), (1, .ref (aX 0)), (0, .ref b)] [] (wX aX iX rX LX ++ wM aM iM rM LM zM)) (hal : xs (i + 1) = 0) : pH p l e s m #[Value.ref b] below meth c D cI cJ A QQ 30 5664 248 [(3, .int (nI i)), (2, .ref (aM 0)), (1, .ref (aX 0)), (0, .ref b)] [] (wX aX iX rX LX ++ wM aM iM rM LM zM) := by
  refine h_aload_n C (pc := 248) d_law_248 rfl ?_
  refine h_aload_n C (pc := 249) d_law_249 rfl ?_
  refine h_iload_n C (pc := 250) d_law_250 rfl ?_
  refine h_iconst C (pc := 251) (v := nI 1) d_law_251 (by decide) ?_
  refine h_nadd C (pc := 252) d_law_252 ?_
  refine h_sld C hX hbl hbA (pc := 253) (v := xs (i + 1)) d_law_253 (vp_in_nI (by omega) (by omega)) (by rw [nI_clamp (by omega)]) ?_
  refine h_if_eq C (pc := 254) (tgt := 261) d_law_254 (by decide) (fun _ => ?_) (fun h => absurd hal h)
  refine h_iconst C (pc := 261) (v := nI 0) d_law_261 (by decide) ?_
  refine h_aload_n C (pc := 262) d_law_262 rfl ?_
  refine h_iload_n C (pc := 263) d_law_263 rfl ?_
  refine h_iconst C (pc := 264) (v := nI 2) d_law_264 (by decide) ?_
  refine h_nadd C (pc := 265) d_law_265 ?_
  refine h_sld C hX hbl hbA (pc := 266) (v := xs (i + 2)) d_law_266 (vp_in_nI (by omega) (by omega)) (by rw [nI_clamp (by omega)]) ?_
  refine h_aload_n C (pc := 267) d_law_267 rfl ?_
  refine h_iload_n C (pc := 268) d_law_268 rfl ?_
  refine h_iconst C (pc := 269) (v := nI 3) d_law_269 (by decide) ?_
  refine h_nadd C (pc := 270) d_law_270 ?_
  refine h_sld C hX hbl hbA (pc := 271) (v := xs (i + 3)) d_law_271 (vp_in_nI (by omega) (by omega)) (by rw [nI_clamp (by omega)]) ?_
  refine h_callV C (M' := m_K_bind) (pc := 272) (q := 0) d_law_272 lm_L_30 (c_K_bind _ _ _ hXI gs.tm) v_K_bind rfl rfl rfl (by decide) rfl (Nat.le_of_ble_eq_true rfl) ?_
  rintro _ _ ⟨iX2, rX2, LX2, dX2, rfl, rfl, hX2⟩
  show pH p l e s m #[Value.ref b] below meth c D cI cJ A QQ 30 5664 275 _ (.int _ :: _) (wX aX iX2 rX2 LX2 ++ wM aM iM rM LM zM)
  refine h_aload_n C (pc := 275) d_law_275 rfl ?_
  refine h_aload_n C (pc := 276) d_law_276 rfl ?_
  refine h_iload_n C (pc := 277) d_law_277 rfl ?_
  refine h_iconst C (pc := 278) (v := nI 1) d_law_278 (by decide) ?_
  refine h_nadd C (pc := 279) d_law_279 ?_
  refine h_sld C hX hbl hbA (pc := 280) (v := xs (i + 1)) d_law_280 (vp_in_nI (by omega) (by omega)) (by rw [nI_clamp (by omega)]) ?_
  refine h_if_eq C (pc := 281) (tgt := 288) d_law_281 (by decide) (fun _ => ?_) (fun h => absurd hal h)
  refine h_iconst C (pc := 288) (v := nI 0) d_law_288 (by decide) ?_
  refine h_aload_n C (pc := 289) d_law_289 rfl ?_
  refine h_iload_n C (pc := 290) d_law_290 rfl ?_
  refine h_iconst C (pc := 291) (v := nI 2) d_law_291 (by decide) ?_
  refine h_nadd C (pc := 292) d_law_292 ?_
  refine h_sld C hX hbl hbA (pc := 293) (v := xs (i + 2)) d_law_293 (vp_in_nI (by omega) (by omega)) (by rw [nI_clamp (by omega)]) ?_
  refine h_aload_n C (pc := 294) d_law_294 rfl ?_
  refine h_iload_n C (pc := 295) d_law_295 rfl ?_
  refine h_iconst C (pc := 296) (v := nI 3) d_law_296 (by decide) ?_
  refine h_nadd C (pc := 297) d_law_297 ?_
  refine h_sld C hX hbl hbA (pc := 298) (v := xs (i + 3)) d_law_298 (vp_in_nI (by omega) (by omega)) (by rw [nI_clamp (by omega)]) ?_
  refine h_perm C List.perm_append_comm ?_
  refine h_callV C (M' := m_M_bind) (pc := 299) (q := 0) d_law_299 lm_L_34 (c_M_bind _ _ _ hMI gs) v_M_bind rfl rfl rfl (by decide) rfl (Nat.le_of_ble_eq_true rfl) ?_
  rintro _ _ ⟨iM2, rM2, LM2, zM2, dM2, rfl, rfl, hM2, gs2⟩
  show pH p l e s m #[Value.ref b] below meth c D cI cJ A QQ 30 5664 302 _ (.int _ :: _) (wM aM iM2 rM2 LM2 zM2 ++ wX aX iX2 rX2 LX2)
  refine h_perm C List.perm_append_comm ?_
  refine h_icmp_eq C (pc := 302) (tgt := 641) d_law_302 (by decide) (fun _ => ?_) (fun h => absurd rfl h)
  exact kk _ _ _ _ _ _ _ _ _ _ _ _ hX2 hM2 gs2
set_option maxRecDepth 100000 in
set_option maxHeartbeats 4000000 in
theorem law_bind_1 {p : Program} {l : Launch} {e : Env} {s : State} {m : MethodId} {below : List Frame} {meth : Method} {c : Code} {b Ln : Nat} {xs : Nat → Int32} {D : va_G} {cI cJ : ClassId} {A : Nat → Prop} {QQ : State → Prop} {τ : Nat × Nat} (C : pCx (m_law meth.name) τ p s m #[Value.ref b] meth c D cI cJ A) (hX : va_X b Ln xs s s.heap) (hbl : b < s.heap.size) (hbA : ¬ A b) (hL : Ln ≤ 2048) (i : Nat) (hi : i + 4 ≤ Ln) {Ty : List (Nat × Nat)} {Tm : List (List Nat)} {Th : List Thm} {dX dM : List Nat} {aX : Nat → Nat} {iX : Nat → Int32} {rX : Nat → Nat → Int32} {LX : Nat → Int64} {aM : Nat → Nat} {iM : Nat → Int32} {rM : Nat → Nat → Int32} {LM : Nat → Nat → Int64} {zM : Int64} (hXI : XI Ty Tm Th dX iX rX LX) (hMI : MI Ty Tm Th (dcl Tm) dM iM rM LM) (gs : GS Ty Tm Th) (kk : ∀ (Ty : List (Nat × Nat)) (Tm : List (List Nat)) (Th : List Thm) (dX dM : List Nat) (iX : Nat → Int32) (rX : Nat → Nat → Int32) (LX : Nat → Int64) (iM : Nat → Int32) (rM : Nat → Nat → Int32) (LM : Nat → Nat → Int64) (zM : Int64), XI Ty Tm Th dX iX rX LX → MI Ty Tm Th (dcl Tm) dM iM rM LM → GS Ty Tm Th → pH p l e s m #[Value.ref b] below meth c D cI cJ A QQ 30 5664 641 [(3, .int (nI i)), (2, .ref (aM 0)), (1, .ref (aX 0)), (0, .ref b)] [] (wX aX iX rX LX ++ wM aM iM rM LM zM)) (hal : ¬ xs (i + 1) = 0) : pH p l e s m #[Value.ref b] below meth c D cI cJ A QQ 30 5664 248 [(3, .int (nI i)), (2, .ref (aM 0)), (1, .ref (aX 0)), (0, .ref b)] [] (wX aX iX rX LX ++ wM aM iM rM LM zM) := by
  refine h_aload_n C (pc := 248) d_law_248 rfl ?_
  refine h_aload_n C (pc := 249) d_law_249 rfl ?_
  refine h_iload_n C (pc := 250) d_law_250 rfl ?_
  refine h_iconst C (pc := 251) (v := nI 1) d_law_251 (by decide) ?_
  refine h_nadd C (pc := 252) d_law_252 ?_
  refine h_sld C hX hbl hbA (pc := 253) (v := xs (i + 1)) d_law_253 (vp_in_nI (by omega) (by omega)) (by rw [nI_clamp (by omega)]) ?_
  refine h_if_eq C (pc := 254) (tgt := 261) d_law_254 (by decide) (fun h => absurd h hal) (fun _ => ?_)
  refine h_iconst C (pc := 257) (v := nI 1) d_law_257 (by decide) ?_
  refine h_goto C (pc := 258) (tgt := 262) d_law_258 (by decide) ?_
  refine h_aload_n C (pc := 262) d_law_262 rfl ?_
  refine h_iload_n C (pc := 263) d_law_263 rfl ?_
  refine h_iconst C (pc := 264) (v := nI 2) d_law_264 (by decide) ?_
  refine h_nadd C (pc := 265) d_law_265 ?_
  refine h_sld C hX hbl hbA (pc := 266) (v := xs (i + 2)) d_law_266 (vp_in_nI (by omega) (by omega)) (by rw [nI_clamp (by omega)]) ?_
  refine h_aload_n C (pc := 267) d_law_267 rfl ?_
  refine h_iload_n C (pc := 268) d_law_268 rfl ?_
  refine h_iconst C (pc := 269) (v := nI 3) d_law_269 (by decide) ?_
  refine h_nadd C (pc := 270) d_law_270 ?_
  refine h_sld C hX hbl hbA (pc := 271) (v := xs (i + 3)) d_law_271 (vp_in_nI (by omega) (by omega)) (by rw [nI_clamp (by omega)]) ?_
  refine h_callV C (M' := m_K_bind) (pc := 272) (q := 0) d_law_272 lm_L_30 (c_K_bind _ _ _ hXI gs.tm) v_K_bind rfl rfl rfl (by decide) rfl (Nat.le_of_ble_eq_true rfl) ?_
  rintro _ _ ⟨iX2, rX2, LX2, dX2, rfl, rfl, hX2⟩
  show pH p l e s m #[Value.ref b] below meth c D cI cJ A QQ 30 5664 275 _ (.int _ :: _) (wX aX iX2 rX2 LX2 ++ wM aM iM rM LM zM)
  refine h_aload_n C (pc := 275) d_law_275 rfl ?_
  refine h_aload_n C (pc := 276) d_law_276 rfl ?_
  refine h_iload_n C (pc := 277) d_law_277 rfl ?_
  refine h_iconst C (pc := 278) (v := nI 1) d_law_278 (by decide) ?_
  refine h_nadd C (pc := 279) d_law_279 ?_
  refine h_sld C hX hbl hbA (pc := 280) (v := xs (i + 1)) d_law_280 (vp_in_nI (by omega) (by omega)) (by rw [nI_clamp (by omega)]) ?_
  refine h_if_eq C (pc := 281) (tgt := 288) d_law_281 (by decide) (fun h => absurd h hal) (fun _ => ?_)
  refine h_iconst C (pc := 284) (v := nI 1) d_law_284 (by decide) ?_
  refine h_goto C (pc := 285) (tgt := 289) d_law_285 (by decide) ?_
  refine h_aload_n C (pc := 289) d_law_289 rfl ?_
  refine h_iload_n C (pc := 290) d_law_290 rfl ?_
  refine h_iconst C (pc := 291) (v := nI 2) d_law_291 (by decide) ?_
  refine h_nadd C (pc := 292) d_law_292 ?_
  refine h_sld C hX hbl hbA (pc := 293) (v := xs (i + 2)) d_law_293 (vp_in_nI (by omega) (by omega)) (by rw [nI_clamp (by omega)]) ?_
  refine h_aload_n C (pc := 294) d_law_294 rfl ?_
  refine h_iload_n C (pc := 295) d_law_295 rfl ?_
  refine h_iconst C (pc := 296) (v := nI 3) d_law_296 (by decide) ?_
  refine h_nadd C (pc := 297) d_law_297 ?_
  refine h_sld C hX hbl hbA (pc := 298) (v := xs (i + 3)) d_law_298 (vp_in_nI (by omega) (by omega)) (by rw [nI_clamp (by omega)]) ?_
  refine h_perm C List.perm_append_comm ?_
  refine h_callV C (M' := m_M_bind) (pc := 299) (q := 0) d_law_299 lm_L_34 (c_M_bind _ _ _ hMI gs) v_M_bind rfl rfl rfl (by decide) rfl (Nat.le_of_ble_eq_true rfl) ?_
  rintro _ _ ⟨iM2, rM2, LM2, zM2, dM2, rfl, rfl, hM2, gs2⟩
  show pH p l e s m #[Value.ref b] below meth c D cI cJ A QQ 30 5664 302 _ (.int _ :: _) (wM aM iM2 rM2 LM2 zM2 ++ wX aX iX2 rX2 LX2)
  refine h_perm C List.perm_append_comm ?_
  refine h_icmp_eq C (pc := 302) (tgt := 641) d_law_302 (by decide) (fun _ => ?_) (fun h => absurd rfl h)
  exact kk _ _ _ _ _ _ _ _ _ _ _ _ hX2 hM2 gs2
set_option maxRecDepth 100000 in
set_option maxHeartbeats 4000000 in
theorem law_join_0 {p : Program} {l : Launch} {e : Env} {s : State} {m : MethodId} {below : List Frame} {meth : Method} {c : Code} {b Ln : Nat} {xs : Nat → Int32} {D : va_G} {cI cJ : ClassId} {A : Nat → Prop} {QQ : State → Prop} {τ : Nat × Nat} (C : pCx (m_law meth.name) τ p s m #[Value.ref b] meth c D cI cJ A) (hX : va_X b Ln xs s s.heap) (hbl : b < s.heap.size) (hbA : ¬ A b) (hL : Ln ≤ 2048) (i : Nat) (hi : i + 4 ≤ Ln) {Ty : List (Nat × Nat)} {Tm : List (List Nat)} {Th : List Thm} {dX dM : List Nat} {aX : Nat → Nat} {iX : Nat → Int32} {rX : Nat → Nat → Int32} {LX : Nat → Int64} {aM : Nat → Nat} {iM : Nat → Int32} {rM : Nat → Nat → Int32} {LM : Nat → Nat → Int64} {zM : Int64} (hXI : XI Ty Tm Th dX iX rX LX) (hMI : MI Ty Tm Th (dcl Tm) dM iM rM LM) (gs : GS Ty Tm Th) (kk : ∀ (Ty : List (Nat × Nat)) (Tm : List (List Nat)) (Th : List Thm) (dX dM : List Nat) (iX : Nat → Int32) (rX : Nat → Nat → Int32) (LX : Nat → Int64) (iM : Nat → Int32) (rM : Nat → Nat → Int32) (LM : Nat → Nat → Int64) (zM : Int64), XI Ty Tm Th dX iX rX LX → MI Ty Tm Th (dcl Tm) dM iM rM LM → GS Ty Tm Th → pH p l e s m #[Value.ref b] below meth c D cI cJ A QQ 30 5664 641 [(3, .int (nI i)), (2, .ref (aM 0)), (1, .ref (aX 0)), (0, .ref b)] [] (wX aX iX rX LX ++ wM aM iM rM LM zM)) (hal : xs (i + 1) = 0) : pH p l e s m #[Value.ref b] below meth c D cI cJ A QQ 30 5664 307 [(3, .int (nI i)), (2, .ref (aM 0)), (1, .ref (aX 0)), (0, .ref b)] [] (wX aX iX rX LX ++ wM aM iM rM LM zM) := by
  refine h_aload_n C (pc := 307) d_law_307 rfl ?_
  refine h_aload_n C (pc := 308) d_law_308 rfl ?_
  refine h_iload_n C (pc := 309) d_law_309 rfl ?_
  refine h_iconst C (pc := 310) (v := nI 1) d_law_310 (by decide) ?_
  refine h_nadd C (pc := 311) d_law_311 ?_
  refine h_sld C hX hbl hbA (pc := 312) (v := xs (i + 1)) d_law_312 (vp_in_nI (by omega) (by omega)) (by rw [nI_clamp (by omega)]) ?_
  refine h_if_eq C (pc := 313) (tgt := 320) d_law_313 (by decide) (fun _ => ?_) (fun h => absurd hal h)
  refine h_iconst C (pc := 320) (v := nI 0) d_law_320 (by decide) ?_
  refine h_aload_n C (pc := 321) d_law_321 rfl ?_
  refine h_iload_n C (pc := 322) d_law_322 rfl ?_
  refine h_iconst C (pc := 323) (v := nI 2) d_law_323 (by decide) ?_
  refine h_nadd C (pc := 324) d_law_324 ?_
  refine h_sld C hX hbl hbA (pc := 325) (v := xs (i + 2)) d_law_325 (vp_in_nI (by omega) (by omega)) (by rw [nI_clamp (by omega)]) ?_
  refine h_aload_n C (pc := 326) d_law_326 rfl ?_
  refine h_iload_n C (pc := 327) d_law_327 rfl ?_
  refine h_iconst C (pc := 328) (v := nI 3) d_law_328 (by decide) ?_
  refine h_nadd C (pc := 329) d_law_329 ?_
  refine h_sld C hX hbl hbA (pc := 330) (v := xs (i + 3)) d_law_330 (vp_in_nI (by omega) (by omega)) (by rw [nI_clamp (by omega)]) ?_
  refine h_callV C (M' := m_K_join) (pc := 331) (q := 0) d_law_331 lm_L_35 (c_K_join _ _ _ hXI gs.tm) v_K_join rfl rfl rfl (by decide) rfl (Nat.le_of_ble_eq_true rfl) ?_
  rintro _ _ ⟨iX2, rX2, LX2, dX2, rfl, rfl, hX2⟩
  show pH p l e s m #[Value.ref b] below meth c D cI cJ A QQ 30 5664 334 _ (.int _ :: _) (wX aX iX2 rX2 LX2 ++ wM aM iM rM LM zM)
  refine h_aload_n C (pc := 334) d_law_334 rfl ?_
  refine h_aload_n C (pc := 335) d_law_335 rfl ?_
  refine h_iload_n C (pc := 336) d_law_336 rfl ?_
  refine h_iconst C (pc := 337) (v := nI 1) d_law_337 (by decide) ?_
  refine h_nadd C (pc := 338) d_law_338 ?_
  refine h_sld C hX hbl hbA (pc := 339) (v := xs (i + 1)) d_law_339 (vp_in_nI (by omega) (by omega)) (by rw [nI_clamp (by omega)]) ?_
  refine h_if_eq C (pc := 340) (tgt := 347) d_law_340 (by decide) (fun _ => ?_) (fun h => absurd hal h)
  refine h_iconst C (pc := 347) (v := nI 0) d_law_347 (by decide) ?_
  refine h_aload_n C (pc := 348) d_law_348 rfl ?_
  refine h_iload_n C (pc := 349) d_law_349 rfl ?_
  refine h_iconst C (pc := 350) (v := nI 2) d_law_350 (by decide) ?_
  refine h_nadd C (pc := 351) d_law_351 ?_
  refine h_sld C hX hbl hbA (pc := 352) (v := xs (i + 2)) d_law_352 (vp_in_nI (by omega) (by omega)) (by rw [nI_clamp (by omega)]) ?_
  refine h_aload_n C (pc := 353) d_law_353 rfl ?_
  refine h_iload_n C (pc := 354) d_law_354 rfl ?_
  refine h_iconst C (pc := 355) (v := nI 3) d_law_355 (by decide) ?_
  refine h_nadd C (pc := 356) d_law_356 ?_
  refine h_sld C hX hbl hbA (pc := 357) (v := xs (i + 3)) d_law_357 (vp_in_nI (by omega) (by omega)) (by rw [nI_clamp (by omega)]) ?_
  refine h_perm C List.perm_append_comm ?_
  refine h_callV C (M' := m_M_join) (pc := 358) (q := 0) d_law_358 lm_L_38 (c_M_join _ _ _ hMI gs) v_M_join rfl rfl rfl (by decide) rfl (Nat.le_of_ble_eq_true rfl) ?_
  rintro _ _ ⟨iM2, rM2, LM2, zM2, dM2, rfl, rfl, hM2, gs2⟩
  show pH p l e s m #[Value.ref b] below meth c D cI cJ A QQ 30 5664 361 _ (.int _ :: _) (wM aM iM2 rM2 LM2 zM2 ++ wX aX iX2 rX2 LX2)
  refine h_perm C List.perm_append_comm ?_
  refine h_icmp_eq C (pc := 361) (tgt := 641) d_law_361 (by decide) (fun _ => ?_) (fun h => absurd rfl h)
  exact kk _ _ _ _ _ _ _ _ _ _ _ _ hX2 hM2 gs2
set_option maxRecDepth 100000 in
set_option maxHeartbeats 4000000 in
theorem law_join_1 {p : Program} {l : Launch} {e : Env} {s : State} {m : MethodId} {below : List Frame} {meth : Method} {c : Code} {b Ln : Nat} {xs : Nat → Int32} {D : va_G} {cI cJ : ClassId} {A : Nat → Prop} {QQ : State → Prop} {τ : Nat × Nat} (C : pCx (m_law meth.name) τ p s m #[Value.ref b] meth c D cI cJ A) (hX : va_X b Ln xs s s.heap) (hbl : b < s.heap.size) (hbA : ¬ A b) (hL : Ln ≤ 2048) (i : Nat) (hi : i + 4 ≤ Ln) {Ty : List (Nat × Nat)} {Tm : List (List Nat)} {Th : List Thm} {dX dM : List Nat} {aX : Nat → Nat} {iX : Nat → Int32} {rX : Nat → Nat → Int32} {LX : Nat → Int64} {aM : Nat → Nat} {iM : Nat → Int32} {rM : Nat → Nat → Int32} {LM : Nat → Nat → Int64} {zM : Int64} (hXI : XI Ty Tm Th dX iX rX LX) (hMI : MI Ty Tm Th (dcl Tm) dM iM rM LM) (gs : GS Ty Tm Th) (kk : ∀ (Ty : List (Nat × Nat)) (Tm : List (List Nat)) (Th : List Thm) (dX dM : List Nat) (iX : Nat → Int32) (rX : Nat → Nat → Int32) (LX : Nat → Int64) (iM : Nat → Int32) (rM : Nat → Nat → Int32) (LM : Nat → Nat → Int64) (zM : Int64), XI Ty Tm Th dX iX rX LX → MI Ty Tm Th (dcl Tm) dM iM rM LM → GS Ty Tm Th → pH p l e s m #[Value.ref b] below meth c D cI cJ A QQ 30 5664 641 [(3, .int (nI i)), (2, .ref (aM 0)), (1, .ref (aX 0)), (0, .ref b)] [] (wX aX iX rX LX ++ wM aM iM rM LM zM)) (hal : ¬ xs (i + 1) = 0) : pH p l e s m #[Value.ref b] below meth c D cI cJ A QQ 30 5664 307 [(3, .int (nI i)), (2, .ref (aM 0)), (1, .ref (aX 0)), (0, .ref b)] [] (wX aX iX rX LX ++ wM aM iM rM LM zM) := by
  refine h_aload_n C (pc := 307) d_law_307 rfl ?_
  refine h_aload_n C (pc := 308) d_law_308 rfl ?_
  refine h_iload_n C (pc := 309) d_law_309 rfl ?_
  refine h_iconst C (pc := 310) (v := nI 1) d_law_310 (by decide) ?_
  refine h_nadd C (pc := 311) d_law_311 ?_
  refine h_sld C hX hbl hbA (pc := 312) (v := xs (i + 1)) d_law_312 (vp_in_nI (by omega) (by omega)) (by rw [nI_clamp (by omega)]) ?_
  refine h_if_eq C (pc := 313) (tgt := 320) d_law_313 (by decide) (fun h => absurd h hal) (fun _ => ?_)
  refine h_iconst C (pc := 316) (v := nI 1) d_law_316 (by decide) ?_
  refine h_goto C (pc := 317) (tgt := 321) d_law_317 (by decide) ?_
  refine h_aload_n C (pc := 321) d_law_321 rfl ?_
  refine h_iload_n C (pc := 322) d_law_322 rfl ?_
  refine h_iconst C (pc := 323) (v := nI 2) d_law_323 (by decide) ?_
  refine h_nadd C (pc := 324) d_law_324 ?_
  refine h_sld C hX hbl hbA (pc := 325) (v := xs (i + 2)) d_law_325 (vp_in_nI (by omega) (by omega)) (by rw [nI_clamp (by omega)]) ?_
  refine h_aload_n C (pc := 326) d_law_326 rfl ?_
  refine h_iload_n C (pc := 327) d_law_327 rfl ?_
  refine h_iconst C (pc := 328) (v := nI 3) d_law_328 (by decide) ?_
  refine h_nadd C (pc := 329) d_law_329 ?_
  refine h_sld C hX hbl hbA (pc := 330) (v := xs (i + 3)) d_law_330 (vp_in_nI (by omega) (by omega)) (by rw [nI_clamp (by omega)]) ?_
  refine h_callV C (M' := m_K_join) (pc := 331) (q := 0) d_law_331 lm_L_35 (c_K_join _ _ _ hXI gs.tm) v_K_join rfl rfl rfl (by decide) rfl (Nat.le_of_ble_eq_true rfl) ?_
  rintro _ _ ⟨iX2, rX2, LX2, dX2, rfl, rfl, hX2⟩
  show pH p l e s m #[Value.ref b] below meth c D cI cJ A QQ 30 5664 334 _ (.int _ :: _) (wX aX iX2 rX2 LX2 ++ wM aM iM rM LM zM)
  refine h_aload_n C (pc := 334) d_law_334 rfl ?_
  refine h_aload_n C (pc := 335) d_law_335 rfl ?_
  refine h_iload_n C (pc := 336) d_law_336 rfl ?_
  refine h_iconst C (pc := 337) (v := nI 1) d_law_337 (by decide) ?_
  refine h_nadd C (pc := 338) d_law_338 ?_
  refine h_sld C hX hbl hbA (pc := 339) (v := xs (i + 1)) d_law_339 (vp_in_nI (by omega) (by omega)) (by rw [nI_clamp (by omega)]) ?_
  refine h_if_eq C (pc := 340) (tgt := 347) d_law_340 (by decide) (fun h => absurd h hal) (fun _ => ?_)
  refine h_iconst C (pc := 343) (v := nI 1) d_law_343 (by decide) ?_
  refine h_goto C (pc := 344) (tgt := 348) d_law_344 (by decide) ?_
  refine h_aload_n C (pc := 348) d_law_348 rfl ?_
  refine h_iload_n C (pc := 349) d_law_349 rfl ?_
  refine h_iconst C (pc := 350) (v := nI 2) d_law_350 (by decide) ?_
  refine h_nadd C (pc := 351) d_law_351 ?_
  refine h_sld C hX hbl hbA (pc := 352) (v := xs (i + 2)) d_law_352 (vp_in_nI (by omega) (by omega)) (by rw [nI_clamp (by omega)]) ?_
  refine h_aload_n C (pc := 353) d_law_353 rfl ?_
  refine h_iload_n C (pc := 354) d_law_354 rfl ?_
  refine h_iconst C (pc := 355) (v := nI 3) d_law_355 (by decide) ?_
  refine h_nadd C (pc := 356) d_law_356 ?_
  refine h_sld C hX hbl hbA (pc := 357) (v := xs (i + 3)) d_law_357 (vp_in_nI (by omega) (by omega)) (by rw [nI_clamp (by omega)]) ?_
  refine h_perm C List.perm_append_comm ?_
  refine h_callV C (M' := m_M_join) (pc := 358) (q := 0) d_law_358 lm_L_38 (c_M_join _ _ _ hMI gs) v_M_join rfl rfl rfl (by decide) rfl (Nat.le_of_ble_eq_true rfl) ?_
  rintro _ _ ⟨iM2, rM2, LM2, zM2, dM2, rfl, rfl, hM2, gs2⟩
  show pH p l e s m #[Value.ref b] below meth c D cI cJ A QQ 30 5664 361 _ (.int _ :: _) (wM aM iM2 rM2 LM2 zM2 ++ wX aX iX2 rX2 LX2)
  refine h_perm C List.perm_append_comm ?_
  refine h_icmp_eq C (pc := 361) (tgt := 641) d_law_361 (by decide) (fun _ => ?_) (fun h => absurd rfl h)
  exact kk _ _ _ _ _ _ _ _ _ _ _ _ hX2 hM2 gs2
set_option maxRecDepth 100000 in
set_option maxHeartbeats 4000000 in
theorem law_rule_0 {p : Program} {l : Launch} {e : Env} {s : State} {m : MethodId} {below : List Frame} {meth : Method} {c : Code} {b Ln : Nat} {xs : Nat → Int32} {D : va_G} {cI cJ : ClassId} {A : Nat → Prop} {QQ : State → Prop} {τ : Nat × Nat} (C : pCx (m_law meth.name) τ p s m #[Value.ref b] meth c D cI cJ A) (hX : va_X b Ln xs s s.heap) (hbl : b < s.heap.size) (hbA : ¬ A b) (hL : Ln ≤ 2048) (i : Nat) (hi : i + 4 ≤ Ln) {Ty : List (Nat × Nat)} {Tm : List (List Nat)} {Th : List Thm} {dX dM : List Nat} {aX : Nat → Nat} {iX : Nat → Int32} {rX : Nat → Nat → Int32} {LX : Nat → Int64} {aM : Nat → Nat} {iM : Nat → Int32} {rM : Nat → Nat → Int32} {LM : Nat → Nat → Int64} {zM : Int64} (hXI : XI Ty Tm Th dX iX rX LX) (hMI : MI Ty Tm Th (dcl Tm) dM iM rM LM) (gs : GS Ty Tm Th) (kk : ∀ (Ty : List (Nat × Nat)) (Tm : List (List Nat)) (Th : List Thm) (dX dM : List Nat) (iX : Nat → Int32) (rX : Nat → Nat → Int32) (LX : Nat → Int64) (iM : Nat → Int32) (rM : Nat → Nat → Int32) (LM : Nat → Nat → Int64) (zM : Int64), XI Ty Tm Th dX iX rX LX → MI Ty Tm Th (dcl Tm) dM iM rM LM → GS Ty Tm Th → pH p l e s m #[Value.ref b] below meth c D cI cJ A QQ 30 5664 641 [(3, .int (nI i)), (2, .ref (aM 0)), (1, .ref (aX 0)), (0, .ref b)] [] (wX aX iX rX LX ++ wM aM iM rM LM zM)) (hRe : xs (i + 1) = nI 0) : pH p l e s m #[Value.ref b] below meth c D cI cJ A QQ 30 5664 366 [(3, .int (nI i)), (2, .ref (aM 0)), (1, .ref (aX 0)), (0, .ref b)] [] (wX aX iX rX LX ++ wM aM iM rM LM zM) := by
  refine h_aload_n C (pc := 366) d_law_366 rfl ?_
  refine h_aload_n C (pc := 367) d_law_367 rfl ?_
  refine h_iload_n C (pc := 368) d_law_368 rfl ?_
  refine h_iconst C (pc := 369) (v := nI 1) d_law_369 (by decide) ?_
  refine h_nadd C (pc := 370) d_law_370 ?_
  refine h_sld C hX hbl hbA (pc := 371) (v := nI 0) d_law_371 (vp_in_nI (by omega) (by omega)) (by rw [nI_clamp (by omega)]; exact hRe) ?_
  refine h_aload_n C (pc := 372) d_law_372 rfl ?_
  refine h_iload_n C (pc := 373) d_law_373 rfl ?_
  refine h_iconst C (pc := 374) (v := nI 2) d_law_374 (by decide) ?_
  refine h_nadd C (pc := 375) d_law_375 ?_
  refine h_sld C hX hbl hbA (pc := 376) (v := xs (i + 2)) d_law_376 (vp_in_nI (by omega) (by omega)) (by rw [nI_clamp (by omega)]) ?_
  refine h_aload_n C (pc := 377) d_law_377 rfl ?_
  refine h_iload_n C (pc := 378) d_law_378 rfl ?_
  refine h_iconst C (pc := 379) (v := nI 3) d_law_379 (by decide) ?_
  refine h_nadd C (pc := 380) d_law_380 ?_
  refine h_sld C hX hbl hbA (pc := 381) (v := xs (i + 3)) d_law_381 (vp_in_nI (by omega) (by omega)) (by rw [nI_clamp (by omega)]) ?_
  refine h_callV C (M' := m_K_rule) (pc := 382) (q := 0) d_law_382 lm_L_39 (c_K_rule_0 _ _ hXI gs.tm gs.th) v_K_rule rfl rfl rfl (by decide) rfl (Nat.le_of_ble_eq_true rfl) ?_
  rintro _ _ ⟨iX2, rX2, LX2, dX2, rfl, rfl, hX2⟩
  show pH p l e s m #[Value.ref b] below meth c D cI cJ A QQ 30 5664 385 _ (.int _ :: _) (wX aX iX2 rX2 LX2 ++ wM aM iM rM LM zM)
  refine h_aload_n C (pc := 385) d_law_385 rfl ?_
  refine h_aload_n C (pc := 386) d_law_386 rfl ?_
  refine h_iload_n C (pc := 387) d_law_387 rfl ?_
  refine h_iconst C (pc := 388) (v := nI 1) d_law_388 (by decide) ?_
  refine h_nadd C (pc := 389) d_law_389 ?_
  refine h_sld C hX hbl hbA (pc := 390) (v := nI 0) d_law_390 (vp_in_nI (by omega) (by omega)) (by rw [nI_clamp (by omega)]; exact hRe) ?_
  refine h_aload_n C (pc := 391) d_law_391 rfl ?_
  refine h_iload_n C (pc := 392) d_law_392 rfl ?_
  refine h_iconst C (pc := 393) (v := nI 2) d_law_393 (by decide) ?_
  refine h_nadd C (pc := 394) d_law_394 ?_
  refine h_sld C hX hbl hbA (pc := 395) (v := xs (i + 2)) d_law_395 (vp_in_nI (by omega) (by omega)) (by rw [nI_clamp (by omega)]) ?_
  refine h_aload_n C (pc := 396) d_law_396 rfl ?_
  refine h_iload_n C (pc := 397) d_law_397 rfl ?_
  refine h_iconst C (pc := 398) (v := nI 3) d_law_398 (by decide) ?_
  refine h_nadd C (pc := 399) d_law_399 ?_
  refine h_sld C hX hbl hbA (pc := 400) (v := xs (i + 3)) d_law_400 (vp_in_nI (by omega) (by omega)) (by rw [nI_clamp (by omega)]) ?_
  refine h_perm C List.perm_append_comm ?_
  refine h_callV C (M' := m_M_rule) (pc := 401) (q := 0) d_law_401 lm_L_43 (c_M_rule_0 _ _ hMI gs) v_M_rule rfl rfl rfl (by decide) rfl (Nat.le_of_ble_eq_true rfl) ?_
  rintro _ _ ⟨iM2, rM2, LM2, zM2, dM2, rfl, rfl, hM2, gs2⟩
  show pH p l e s m #[Value.ref b] below meth c D cI cJ A QQ 30 5664 404 _ (.int _ :: _) (wM aM iM2 rM2 LM2 zM2 ++ wX aX iX2 rX2 LX2)
  refine h_perm C List.perm_append_comm ?_
  refine h_icmp_eq C (pc := 404) (tgt := 641) d_law_404 (by decide) (fun _ => ?_) (fun h => absurd rfl h)
  exact kk _ _ _ _ _ _ _ _ _ _ _ _ hX2 hM2 gs2
set_option maxRecDepth 100000 in
set_option maxHeartbeats 4000000 in
theorem law_rule_1 {p : Program} {l : Launch} {e : Env} {s : State} {m : MethodId} {below : List Frame} {meth : Method} {c : Code} {b Ln : Nat} {xs : Nat → Int32} {D : va_G} {cI cJ : ClassId} {A : Nat → Prop} {QQ : State → Prop} {τ : Nat × Nat} (C : pCx (m_law meth.name) τ p s m #[Value.ref b] meth c D cI cJ A) (hX : va_X b Ln xs s s.heap) (hbl : b < s.heap.size) (hbA : ¬ A b) (hL : Ln ≤ 2048) (i : Nat) (hi : i + 4 ≤ Ln) {Ty : List (Nat × Nat)} {Tm : List (List Nat)} {Th : List Thm} {dX dM : List Nat} {aX : Nat → Nat} {iX : Nat → Int32} {rX : Nat → Nat → Int32} {LX : Nat → Int64} {aM : Nat → Nat} {iM : Nat → Int32} {rM : Nat → Nat → Int32} {LM : Nat → Nat → Int64} {zM : Int64} (hXI : XI Ty Tm Th dX iX rX LX) (hMI : MI Ty Tm Th (dcl Tm) dM iM rM LM) (gs : GS Ty Tm Th) (kk : ∀ (Ty : List (Nat × Nat)) (Tm : List (List Nat)) (Th : List Thm) (dX dM : List Nat) (iX : Nat → Int32) (rX : Nat → Nat → Int32) (LX : Nat → Int64) (iM : Nat → Int32) (rM : Nat → Nat → Int32) (LM : Nat → Nat → Int64) (zM : Int64), XI Ty Tm Th dX iX rX LX → MI Ty Tm Th (dcl Tm) dM iM rM LM → GS Ty Tm Th → pH p l e s m #[Value.ref b] below meth c D cI cJ A QQ 30 5664 641 [(3, .int (nI i)), (2, .ref (aM 0)), (1, .ref (aX 0)), (0, .ref b)] [] (wX aX iX rX LX ++ wM aM iM rM LM zM)) (hRe : xs (i + 1) = nI 1) : pH p l e s m #[Value.ref b] below meth c D cI cJ A QQ 30 5664 366 [(3, .int (nI i)), (2, .ref (aM 0)), (1, .ref (aX 0)), (0, .ref b)] [] (wX aX iX rX LX ++ wM aM iM rM LM zM) := by
  refine h_aload_n C (pc := 366) d_law_366 rfl ?_
  refine h_aload_n C (pc := 367) d_law_367 rfl ?_
  refine h_iload_n C (pc := 368) d_law_368 rfl ?_
  refine h_iconst C (pc := 369) (v := nI 1) d_law_369 (by decide) ?_
  refine h_nadd C (pc := 370) d_law_370 ?_
  refine h_sld C hX hbl hbA (pc := 371) (v := nI 1) d_law_371 (vp_in_nI (by omega) (by omega)) (by rw [nI_clamp (by omega)]; exact hRe) ?_
  refine h_aload_n C (pc := 372) d_law_372 rfl ?_
  refine h_iload_n C (pc := 373) d_law_373 rfl ?_
  refine h_iconst C (pc := 374) (v := nI 2) d_law_374 (by decide) ?_
  refine h_nadd C (pc := 375) d_law_375 ?_
  refine h_sld C hX hbl hbA (pc := 376) (v := xs (i + 2)) d_law_376 (vp_in_nI (by omega) (by omega)) (by rw [nI_clamp (by omega)]) ?_
  refine h_aload_n C (pc := 377) d_law_377 rfl ?_
  refine h_iload_n C (pc := 378) d_law_378 rfl ?_
  refine h_iconst C (pc := 379) (v := nI 3) d_law_379 (by decide) ?_
  refine h_nadd C (pc := 380) d_law_380 ?_
  refine h_sld C hX hbl hbA (pc := 381) (v := xs (i + 3)) d_law_381 (vp_in_nI (by omega) (by omega)) (by rw [nI_clamp (by omega)]) ?_
  refine h_callV C (M' := m_K_rule) (pc := 382) (q := 0) d_law_382 lm_L_39 (c_K_rule_1 _ _ hXI gs.tm gs.th) v_K_rule rfl rfl rfl (by decide) rfl (Nat.le_of_ble_eq_true rfl) ?_
  rintro _ _ ⟨iX2, rX2, LX2, dX2, rfl, rfl, hX2⟩
  show pH p l e s m #[Value.ref b] below meth c D cI cJ A QQ 30 5664 385 _ (.int _ :: _) (wX aX iX2 rX2 LX2 ++ wM aM iM rM LM zM)
  refine h_aload_n C (pc := 385) d_law_385 rfl ?_
  refine h_aload_n C (pc := 386) d_law_386 rfl ?_
  refine h_iload_n C (pc := 387) d_law_387 rfl ?_
  refine h_iconst C (pc := 388) (v := nI 1) d_law_388 (by decide) ?_
  refine h_nadd C (pc := 389) d_law_389 ?_
  refine h_sld C hX hbl hbA (pc := 390) (v := nI 1) d_law_390 (vp_in_nI (by omega) (by omega)) (by rw [nI_clamp (by omega)]; exact hRe) ?_
  refine h_aload_n C (pc := 391) d_law_391 rfl ?_
  refine h_iload_n C (pc := 392) d_law_392 rfl ?_
  refine h_iconst C (pc := 393) (v := nI 2) d_law_393 (by decide) ?_
  refine h_nadd C (pc := 394) d_law_394 ?_
  refine h_sld C hX hbl hbA (pc := 395) (v := xs (i + 2)) d_law_395 (vp_in_nI (by omega) (by omega)) (by rw [nI_clamp (by omega)]) ?_
  refine h_aload_n C (pc := 396) d_law_396 rfl ?_
  refine h_iload_n C (pc := 397) d_law_397 rfl ?_
  refine h_iconst C (pc := 398) (v := nI 3) d_law_398 (by decide) ?_
  refine h_nadd C (pc := 399) d_law_399 ?_
  refine h_sld C hX hbl hbA (pc := 400) (v := xs (i + 3)) d_law_400 (vp_in_nI (by omega) (by omega)) (by rw [nI_clamp (by omega)]) ?_
  refine h_perm C List.perm_append_comm ?_
  refine h_callV C (M' := m_M_rule) (pc := 401) (q := 0) d_law_401 lm_L_43 (c_M_rule_1 _ _ hMI gs) v_M_rule rfl rfl rfl (by decide) rfl (Nat.le_of_ble_eq_true rfl) ?_
  rintro _ _ ⟨iM2, rM2, LM2, zM2, dM2, rfl, rfl, hM2, gs2⟩
  show pH p l e s m #[Value.ref b] below meth c D cI cJ A QQ 30 5664 404 _ (.int _ :: _) (wM aM iM2 rM2 LM2 zM2 ++ wX aX iX2 rX2 LX2)
  refine h_perm C List.perm_append_comm ?_
  refine h_icmp_eq C (pc := 404) (tgt := 641) d_law_404 (by decide) (fun _ => ?_) (fun h => absurd rfl h)
  exact kk _ _ _ _ _ _ _ _ _ _ _ _ hX2 hM2 gs2
set_option maxRecDepth 100000 in
set_option maxHeartbeats 4000000 in
theorem law_rule_2 {p : Program} {l : Launch} {e : Env} {s : State} {m : MethodId} {below : List Frame} {meth : Method} {c : Code} {b Ln : Nat} {xs : Nat → Int32} {D : va_G} {cI cJ : ClassId} {A : Nat → Prop} {QQ : State → Prop} {τ : Nat × Nat} (C : pCx (m_law meth.name) τ p s m #[Value.ref b] meth c D cI cJ A) (hX : va_X b Ln xs s s.heap) (hbl : b < s.heap.size) (hbA : ¬ A b) (hL : Ln ≤ 2048) (i : Nat) (hi : i + 4 ≤ Ln) {Ty : List (Nat × Nat)} {Tm : List (List Nat)} {Th : List Thm} {dX dM : List Nat} {aX : Nat → Nat} {iX : Nat → Int32} {rX : Nat → Nat → Int32} {LX : Nat → Int64} {aM : Nat → Nat} {iM : Nat → Int32} {rM : Nat → Nat → Int32} {LM : Nat → Nat → Int64} {zM : Int64} (hXI : XI Ty Tm Th dX iX rX LX) (hMI : MI Ty Tm Th (dcl Tm) dM iM rM LM) (gs : GS Ty Tm Th) (kk : ∀ (Ty : List (Nat × Nat)) (Tm : List (List Nat)) (Th : List Thm) (dX dM : List Nat) (iX : Nat → Int32) (rX : Nat → Nat → Int32) (LX : Nat → Int64) (iM : Nat → Int32) (rM : Nat → Nat → Int32) (LM : Nat → Nat → Int64) (zM : Int64), XI Ty Tm Th dX iX rX LX → MI Ty Tm Th (dcl Tm) dM iM rM LM → GS Ty Tm Th → pH p l e s m #[Value.ref b] below meth c D cI cJ A QQ 30 5664 641 [(3, .int (nI i)), (2, .ref (aM 0)), (1, .ref (aX 0)), (0, .ref b)] [] (wX aX iX rX LX ++ wM aM iM rM LM zM)) (hRe : xs (i + 1) = nI 2) : pH p l e s m #[Value.ref b] below meth c D cI cJ A QQ 30 5664 366 [(3, .int (nI i)), (2, .ref (aM 0)), (1, .ref (aX 0)), (0, .ref b)] [] (wX aX iX rX LX ++ wM aM iM rM LM zM) := by
  refine h_aload_n C (pc := 366) d_law_366 rfl ?_
  refine h_aload_n C (pc := 367) d_law_367 rfl ?_
  refine h_iload_n C (pc := 368) d_law_368 rfl ?_
  refine h_iconst C (pc := 369) (v := nI 1) d_law_369 (by decide) ?_
  refine h_nadd C (pc := 370) d_law_370 ?_
  refine h_sld C hX hbl hbA (pc := 371) (v := nI 2) d_law_371 (vp_in_nI (by omega) (by omega)) (by rw [nI_clamp (by omega)]; exact hRe) ?_
  refine h_aload_n C (pc := 372) d_law_372 rfl ?_
  refine h_iload_n C (pc := 373) d_law_373 rfl ?_
  refine h_iconst C (pc := 374) (v := nI 2) d_law_374 (by decide) ?_
  refine h_nadd C (pc := 375) d_law_375 ?_
  refine h_sld C hX hbl hbA (pc := 376) (v := xs (i + 2)) d_law_376 (vp_in_nI (by omega) (by omega)) (by rw [nI_clamp (by omega)]) ?_
  refine h_aload_n C (pc := 377) d_law_377 rfl ?_
  refine h_iload_n C (pc := 378) d_law_378 rfl ?_
  refine h_iconst C (pc := 379) (v := nI 3) d_law_379 (by decide) ?_
  refine h_nadd C (pc := 380) d_law_380 ?_
  refine h_sld C hX hbl hbA (pc := 381) (v := xs (i + 3)) d_law_381 (vp_in_nI (by omega) (by omega)) (by rw [nI_clamp (by omega)]) ?_
  refine h_callV C (M' := m_K_rule) (pc := 382) (q := 0) d_law_382 lm_L_39 (c_K_rule_2 _ _ hXI gs.tm gs.th) v_K_rule rfl rfl rfl (by decide) rfl (Nat.le_of_ble_eq_true rfl) ?_
  rintro _ _ ⟨iX2, rX2, LX2, dX2, rfl, rfl, hX2⟩
  show pH p l e s m #[Value.ref b] below meth c D cI cJ A QQ 30 5664 385 _ (.int _ :: _) (wX aX iX2 rX2 LX2 ++ wM aM iM rM LM zM)
  refine h_aload_n C (pc := 385) d_law_385 rfl ?_
  refine h_aload_n C (pc := 386) d_law_386 rfl ?_
  refine h_iload_n C (pc := 387) d_law_387 rfl ?_
  refine h_iconst C (pc := 388) (v := nI 1) d_law_388 (by decide) ?_
  refine h_nadd C (pc := 389) d_law_389 ?_
  refine h_sld C hX hbl hbA (pc := 390) (v := nI 2) d_law_390 (vp_in_nI (by omega) (by omega)) (by rw [nI_clamp (by omega)]; exact hRe) ?_
  refine h_aload_n C (pc := 391) d_law_391 rfl ?_
  refine h_iload_n C (pc := 392) d_law_392 rfl ?_
  refine h_iconst C (pc := 393) (v := nI 2) d_law_393 (by decide) ?_
  refine h_nadd C (pc := 394) d_law_394 ?_
  refine h_sld C hX hbl hbA (pc := 395) (v := xs (i + 2)) d_law_395 (vp_in_nI (by omega) (by omega)) (by rw [nI_clamp (by omega)]) ?_
  refine h_aload_n C (pc := 396) d_law_396 rfl ?_
  refine h_iload_n C (pc := 397) d_law_397 rfl ?_
  refine h_iconst C (pc := 398) (v := nI 3) d_law_398 (by decide) ?_
  refine h_nadd C (pc := 399) d_law_399 ?_
  refine h_sld C hX hbl hbA (pc := 400) (v := xs (i + 3)) d_law_400 (vp_in_nI (by omega) (by omega)) (by rw [nI_clamp (by omega)]) ?_
  refine h_perm C List.perm_append_comm ?_
  refine h_callV C (M' := m_M_rule) (pc := 401) (q := 0) d_law_401 lm_L_43 (c_M_rule_2 _ _ hMI gs) v_M_rule rfl rfl rfl (by decide) rfl (Nat.le_of_ble_eq_true rfl) ?_
  rintro _ _ ⟨iM2, rM2, LM2, zM2, dM2, rfl, rfl, hM2, gs2⟩
  show pH p l e s m #[Value.ref b] below meth c D cI cJ A QQ 30 5664 404 _ (.int _ :: _) (wM aM iM2 rM2 LM2 zM2 ++ wX aX iX2 rX2 LX2)
  refine h_perm C List.perm_append_comm ?_
  refine h_icmp_eq C (pc := 404) (tgt := 641) d_law_404 (by decide) (fun _ => ?_) (fun h => absurd rfl h)
  exact kk _ _ _ _ _ _ _ _ _ _ _ _ hX2 hM2 gs2
set_option maxRecDepth 100000 in
set_option maxHeartbeats 4000000 in
theorem law_rule_3 {p : Program} {l : Launch} {e : Env} {s : State} {m : MethodId} {below : List Frame} {meth : Method} {c : Code} {b Ln : Nat} {xs : Nat → Int32} {D : va_G} {cI cJ : ClassId} {A : Nat → Prop} {QQ : State → Prop} {τ : Nat × Nat} (C : pCx (m_law meth.name) τ p s m #[Value.ref b] meth c D cI cJ A) (hX : va_X b Ln xs s s.heap) (hbl : b < s.heap.size) (hbA : ¬ A b) (hL : Ln ≤ 2048) (i : Nat) (hi : i + 4 ≤ Ln) {Ty : List (Nat × Nat)} {Tm : List (List Nat)} {Th : List Thm} {dX dM : List Nat} {aX : Nat → Nat} {iX : Nat → Int32} {rX : Nat → Nat → Int32} {LX : Nat → Int64} {aM : Nat → Nat} {iM : Nat → Int32} {rM : Nat → Nat → Int32} {LM : Nat → Nat → Int64} {zM : Int64} (hXI : XI Ty Tm Th dX iX rX LX) (hMI : MI Ty Tm Th (dcl Tm) dM iM rM LM) (gs : GS Ty Tm Th) (kk : ∀ (Ty : List (Nat × Nat)) (Tm : List (List Nat)) (Th : List Thm) (dX dM : List Nat) (iX : Nat → Int32) (rX : Nat → Nat → Int32) (LX : Nat → Int64) (iM : Nat → Int32) (rM : Nat → Nat → Int32) (LM : Nat → Nat → Int64) (zM : Int64), XI Ty Tm Th dX iX rX LX → MI Ty Tm Th (dcl Tm) dM iM rM LM → GS Ty Tm Th → pH p l e s m #[Value.ref b] below meth c D cI cJ A QQ 30 5664 641 [(3, .int (nI i)), (2, .ref (aM 0)), (1, .ref (aX 0)), (0, .ref b)] [] (wX aX iX rX LX ++ wM aM iM rM LM zM)) (hRe : xs (i + 1) = nI 3) : pH p l e s m #[Value.ref b] below meth c D cI cJ A QQ 30 5664 366 [(3, .int (nI i)), (2, .ref (aM 0)), (1, .ref (aX 0)), (0, .ref b)] [] (wX aX iX rX LX ++ wM aM iM rM LM zM) := by
  refine h_aload_n C (pc := 366) d_law_366 rfl ?_
  refine h_aload_n C (pc := 367) d_law_367 rfl ?_
  refine h_iload_n C (pc := 368) d_law_368 rfl ?_
  refine h_iconst C (pc := 369) (v := nI 1) d_law_369 (by decide) ?_
  refine h_nadd C (pc := 370) d_law_370 ?_
  refine h_sld C hX hbl hbA (pc := 371) (v := nI 3) d_law_371 (vp_in_nI (by omega) (by omega)) (by rw [nI_clamp (by omega)]; exact hRe) ?_
  refine h_aload_n C (pc := 372) d_law_372 rfl ?_
  refine h_iload_n C (pc := 373) d_law_373 rfl ?_
  refine h_iconst C (pc := 374) (v := nI 2) d_law_374 (by decide) ?_
  refine h_nadd C (pc := 375) d_law_375 ?_
  refine h_sld C hX hbl hbA (pc := 376) (v := xs (i + 2)) d_law_376 (vp_in_nI (by omega) (by omega)) (by rw [nI_clamp (by omega)]) ?_
  refine h_aload_n C (pc := 377) d_law_377 rfl ?_
  refine h_iload_n C (pc := 378) d_law_378 rfl ?_
  refine h_iconst C (pc := 379) (v := nI 3) d_law_379 (by decide) ?_
  refine h_nadd C (pc := 380) d_law_380 ?_
  refine h_sld C hX hbl hbA (pc := 381) (v := xs (i + 3)) d_law_381 (vp_in_nI (by omega) (by omega)) (by rw [nI_clamp (by omega)]) ?_
  refine h_callV C (M' := m_K_rule) (pc := 382) (q := 0) d_law_382 lm_L_39 (c_K_rule_3 _ _ hXI gs.tm gs.th) v_K_rule rfl rfl rfl (by decide) rfl (Nat.le_of_ble_eq_true rfl) ?_
  rintro _ _ ⟨iX2, rX2, LX2, dX2, rfl, rfl, hX2⟩
  show pH p l e s m #[Value.ref b] below meth c D cI cJ A QQ 30 5664 385 _ (.int _ :: _) (wX aX iX2 rX2 LX2 ++ wM aM iM rM LM zM)
  refine h_aload_n C (pc := 385) d_law_385 rfl ?_
  refine h_aload_n C (pc := 386) d_law_386 rfl ?_
  refine h_iload_n C (pc := 387) d_law_387 rfl ?_
  refine h_iconst C (pc := 388) (v := nI 1) d_law_388 (by decide) ?_
  refine h_nadd C (pc := 389) d_law_389 ?_
  refine h_sld C hX hbl hbA (pc := 390) (v := nI 3) d_law_390 (vp_in_nI (by omega) (by omega)) (by rw [nI_clamp (by omega)]; exact hRe) ?_
  refine h_aload_n C (pc := 391) d_law_391 rfl ?_
  refine h_iload_n C (pc := 392) d_law_392 rfl ?_
  refine h_iconst C (pc := 393) (v := nI 2) d_law_393 (by decide) ?_
  refine h_nadd C (pc := 394) d_law_394 ?_
  refine h_sld C hX hbl hbA (pc := 395) (v := xs (i + 2)) d_law_395 (vp_in_nI (by omega) (by omega)) (by rw [nI_clamp (by omega)]) ?_
  refine h_aload_n C (pc := 396) d_law_396 rfl ?_
  refine h_iload_n C (pc := 397) d_law_397 rfl ?_
  refine h_iconst C (pc := 398) (v := nI 3) d_law_398 (by decide) ?_
  refine h_nadd C (pc := 399) d_law_399 ?_
  refine h_sld C hX hbl hbA (pc := 400) (v := xs (i + 3)) d_law_400 (vp_in_nI (by omega) (by omega)) (by rw [nI_clamp (by omega)]) ?_
  refine h_perm C List.perm_append_comm ?_
  refine h_callV C (M' := m_M_rule) (pc := 401) (q := 0) d_law_401 lm_L_43 (c_M_rule_3 _ _ hMI gs) v_M_rule rfl rfl rfl (by decide) rfl (Nat.le_of_ble_eq_true rfl) ?_
  rintro _ _ ⟨iM2, rM2, LM2, zM2, dM2, rfl, rfl, hM2, gs2⟩
  show pH p l e s m #[Value.ref b] below meth c D cI cJ A QQ 30 5664 404 _ (.int _ :: _) (wM aM iM2 rM2 LM2 zM2 ++ wX aX iX2 rX2 LX2)
  refine h_perm C List.perm_append_comm ?_
  refine h_icmp_eq C (pc := 404) (tgt := 641) d_law_404 (by decide) (fun _ => ?_) (fun h => absurd rfl h)
  exact kk _ _ _ _ _ _ _ _ _ _ _ _ hX2 hM2 gs2
set_option maxRecDepth 100000 in
set_option maxHeartbeats 4000000 in
theorem law_rule_4 {p : Program} {l : Launch} {e : Env} {s : State} {m : MethodId} {below : List Frame} {meth : Method} {c : Code} {b Ln : Nat} {xs : Nat → Int32} {D : va_G} {cI cJ : ClassId} {A : Nat → Prop} {QQ : State → Prop} {τ : Nat × Nat} (C : pCx (m_law meth.name) τ p s m #[Value.ref b] meth c D cI cJ A) (hX : va_X b Ln xs s s.heap) (hbl : b < s.heap.size) (hbA : ¬ A b) (hL : Ln ≤ 2048) (i : Nat) (hi : i + 4 ≤ Ln) {Ty : List (Nat × Nat)} {Tm : List (List Nat)} {Th : List Thm} {dX dM : List Nat} {aX : Nat → Nat} {iX : Nat → Int32} {rX : Nat → Nat → Int32} {LX : Nat → Int64} {aM : Nat → Nat} {iM : Nat → Int32} {rM : Nat → Nat → Int32} {LM : Nat → Nat → Int64} {zM : Int64} (hXI : XI Ty Tm Th dX iX rX LX) (hMI : MI Ty Tm Th (dcl Tm) dM iM rM LM) (gs : GS Ty Tm Th) (kk : ∀ (Ty : List (Nat × Nat)) (Tm : List (List Nat)) (Th : List Thm) (dX dM : List Nat) (iX : Nat → Int32) (rX : Nat → Nat → Int32) (LX : Nat → Int64) (iM : Nat → Int32) (rM : Nat → Nat → Int32) (LM : Nat → Nat → Int64) (zM : Int64), XI Ty Tm Th dX iX rX LX → MI Ty Tm Th (dcl Tm) dM iM rM LM → GS Ty Tm Th → pH p l e s m #[Value.ref b] below meth c D cI cJ A QQ 30 5664 641 [(3, .int (nI i)), (2, .ref (aM 0)), (1, .ref (aX 0)), (0, .ref b)] [] (wX aX iX rX LX ++ wM aM iM rM LM zM)) (hRe : xs (i + 1) = nI 4) : pH p l e s m #[Value.ref b] below meth c D cI cJ A QQ 30 5664 366 [(3, .int (nI i)), (2, .ref (aM 0)), (1, .ref (aX 0)), (0, .ref b)] [] (wX aX iX rX LX ++ wM aM iM rM LM zM) := by
  refine h_aload_n C (pc := 366) d_law_366 rfl ?_
  refine h_aload_n C (pc := 367) d_law_367 rfl ?_
  refine h_iload_n C (pc := 368) d_law_368 rfl ?_
  refine h_iconst C (pc := 369) (v := nI 1) d_law_369 (by decide) ?_
  refine h_nadd C (pc := 370) d_law_370 ?_
  refine h_sld C hX hbl hbA (pc := 371) (v := nI 4) d_law_371 (vp_in_nI (by omega) (by omega)) (by rw [nI_clamp (by omega)]; exact hRe) ?_
  refine h_aload_n C (pc := 372) d_law_372 rfl ?_
  refine h_iload_n C (pc := 373) d_law_373 rfl ?_
  refine h_iconst C (pc := 374) (v := nI 2) d_law_374 (by decide) ?_
  refine h_nadd C (pc := 375) d_law_375 ?_
  refine h_sld C hX hbl hbA (pc := 376) (v := xs (i + 2)) d_law_376 (vp_in_nI (by omega) (by omega)) (by rw [nI_clamp (by omega)]) ?_
  refine h_aload_n C (pc := 377) d_law_377 rfl ?_
  refine h_iload_n C (pc := 378) d_law_378 rfl ?_
  refine h_iconst C (pc := 379) (v := nI 3) d_law_379 (by decide) ?_
  refine h_nadd C (pc := 380) d_law_380 ?_
  refine h_sld C hX hbl hbA (pc := 381) (v := xs (i + 3)) d_law_381 (vp_in_nI (by omega) (by omega)) (by rw [nI_clamp (by omega)]) ?_
  refine h_callV C (M' := m_K_rule) (pc := 382) (q := 0) d_law_382 lm_L_39 (c_K_rule_4 _ _ hXI gs.tm gs.th) v_K_rule rfl rfl rfl (by decide) rfl (Nat.le_of_ble_eq_true rfl) ?_
  rintro _ _ ⟨iX2, rX2, LX2, dX2, rfl, rfl, hX2⟩
  show pH p l e s m #[Value.ref b] below meth c D cI cJ A QQ 30 5664 385 _ (.int _ :: _) (wX aX iX2 rX2 LX2 ++ wM aM iM rM LM zM)
  refine h_aload_n C (pc := 385) d_law_385 rfl ?_
  refine h_aload_n C (pc := 386) d_law_386 rfl ?_
  refine h_iload_n C (pc := 387) d_law_387 rfl ?_
  refine h_iconst C (pc := 388) (v := nI 1) d_law_388 (by decide) ?_
  refine h_nadd C (pc := 389) d_law_389 ?_
  refine h_sld C hX hbl hbA (pc := 390) (v := nI 4) d_law_390 (vp_in_nI (by omega) (by omega)) (by rw [nI_clamp (by omega)]; exact hRe) ?_
  refine h_aload_n C (pc := 391) d_law_391 rfl ?_
  refine h_iload_n C (pc := 392) d_law_392 rfl ?_
  refine h_iconst C (pc := 393) (v := nI 2) d_law_393 (by decide) ?_
  refine h_nadd C (pc := 394) d_law_394 ?_
  refine h_sld C hX hbl hbA (pc := 395) (v := xs (i + 2)) d_law_395 (vp_in_nI (by omega) (by omega)) (by rw [nI_clamp (by omega)]) ?_
  refine h_aload_n C (pc := 396) d_law_396 rfl ?_
  refine h_iload_n C (pc := 397) d_law_397 rfl ?_
  refine h_iconst C (pc := 398) (v := nI 3) d_law_398 (by decide) ?_
  refine h_nadd C (pc := 399) d_law_399 ?_
  refine h_sld C hX hbl hbA (pc := 400) (v := xs (i + 3)) d_law_400 (vp_in_nI (by omega) (by omega)) (by rw [nI_clamp (by omega)]) ?_
  refine h_perm C List.perm_append_comm ?_
  refine h_callV C (M' := m_M_rule) (pc := 401) (q := 0) d_law_401 lm_L_43 (c_M_rule_4 _ _ hMI gs) v_M_rule rfl rfl rfl (by decide) rfl (Nat.le_of_ble_eq_true rfl) ?_
  rintro _ _ ⟨iM2, rM2, LM2, zM2, dM2, rfl, rfl, hM2, gs2⟩
  show pH p l e s m #[Value.ref b] below meth c D cI cJ A QQ 30 5664 404 _ (.int _ :: _) (wM aM iM2 rM2 LM2 zM2 ++ wX aX iX2 rX2 LX2)
  refine h_perm C List.perm_append_comm ?_
  refine h_icmp_eq C (pc := 404) (tgt := 641) d_law_404 (by decide) (fun _ => ?_) (fun h => absurd rfl h)
  exact kk _ _ _ _ _ _ _ _ _ _ _ _ hX2 hM2 gs2
set_option maxRecDepth 100000 in
set_option maxHeartbeats 4000000 in
theorem law_rule_5 {p : Program} {l : Launch} {e : Env} {s : State} {m : MethodId} {below : List Frame} {meth : Method} {c : Code} {b Ln : Nat} {xs : Nat → Int32} {D : va_G} {cI cJ : ClassId} {A : Nat → Prop} {QQ : State → Prop} {τ : Nat × Nat} (C : pCx (m_law meth.name) τ p s m #[Value.ref b] meth c D cI cJ A) (hX : va_X b Ln xs s s.heap) (hbl : b < s.heap.size) (hbA : ¬ A b) (hL : Ln ≤ 2048) (i : Nat) (hi : i + 4 ≤ Ln) {Ty : List (Nat × Nat)} {Tm : List (List Nat)} {Th : List Thm} {dX dM : List Nat} {aX : Nat → Nat} {iX : Nat → Int32} {rX : Nat → Nat → Int32} {LX : Nat → Int64} {aM : Nat → Nat} {iM : Nat → Int32} {rM : Nat → Nat → Int32} {LM : Nat → Nat → Int64} {zM : Int64} (hXI : XI Ty Tm Th dX iX rX LX) (hMI : MI Ty Tm Th (dcl Tm) dM iM rM LM) (gs : GS Ty Tm Th) (kk : ∀ (Ty : List (Nat × Nat)) (Tm : List (List Nat)) (Th : List Thm) (dX dM : List Nat) (iX : Nat → Int32) (rX : Nat → Nat → Int32) (LX : Nat → Int64) (iM : Nat → Int32) (rM : Nat → Nat → Int32) (LM : Nat → Nat → Int64) (zM : Int64), XI Ty Tm Th dX iX rX LX → MI Ty Tm Th (dcl Tm) dM iM rM LM → GS Ty Tm Th → pH p l e s m #[Value.ref b] below meth c D cI cJ A QQ 30 5664 641 [(3, .int (nI i)), (2, .ref (aM 0)), (1, .ref (aX 0)), (0, .ref b)] [] (wX aX iX rX LX ++ wM aM iM rM LM zM)) (hRe : xs (i + 1) = nI 5) : pH p l e s m #[Value.ref b] below meth c D cI cJ A QQ 30 5664 366 [(3, .int (nI i)), (2, .ref (aM 0)), (1, .ref (aX 0)), (0, .ref b)] [] (wX aX iX rX LX ++ wM aM iM rM LM zM) := by
  refine h_aload_n C (pc := 366) d_law_366 rfl ?_
  refine h_aload_n C (pc := 367) d_law_367 rfl ?_
  refine h_iload_n C (pc := 368) d_law_368 rfl ?_
  refine h_iconst C (pc := 369) (v := nI 1) d_law_369 (by decide) ?_
  refine h_nadd C (pc := 370) d_law_370 ?_
  refine h_sld C hX hbl hbA (pc := 371) (v := nI 5) d_law_371 (vp_in_nI (by omega) (by omega)) (by rw [nI_clamp (by omega)]; exact hRe) ?_
  refine h_aload_n C (pc := 372) d_law_372 rfl ?_
  refine h_iload_n C (pc := 373) d_law_373 rfl ?_
  refine h_iconst C (pc := 374) (v := nI 2) d_law_374 (by decide) ?_
  refine h_nadd C (pc := 375) d_law_375 ?_
  refine h_sld C hX hbl hbA (pc := 376) (v := xs (i + 2)) d_law_376 (vp_in_nI (by omega) (by omega)) (by rw [nI_clamp (by omega)]) ?_
  refine h_aload_n C (pc := 377) d_law_377 rfl ?_
  refine h_iload_n C (pc := 378) d_law_378 rfl ?_
  refine h_iconst C (pc := 379) (v := nI 3) d_law_379 (by decide) ?_
  refine h_nadd C (pc := 380) d_law_380 ?_
  refine h_sld C hX hbl hbA (pc := 381) (v := xs (i + 3)) d_law_381 (vp_in_nI (by omega) (by omega)) (by rw [nI_clamp (by omega)]) ?_
  refine h_callV C (M' := m_K_rule) (pc := 382) (q := 0) d_law_382 lm_L_39 (c_K_rule_5 _ _ hXI gs.tm gs.th) v_K_rule rfl rfl rfl (by decide) rfl (Nat.le_of_ble_eq_true rfl) ?_
  rintro _ _ ⟨iX2, rX2, LX2, dX2, rfl, rfl, hX2⟩
  show pH p l e s m #[Value.ref b] below meth c D cI cJ A QQ 30 5664 385 _ (.int _ :: _) (wX aX iX2 rX2 LX2 ++ wM aM iM rM LM zM)
  refine h_aload_n C (pc := 385) d_law_385 rfl ?_
  refine h_aload_n C (pc := 386) d_law_386 rfl ?_
  refine h_iload_n C (pc := 387) d_law_387 rfl ?_
  refine h_iconst C (pc := 388) (v := nI 1) d_law_388 (by decide) ?_
  refine h_nadd C (pc := 389) d_law_389 ?_
  refine h_sld C hX hbl hbA (pc := 390) (v := nI 5) d_law_390 (vp_in_nI (by omega) (by omega)) (by rw [nI_clamp (by omega)]; exact hRe) ?_
  refine h_aload_n C (pc := 391) d_law_391 rfl ?_
  refine h_iload_n C (pc := 392) d_law_392 rfl ?_
  refine h_iconst C (pc := 393) (v := nI 2) d_law_393 (by decide) ?_
  refine h_nadd C (pc := 394) d_law_394 ?_
  refine h_sld C hX hbl hbA (pc := 395) (v := xs (i + 2)) d_law_395 (vp_in_nI (by omega) (by omega)) (by rw [nI_clamp (by omega)]) ?_
  refine h_aload_n C (pc := 396) d_law_396 rfl ?_
  refine h_iload_n C (pc := 397) d_law_397 rfl ?_
  refine h_iconst C (pc := 398) (v := nI 3) d_law_398 (by decide) ?_
  refine h_nadd C (pc := 399) d_law_399 ?_
  refine h_sld C hX hbl hbA (pc := 400) (v := xs (i + 3)) d_law_400 (vp_in_nI (by omega) (by omega)) (by rw [nI_clamp (by omega)]) ?_
  refine h_perm C List.perm_append_comm ?_
  refine h_callV C (M' := m_M_rule) (pc := 401) (q := 0) d_law_401 lm_L_43 (c_M_rule_5 _ _ hMI gs) v_M_rule rfl rfl rfl (by decide) rfl (Nat.le_of_ble_eq_true rfl) ?_
  rintro _ _ ⟨iM2, rM2, LM2, zM2, dM2, rfl, rfl, hM2, gs2⟩
  show pH p l e s m #[Value.ref b] below meth c D cI cJ A QQ 30 5664 404 _ (.int _ :: _) (wM aM iM2 rM2 LM2 zM2 ++ wX aX iX2 rX2 LX2)
  refine h_perm C List.perm_append_comm ?_
  refine h_icmp_eq C (pc := 404) (tgt := 641) d_law_404 (by decide) (fun _ => ?_) (fun h => absurd rfl h)
  exact kk _ _ _ _ _ _ _ _ _ _ _ _ hX2 hM2 gs2
set_option maxRecDepth 100000 in
set_option maxHeartbeats 4000000 in
theorem law_rule_6 {p : Program} {l : Launch} {e : Env} {s : State} {m : MethodId} {below : List Frame} {meth : Method} {c : Code} {b Ln : Nat} {xs : Nat → Int32} {D : va_G} {cI cJ : ClassId} {A : Nat → Prop} {QQ : State → Prop} {τ : Nat × Nat} (C : pCx (m_law meth.name) τ p s m #[Value.ref b] meth c D cI cJ A) (hX : va_X b Ln xs s s.heap) (hbl : b < s.heap.size) (hbA : ¬ A b) (hL : Ln ≤ 2048) (i : Nat) (hi : i + 4 ≤ Ln) {Ty : List (Nat × Nat)} {Tm : List (List Nat)} {Th : List Thm} {dX dM : List Nat} {aX : Nat → Nat} {iX : Nat → Int32} {rX : Nat → Nat → Int32} {LX : Nat → Int64} {aM : Nat → Nat} {iM : Nat → Int32} {rM : Nat → Nat → Int32} {LM : Nat → Nat → Int64} {zM : Int64} (hXI : XI Ty Tm Th dX iX rX LX) (hMI : MI Ty Tm Th (dcl Tm) dM iM rM LM) (gs : GS Ty Tm Th) (kk : ∀ (Ty : List (Nat × Nat)) (Tm : List (List Nat)) (Th : List Thm) (dX dM : List Nat) (iX : Nat → Int32) (rX : Nat → Nat → Int32) (LX : Nat → Int64) (iM : Nat → Int32) (rM : Nat → Nat → Int32) (LM : Nat → Nat → Int64) (zM : Int64), XI Ty Tm Th dX iX rX LX → MI Ty Tm Th (dcl Tm) dM iM rM LM → GS Ty Tm Th → pH p l e s m #[Value.ref b] below meth c D cI cJ A QQ 30 5664 641 [(3, .int (nI i)), (2, .ref (aM 0)), (1, .ref (aX 0)), (0, .ref b)] [] (wX aX iX rX LX ++ wM aM iM rM LM zM)) (hRe : xs (i + 1) = nI 6) : pH p l e s m #[Value.ref b] below meth c D cI cJ A QQ 30 5664 366 [(3, .int (nI i)), (2, .ref (aM 0)), (1, .ref (aX 0)), (0, .ref b)] [] (wX aX iX rX LX ++ wM aM iM rM LM zM) := by
  refine h_aload_n C (pc := 366) d_law_366 rfl ?_
  refine h_aload_n C (pc := 367) d_law_367 rfl ?_
  refine h_iload_n C (pc := 368) d_law_368 rfl ?_
  refine h_iconst C (pc := 369) (v := nI 1) d_law_369 (by decide) ?_
  refine h_nadd C (pc := 370) d_law_370 ?_
  refine h_sld C hX hbl hbA (pc := 371) (v := nI 6) d_law_371 (vp_in_nI (by omega) (by omega)) (by rw [nI_clamp (by omega)]; exact hRe) ?_
  refine h_aload_n C (pc := 372) d_law_372 rfl ?_
  refine h_iload_n C (pc := 373) d_law_373 rfl ?_
  refine h_iconst C (pc := 374) (v := nI 2) d_law_374 (by decide) ?_
  refine h_nadd C (pc := 375) d_law_375 ?_
  refine h_sld C hX hbl hbA (pc := 376) (v := xs (i + 2)) d_law_376 (vp_in_nI (by omega) (by omega)) (by rw [nI_clamp (by omega)]) ?_
  refine h_aload_n C (pc := 377) d_law_377 rfl ?_
  refine h_iload_n C (pc := 378) d_law_378 rfl ?_
  refine h_iconst C (pc := 379) (v := nI 3) d_law_379 (by decide) ?_
  refine h_nadd C (pc := 380) d_law_380 ?_
  refine h_sld C hX hbl hbA (pc := 381) (v := xs (i + 3)) d_law_381 (vp_in_nI (by omega) (by omega)) (by rw [nI_clamp (by omega)]) ?_
  refine h_callV C (M' := m_K_rule) (pc := 382) (q := 0) d_law_382 lm_L_39 (c_K_rule_6 _ _ hXI gs.tm gs.th) v_K_rule rfl rfl rfl (by decide) rfl (Nat.le_of_ble_eq_true rfl) ?_
  rintro _ _ ⟨iX2, rX2, LX2, dX2, rfl, rfl, hX2⟩
  show pH p l e s m #[Value.ref b] below meth c D cI cJ A QQ 30 5664 385 _ (.int _ :: _) (wX aX iX2 rX2 LX2 ++ wM aM iM rM LM zM)
  refine h_aload_n C (pc := 385) d_law_385 rfl ?_
  refine h_aload_n C (pc := 386) d_law_386 rfl ?_
  refine h_iload_n C (pc := 387) d_law_387 rfl ?_
  refine h_iconst C (pc := 388) (v := nI 1) d_law_388 (by decide) ?_
  refine h_nadd C (pc := 389) d_law_389 ?_
  refine h_sld C hX hbl hbA (pc := 390) (v := nI 6) d_law_390 (vp_in_nI (by omega) (by omega)) (by rw [nI_clamp (by omega)]; exact hRe) ?_
  refine h_aload_n C (pc := 391) d_law_391 rfl ?_
  refine h_iload_n C (pc := 392) d_law_392 rfl ?_
  refine h_iconst C (pc := 393) (v := nI 2) d_law_393 (by decide) ?_
  refine h_nadd C (pc := 394) d_law_394 ?_
  refine h_sld C hX hbl hbA (pc := 395) (v := xs (i + 2)) d_law_395 (vp_in_nI (by omega) (by omega)) (by rw [nI_clamp (by omega)]) ?_
  refine h_aload_n C (pc := 396) d_law_396 rfl ?_
  refine h_iload_n C (pc := 397) d_law_397 rfl ?_
  refine h_iconst C (pc := 398) (v := nI 3) d_law_398 (by decide) ?_
  refine h_nadd C (pc := 399) d_law_399 ?_
  refine h_sld C hX hbl hbA (pc := 400) (v := xs (i + 3)) d_law_400 (vp_in_nI (by omega) (by omega)) (by rw [nI_clamp (by omega)]) ?_
  refine h_perm C List.perm_append_comm ?_
  refine h_callV C (M' := m_M_rule) (pc := 401) (q := 0) d_law_401 lm_L_43 (c_M_rule_6 _ _ hMI gs) v_M_rule rfl rfl rfl (by decide) rfl (Nat.le_of_ble_eq_true rfl) ?_
  rintro _ _ ⟨iM2, rM2, LM2, zM2, dM2, rfl, rfl, hM2, gs2⟩
  show pH p l e s m #[Value.ref b] below meth c D cI cJ A QQ 30 5664 404 _ (.int _ :: _) (wM aM iM2 rM2 LM2 zM2 ++ wX aX iX2 rX2 LX2)
  refine h_perm C List.perm_append_comm ?_
  refine h_icmp_eq C (pc := 404) (tgt := 641) d_law_404 (by decide) (fun _ => ?_) (fun h => absurd rfl h)
  exact kk _ _ _ _ _ _ _ _ _ _ _ _ hX2 hM2 gs2
set_option maxRecDepth 100000 in
set_option maxHeartbeats 4000000 in
theorem law_rule_7 {p : Program} {l : Launch} {e : Env} {s : State} {m : MethodId} {below : List Frame} {meth : Method} {c : Code} {b Ln : Nat} {xs : Nat → Int32} {D : va_G} {cI cJ : ClassId} {A : Nat → Prop} {QQ : State → Prop} {τ : Nat × Nat} (C : pCx (m_law meth.name) τ p s m #[Value.ref b] meth c D cI cJ A) (hX : va_X b Ln xs s s.heap) (hbl : b < s.heap.size) (hbA : ¬ A b) (hL : Ln ≤ 2048) (i : Nat) (hi : i + 4 ≤ Ln) {Ty : List (Nat × Nat)} {Tm : List (List Nat)} {Th : List Thm} {dX dM : List Nat} {aX : Nat → Nat} {iX : Nat → Int32} {rX : Nat → Nat → Int32} {LX : Nat → Int64} {aM : Nat → Nat} {iM : Nat → Int32} {rM : Nat → Nat → Int32} {LM : Nat → Nat → Int64} {zM : Int64} (hXI : XI Ty Tm Th dX iX rX LX) (hMI : MI Ty Tm Th (dcl Tm) dM iM rM LM) (gs : GS Ty Tm Th) (kk : ∀ (Ty : List (Nat × Nat)) (Tm : List (List Nat)) (Th : List Thm) (dX dM : List Nat) (iX : Nat → Int32) (rX : Nat → Nat → Int32) (LX : Nat → Int64) (iM : Nat → Int32) (rM : Nat → Nat → Int32) (LM : Nat → Nat → Int64) (zM : Int64), XI Ty Tm Th dX iX rX LX → MI Ty Tm Th (dcl Tm) dM iM rM LM → GS Ty Tm Th → pH p l e s m #[Value.ref b] below meth c D cI cJ A QQ 30 5664 641 [(3, .int (nI i)), (2, .ref (aM 0)), (1, .ref (aX 0)), (0, .ref b)] [] (wX aX iX rX LX ++ wM aM iM rM LM zM)) (hRe : xs (i + 1) = nI 7) : pH p l e s m #[Value.ref b] below meth c D cI cJ A QQ 30 5664 366 [(3, .int (nI i)), (2, .ref (aM 0)), (1, .ref (aX 0)), (0, .ref b)] [] (wX aX iX rX LX ++ wM aM iM rM LM zM) := by
  refine h_aload_n C (pc := 366) d_law_366 rfl ?_
  refine h_aload_n C (pc := 367) d_law_367 rfl ?_
  refine h_iload_n C (pc := 368) d_law_368 rfl ?_
  refine h_iconst C (pc := 369) (v := nI 1) d_law_369 (by decide) ?_
  refine h_nadd C (pc := 370) d_law_370 ?_
  refine h_sld C hX hbl hbA (pc := 371) (v := nI 7) d_law_371 (vp_in_nI (by omega) (by omega)) (by rw [nI_clamp (by omega)]; exact hRe) ?_
  refine h_aload_n C (pc := 372) d_law_372 rfl ?_
  refine h_iload_n C (pc := 373) d_law_373 rfl ?_
  refine h_iconst C (pc := 374) (v := nI 2) d_law_374 (by decide) ?_
  refine h_nadd C (pc := 375) d_law_375 ?_
  refine h_sld C hX hbl hbA (pc := 376) (v := xs (i + 2)) d_law_376 (vp_in_nI (by omega) (by omega)) (by rw [nI_clamp (by omega)]) ?_
  refine h_aload_n C (pc := 377) d_law_377 rfl ?_
  refine h_iload_n C (pc := 378) d_law_378 rfl ?_
  refine h_iconst C (pc := 379) (v := nI 3) d_law_379 (by decide) ?_
  refine h_nadd C (pc := 380) d_law_380 ?_
  refine h_sld C hX hbl hbA (pc := 381) (v := xs (i + 3)) d_law_381 (vp_in_nI (by omega) (by omega)) (by rw [nI_clamp (by omega)]) ?_
  refine h_callV C (M' := m_K_rule) (pc := 382) (q := 0) d_law_382 lm_L_39 (c_K_rule_7 _ _ hXI gs.tm gs.th) v_K_rule rfl rfl rfl (by decide) rfl (Nat.le_of_ble_eq_true rfl) ?_
  rintro _ _ ⟨iX2, rX2, LX2, dX2, rfl, rfl, hX2⟩
  show pH p l e s m #[Value.ref b] below meth c D cI cJ A QQ 30 5664 385 _ (.int _ :: _) (wX aX iX2 rX2 LX2 ++ wM aM iM rM LM zM)
  refine h_aload_n C (pc := 385) d_law_385 rfl ?_
  refine h_aload_n C (pc := 386) d_law_386 rfl ?_
  refine h_iload_n C (pc := 387) d_law_387 rfl ?_
  refine h_iconst C (pc := 388) (v := nI 1) d_law_388 (by decide) ?_
  refine h_nadd C (pc := 389) d_law_389 ?_
  refine h_sld C hX hbl hbA (pc := 390) (v := nI 7) d_law_390 (vp_in_nI (by omega) (by omega)) (by rw [nI_clamp (by omega)]; exact hRe) ?_
  refine h_aload_n C (pc := 391) d_law_391 rfl ?_
  refine h_iload_n C (pc := 392) d_law_392 rfl ?_
  refine h_iconst C (pc := 393) (v := nI 2) d_law_393 (by decide) ?_
  refine h_nadd C (pc := 394) d_law_394 ?_
  refine h_sld C hX hbl hbA (pc := 395) (v := xs (i + 2)) d_law_395 (vp_in_nI (by omega) (by omega)) (by rw [nI_clamp (by omega)]) ?_
  refine h_aload_n C (pc := 396) d_law_396 rfl ?_
  refine h_iload_n C (pc := 397) d_law_397 rfl ?_
  refine h_iconst C (pc := 398) (v := nI 3) d_law_398 (by decide) ?_
  refine h_nadd C (pc := 399) d_law_399 ?_
  refine h_sld C hX hbl hbA (pc := 400) (v := xs (i + 3)) d_law_400 (vp_in_nI (by omega) (by omega)) (by rw [nI_clamp (by omega)]) ?_
  refine h_perm C List.perm_append_comm ?_
  refine h_callV C (M' := m_M_rule) (pc := 401) (q := 0) d_law_401 lm_L_43 (c_M_rule_7 _ _ hMI gs) v_M_rule rfl rfl rfl (by decide) rfl (Nat.le_of_ble_eq_true rfl) ?_
  rintro _ _ ⟨iM2, rM2, LM2, zM2, dM2, rfl, rfl, hM2, gs2⟩
  show pH p l e s m #[Value.ref b] below meth c D cI cJ A QQ 30 5664 404 _ (.int _ :: _) (wM aM iM2 rM2 LM2 zM2 ++ wX aX iX2 rX2 LX2)
  refine h_perm C List.perm_append_comm ?_
  refine h_icmp_eq C (pc := 404) (tgt := 641) d_law_404 (by decide) (fun _ => ?_) (fun h => absurd rfl h)
  exact kk _ _ _ _ _ _ _ _ _ _ _ _ hX2 hM2 gs2
set_option maxRecDepth 100000 in
set_option maxHeartbeats 4000000 in
theorem law_rule_8 {p : Program} {l : Launch} {e : Env} {s : State} {m : MethodId} {below : List Frame} {meth : Method} {c : Code} {b Ln : Nat} {xs : Nat → Int32} {D : va_G} {cI cJ : ClassId} {A : Nat → Prop} {QQ : State → Prop} {τ : Nat × Nat} (C : pCx (m_law meth.name) τ p s m #[Value.ref b] meth c D cI cJ A) (hX : va_X b Ln xs s s.heap) (hbl : b < s.heap.size) (hbA : ¬ A b) (hL : Ln ≤ 2048) (i : Nat) (hi : i + 4 ≤ Ln) {Ty : List (Nat × Nat)} {Tm : List (List Nat)} {Th : List Thm} {dX dM : List Nat} {aX : Nat → Nat} {iX : Nat → Int32} {rX : Nat → Nat → Int32} {LX : Nat → Int64} {aM : Nat → Nat} {iM : Nat → Int32} {rM : Nat → Nat → Int32} {LM : Nat → Nat → Int64} {zM : Int64} (hXI : XI Ty Tm Th dX iX rX LX) (hMI : MI Ty Tm Th (dcl Tm) dM iM rM LM) (gs : GS Ty Tm Th) (kk : ∀ (Ty : List (Nat × Nat)) (Tm : List (List Nat)) (Th : List Thm) (dX dM : List Nat) (iX : Nat → Int32) (rX : Nat → Nat → Int32) (LX : Nat → Int64) (iM : Nat → Int32) (rM : Nat → Nat → Int32) (LM : Nat → Nat → Int64) (zM : Int64), XI Ty Tm Th dX iX rX LX → MI Ty Tm Th (dcl Tm) dM iM rM LM → GS Ty Tm Th → pH p l e s m #[Value.ref b] below meth c D cI cJ A QQ 30 5664 641 [(3, .int (nI i)), (2, .ref (aM 0)), (1, .ref (aX 0)), (0, .ref b)] [] (wX aX iX rX LX ++ wM aM iM rM LM zM)) (hRe : xs (i + 1) = nI 8) : pH p l e s m #[Value.ref b] below meth c D cI cJ A QQ 30 5664 366 [(3, .int (nI i)), (2, .ref (aM 0)), (1, .ref (aX 0)), (0, .ref b)] [] (wX aX iX rX LX ++ wM aM iM rM LM zM) := by
  refine h_aload_n C (pc := 366) d_law_366 rfl ?_
  refine h_aload_n C (pc := 367) d_law_367 rfl ?_
  refine h_iload_n C (pc := 368) d_law_368 rfl ?_
  refine h_iconst C (pc := 369) (v := nI 1) d_law_369 (by decide) ?_
  refine h_nadd C (pc := 370) d_law_370 ?_
  refine h_sld C hX hbl hbA (pc := 371) (v := nI 8) d_law_371 (vp_in_nI (by omega) (by omega)) (by rw [nI_clamp (by omega)]; exact hRe) ?_
  refine h_aload_n C (pc := 372) d_law_372 rfl ?_
  refine h_iload_n C (pc := 373) d_law_373 rfl ?_
  refine h_iconst C (pc := 374) (v := nI 2) d_law_374 (by decide) ?_
  refine h_nadd C (pc := 375) d_law_375 ?_
  refine h_sld C hX hbl hbA (pc := 376) (v := xs (i + 2)) d_law_376 (vp_in_nI (by omega) (by omega)) (by rw [nI_clamp (by omega)]) ?_
  refine h_aload_n C (pc := 377) d_law_377 rfl ?_
  refine h_iload_n C (pc := 378) d_law_378 rfl ?_
  refine h_iconst C (pc := 379) (v := nI 3) d_law_379 (by decide) ?_
  refine h_nadd C (pc := 380) d_law_380 ?_
  refine h_sld C hX hbl hbA (pc := 381) (v := xs (i + 3)) d_law_381 (vp_in_nI (by omega) (by omega)) (by rw [nI_clamp (by omega)]) ?_
  refine h_callV C (M' := m_K_rule) (pc := 382) (q := 0) d_law_382 lm_L_39 (c_K_rule_8 _ _ hXI gs.tm gs.th) v_K_rule rfl rfl rfl (by decide) rfl (Nat.le_of_ble_eq_true rfl) ?_
  rintro _ _ ⟨iX2, rX2, LX2, dX2, rfl, rfl, hX2⟩
  show pH p l e s m #[Value.ref b] below meth c D cI cJ A QQ 30 5664 385 _ (.int _ :: _) (wX aX iX2 rX2 LX2 ++ wM aM iM rM LM zM)
  refine h_aload_n C (pc := 385) d_law_385 rfl ?_
  refine h_aload_n C (pc := 386) d_law_386 rfl ?_
  refine h_iload_n C (pc := 387) d_law_387 rfl ?_
  refine h_iconst C (pc := 388) (v := nI 1) d_law_388 (by decide) ?_
  refine h_nadd C (pc := 389) d_law_389 ?_
  refine h_sld C hX hbl hbA (pc := 390) (v := nI 8) d_law_390 (vp_in_nI (by omega) (by omega)) (by rw [nI_clamp (by omega)]; exact hRe) ?_
  refine h_aload_n C (pc := 391) d_law_391 rfl ?_
  refine h_iload_n C (pc := 392) d_law_392 rfl ?_
  refine h_iconst C (pc := 393) (v := nI 2) d_law_393 (by decide) ?_
  refine h_nadd C (pc := 394) d_law_394 ?_
  refine h_sld C hX hbl hbA (pc := 395) (v := xs (i + 2)) d_law_395 (vp_in_nI (by omega) (by omega)) (by rw [nI_clamp (by omega)]) ?_
  refine h_aload_n C (pc := 396) d_law_396 rfl ?_
  refine h_iload_n C (pc := 397) d_law_397 rfl ?_
  refine h_iconst C (pc := 398) (v := nI 3) d_law_398 (by decide) ?_
  refine h_nadd C (pc := 399) d_law_399 ?_
  refine h_sld C hX hbl hbA (pc := 400) (v := xs (i + 3)) d_law_400 (vp_in_nI (by omega) (by omega)) (by rw [nI_clamp (by omega)]) ?_
  refine h_perm C List.perm_append_comm ?_
  refine h_callV C (M' := m_M_rule) (pc := 401) (q := 0) d_law_401 lm_L_43 (c_M_rule_8 _ _ hMI gs) v_M_rule rfl rfl rfl (by decide) rfl (Nat.le_of_ble_eq_true rfl) ?_
  rintro _ _ ⟨iM2, rM2, LM2, zM2, dM2, rfl, rfl, hM2, gs2⟩
  show pH p l e s m #[Value.ref b] below meth c D cI cJ A QQ 30 5664 404 _ (.int _ :: _) (wM aM iM2 rM2 LM2 zM2 ++ wX aX iX2 rX2 LX2)
  refine h_perm C List.perm_append_comm ?_
  refine h_icmp_eq C (pc := 404) (tgt := 641) d_law_404 (by decide) (fun _ => ?_) (fun h => absurd rfl h)
  exact kk _ _ _ _ _ _ _ _ _ _ _ _ hX2 hM2 gs2
set_option maxRecDepth 100000 in
set_option maxHeartbeats 4000000 in
theorem law_rule_9 {p : Program} {l : Launch} {e : Env} {s : State} {m : MethodId} {below : List Frame} {meth : Method} {c : Code} {b Ln : Nat} {xs : Nat → Int32} {D : va_G} {cI cJ : ClassId} {A : Nat → Prop} {QQ : State → Prop} {τ : Nat × Nat} (C : pCx (m_law meth.name) τ p s m #[Value.ref b] meth c D cI cJ A) (hX : va_X b Ln xs s s.heap) (hbl : b < s.heap.size) (hbA : ¬ A b) (hL : Ln ≤ 2048) (i : Nat) (hi : i + 4 ≤ Ln) {Ty : List (Nat × Nat)} {Tm : List (List Nat)} {Th : List Thm} {dX dM : List Nat} {aX : Nat → Nat} {iX : Nat → Int32} {rX : Nat → Nat → Int32} {LX : Nat → Int64} {aM : Nat → Nat} {iM : Nat → Int32} {rM : Nat → Nat → Int32} {LM : Nat → Nat → Int64} {zM : Int64} (hXI : XI Ty Tm Th dX iX rX LX) (hMI : MI Ty Tm Th (dcl Tm) dM iM rM LM) (gs : GS Ty Tm Th) (kk : ∀ (Ty : List (Nat × Nat)) (Tm : List (List Nat)) (Th : List Thm) (dX dM : List Nat) (iX : Nat → Int32) (rX : Nat → Nat → Int32) (LX : Nat → Int64) (iM : Nat → Int32) (rM : Nat → Nat → Int32) (LM : Nat → Nat → Int64) (zM : Int64), XI Ty Tm Th dX iX rX LX → MI Ty Tm Th (dcl Tm) dM iM rM LM → GS Ty Tm Th → pH p l e s m #[Value.ref b] below meth c D cI cJ A QQ 30 5664 641 [(3, .int (nI i)), (2, .ref (aM 0)), (1, .ref (aX 0)), (0, .ref b)] [] (wX aX iX rX LX ++ wM aM iM rM LM zM)) (hRe : xs (i + 1) = nI 9) : pH p l e s m #[Value.ref b] below meth c D cI cJ A QQ 30 5664 366 [(3, .int (nI i)), (2, .ref (aM 0)), (1, .ref (aX 0)), (0, .ref b)] [] (wX aX iX rX LX ++ wM aM iM rM LM zM) := by
  refine h_aload_n C (pc := 366) d_law_366 rfl ?_
  refine h_aload_n C (pc := 367) d_law_367 rfl ?_
  refine h_iload_n C (pc := 368) d_law_368 rfl ?_
  refine h_iconst C (pc := 369) (v := nI 1) d_law_369 (by decide) ?_
  refine h_nadd C (pc := 370) d_law_370 ?_
  refine h_sld C hX hbl hbA (pc := 371) (v := nI 9) d_law_371 (vp_in_nI (by omega) (by omega)) (by rw [nI_clamp (by omega)]; exact hRe) ?_
  refine h_aload_n C (pc := 372) d_law_372 rfl ?_
  refine h_iload_n C (pc := 373) d_law_373 rfl ?_
  refine h_iconst C (pc := 374) (v := nI 2) d_law_374 (by decide) ?_
  refine h_nadd C (pc := 375) d_law_375 ?_
  refine h_sld C hX hbl hbA (pc := 376) (v := xs (i + 2)) d_law_376 (vp_in_nI (by omega) (by omega)) (by rw [nI_clamp (by omega)]) ?_
  refine h_aload_n C (pc := 377) d_law_377 rfl ?_
  refine h_iload_n C (pc := 378) d_law_378 rfl ?_
  refine h_iconst C (pc := 379) (v := nI 3) d_law_379 (by decide) ?_
  refine h_nadd C (pc := 380) d_law_380 ?_
  refine h_sld C hX hbl hbA (pc := 381) (v := xs (i + 3)) d_law_381 (vp_in_nI (by omega) (by omega)) (by rw [nI_clamp (by omega)]) ?_
  refine h_callV C (M' := m_K_rule) (pc := 382) (q := 0) d_law_382 lm_L_39 (c_K_rule_9 _ _ hXI gs.tm gs.th gs.okE gs.okP) v_K_rule rfl rfl rfl (by decide) rfl (Nat.le_of_ble_eq_true rfl) ?_
  rintro _ _ ⟨iX2, rX2, LX2, dX2, rfl, rfl, hX2⟩
  show pH p l e s m #[Value.ref b] below meth c D cI cJ A QQ 30 5664 385 _ (.int _ :: _) (wX aX iX2 rX2 LX2 ++ wM aM iM rM LM zM)
  refine h_aload_n C (pc := 385) d_law_385 rfl ?_
  refine h_aload_n C (pc := 386) d_law_386 rfl ?_
  refine h_iload_n C (pc := 387) d_law_387 rfl ?_
  refine h_iconst C (pc := 388) (v := nI 1) d_law_388 (by decide) ?_
  refine h_nadd C (pc := 389) d_law_389 ?_
  refine h_sld C hX hbl hbA (pc := 390) (v := nI 9) d_law_390 (vp_in_nI (by omega) (by omega)) (by rw [nI_clamp (by omega)]; exact hRe) ?_
  refine h_aload_n C (pc := 391) d_law_391 rfl ?_
  refine h_iload_n C (pc := 392) d_law_392 rfl ?_
  refine h_iconst C (pc := 393) (v := nI 2) d_law_393 (by decide) ?_
  refine h_nadd C (pc := 394) d_law_394 ?_
  refine h_sld C hX hbl hbA (pc := 395) (v := xs (i + 2)) d_law_395 (vp_in_nI (by omega) (by omega)) (by rw [nI_clamp (by omega)]) ?_
  refine h_aload_n C (pc := 396) d_law_396 rfl ?_
  refine h_iload_n C (pc := 397) d_law_397 rfl ?_
  refine h_iconst C (pc := 398) (v := nI 3) d_law_398 (by decide) ?_
  refine h_nadd C (pc := 399) d_law_399 ?_
  refine h_sld C hX hbl hbA (pc := 400) (v := xs (i + 3)) d_law_400 (vp_in_nI (by omega) (by omega)) (by rw [nI_clamp (by omega)]) ?_
  refine h_perm C List.perm_append_comm ?_
  refine h_callV C (M' := m_M_rule) (pc := 401) (q := 0) d_law_401 lm_L_43 (c_M_rule_9 _ _ hMI gs) v_M_rule rfl rfl rfl (by decide) rfl (Nat.le_of_ble_eq_true rfl) ?_
  rintro _ _ ⟨iM2, rM2, LM2, zM2, dM2, rfl, rfl, hM2, gs2⟩
  show pH p l e s m #[Value.ref b] below meth c D cI cJ A QQ 30 5664 404 _ (.int _ :: _) (wM aM iM2 rM2 LM2 zM2 ++ wX aX iX2 rX2 LX2)
  refine h_perm C List.perm_append_comm ?_
  refine h_icmp_eq C (pc := 404) (tgt := 641) d_law_404 (by decide) (fun _ => ?_) (fun h => absurd rfl h)
  exact kk _ _ _ _ _ _ _ _ _ _ _ _ hX2 hM2 gs2
set_option maxRecDepth 100000 in
set_option maxHeartbeats 4000000 in
theorem law_rule_10 {p : Program} {l : Launch} {e : Env} {s : State} {m : MethodId} {below : List Frame} {meth : Method} {c : Code} {b Ln : Nat} {xs : Nat → Int32} {D : va_G} {cI cJ : ClassId} {A : Nat → Prop} {QQ : State → Prop} {τ : Nat × Nat} (C : pCx (m_law meth.name) τ p s m #[Value.ref b] meth c D cI cJ A) (hX : va_X b Ln xs s s.heap) (hbl : b < s.heap.size) (hbA : ¬ A b) (hL : Ln ≤ 2048) (i : Nat) (hi : i + 4 ≤ Ln) {Ty : List (Nat × Nat)} {Tm : List (List Nat)} {Th : List Thm} {dX dM : List Nat} {aX : Nat → Nat} {iX : Nat → Int32} {rX : Nat → Nat → Int32} {LX : Nat → Int64} {aM : Nat → Nat} {iM : Nat → Int32} {rM : Nat → Nat → Int32} {LM : Nat → Nat → Int64} {zM : Int64} (hXI : XI Ty Tm Th dX iX rX LX) (hMI : MI Ty Tm Th (dcl Tm) dM iM rM LM) (gs : GS Ty Tm Th) (kk : ∀ (Ty : List (Nat × Nat)) (Tm : List (List Nat)) (Th : List Thm) (dX dM : List Nat) (iX : Nat → Int32) (rX : Nat → Nat → Int32) (LX : Nat → Int64) (iM : Nat → Int32) (rM : Nat → Nat → Int32) (LM : Nat → Nat → Int64) (zM : Int64), XI Ty Tm Th dX iX rX LX → MI Ty Tm Th (dcl Tm) dM iM rM LM → GS Ty Tm Th → pH p l e s m #[Value.ref b] below meth c D cI cJ A QQ 30 5664 641 [(3, .int (nI i)), (2, .ref (aM 0)), (1, .ref (aX 0)), (0, .ref b)] [] (wX aX iX rX LX ++ wM aM iM rM LM zM)) (hRe : xs (i + 1) = nI 10) : pH p l e s m #[Value.ref b] below meth c D cI cJ A QQ 30 5664 366 [(3, .int (nI i)), (2, .ref (aM 0)), (1, .ref (aX 0)), (0, .ref b)] [] (wX aX iX rX LX ++ wM aM iM rM LM zM) := by
  refine h_aload_n C (pc := 366) d_law_366 rfl ?_
  refine h_aload_n C (pc := 367) d_law_367 rfl ?_
  refine h_iload_n C (pc := 368) d_law_368 rfl ?_
  refine h_iconst C (pc := 369) (v := nI 1) d_law_369 (by decide) ?_
  refine h_nadd C (pc := 370) d_law_370 ?_
  refine h_sld C hX hbl hbA (pc := 371) (v := nI 10) d_law_371 (vp_in_nI (by omega) (by omega)) (by rw [nI_clamp (by omega)]; exact hRe) ?_
  refine h_aload_n C (pc := 372) d_law_372 rfl ?_
  refine h_iload_n C (pc := 373) d_law_373 rfl ?_
  refine h_iconst C (pc := 374) (v := nI 2) d_law_374 (by decide) ?_
  refine h_nadd C (pc := 375) d_law_375 ?_
  refine h_sld C hX hbl hbA (pc := 376) (v := xs (i + 2)) d_law_376 (vp_in_nI (by omega) (by omega)) (by rw [nI_clamp (by omega)]) ?_
  refine h_aload_n C (pc := 377) d_law_377 rfl ?_
  refine h_iload_n C (pc := 378) d_law_378 rfl ?_
  refine h_iconst C (pc := 379) (v := nI 3) d_law_379 (by decide) ?_
  refine h_nadd C (pc := 380) d_law_380 ?_
  refine h_sld C hX hbl hbA (pc := 381) (v := xs (i + 3)) d_law_381 (vp_in_nI (by omega) (by omega)) (by rw [nI_clamp (by omega)]) ?_
  refine h_callV C (M' := m_K_rule) (pc := 382) (q := 0) d_law_382 lm_L_39 (c_K_rule_10 _ _ hXI gs.tm gs.th) v_K_rule rfl rfl rfl (by decide) rfl (Nat.le_of_ble_eq_true rfl) ?_
  rintro _ _ ⟨iX2, rX2, LX2, dX2, rfl, rfl, hX2⟩
  show pH p l e s m #[Value.ref b] below meth c D cI cJ A QQ 30 5664 385 _ (.int _ :: _) (wX aX iX2 rX2 LX2 ++ wM aM iM rM LM zM)
  refine h_aload_n C (pc := 385) d_law_385 rfl ?_
  refine h_aload_n C (pc := 386) d_law_386 rfl ?_
  refine h_iload_n C (pc := 387) d_law_387 rfl ?_
  refine h_iconst C (pc := 388) (v := nI 1) d_law_388 (by decide) ?_
  refine h_nadd C (pc := 389) d_law_389 ?_
  refine h_sld C hX hbl hbA (pc := 390) (v := nI 10) d_law_390 (vp_in_nI (by omega) (by omega)) (by rw [nI_clamp (by omega)]; exact hRe) ?_
  refine h_aload_n C (pc := 391) d_law_391 rfl ?_
  refine h_iload_n C (pc := 392) d_law_392 rfl ?_
  refine h_iconst C (pc := 393) (v := nI 2) d_law_393 (by decide) ?_
  refine h_nadd C (pc := 394) d_law_394 ?_
  refine h_sld C hX hbl hbA (pc := 395) (v := xs (i + 2)) d_law_395 (vp_in_nI (by omega) (by omega)) (by rw [nI_clamp (by omega)]) ?_
  refine h_aload_n C (pc := 396) d_law_396 rfl ?_
  refine h_iload_n C (pc := 397) d_law_397 rfl ?_
  refine h_iconst C (pc := 398) (v := nI 3) d_law_398 (by decide) ?_
  refine h_nadd C (pc := 399) d_law_399 ?_
  refine h_sld C hX hbl hbA (pc := 400) (v := xs (i + 3)) d_law_400 (vp_in_nI (by omega) (by omega)) (by rw [nI_clamp (by omega)]) ?_
  refine h_perm C List.perm_append_comm ?_
  refine h_callV C (M' := m_M_rule) (pc := 401) (q := 0) d_law_401 lm_L_43 (c_M_rule_10 _ _ hMI gs) v_M_rule rfl rfl rfl (by decide) rfl (Nat.le_of_ble_eq_true rfl) ?_
  rintro _ _ ⟨iM2, rM2, LM2, zM2, dM2, rfl, rfl, hM2, gs2⟩
  show pH p l e s m #[Value.ref b] below meth c D cI cJ A QQ 30 5664 404 _ (.int _ :: _) (wM aM iM2 rM2 LM2 zM2 ++ wX aX iX2 rX2 LX2)
  refine h_perm C List.perm_append_comm ?_
  refine h_icmp_eq C (pc := 404) (tgt := 641) d_law_404 (by decide) (fun _ => ?_) (fun h => absurd rfl h)
  exact kk _ _ _ _ _ _ _ _ _ _ _ _ hX2 hM2 gs2
set_option maxRecDepth 100000 in
set_option maxHeartbeats 4000000 in
theorem law_rule_11 {p : Program} {l : Launch} {e : Env} {s : State} {m : MethodId} {below : List Frame} {meth : Method} {c : Code} {b Ln : Nat} {xs : Nat → Int32} {D : va_G} {cI cJ : ClassId} {A : Nat → Prop} {QQ : State → Prop} {τ : Nat × Nat} (C : pCx (m_law meth.name) τ p s m #[Value.ref b] meth c D cI cJ A) (hX : va_X b Ln xs s s.heap) (hbl : b < s.heap.size) (hbA : ¬ A b) (hL : Ln ≤ 2048) (i : Nat) (hi : i + 4 ≤ Ln) {Ty : List (Nat × Nat)} {Tm : List (List Nat)} {Th : List Thm} {dX dM : List Nat} {aX : Nat → Nat} {iX : Nat → Int32} {rX : Nat → Nat → Int32} {LX : Nat → Int64} {aM : Nat → Nat} {iM : Nat → Int32} {rM : Nat → Nat → Int32} {LM : Nat → Nat → Int64} {zM : Int64} (hXI : XI Ty Tm Th dX iX rX LX) (hMI : MI Ty Tm Th (dcl Tm) dM iM rM LM) (gs : GS Ty Tm Th) (kk : ∀ (Ty : List (Nat × Nat)) (Tm : List (List Nat)) (Th : List Thm) (dX dM : List Nat) (iX : Nat → Int32) (rX : Nat → Nat → Int32) (LX : Nat → Int64) (iM : Nat → Int32) (rM : Nat → Nat → Int32) (LM : Nat → Nat → Int64) (zM : Int64), XI Ty Tm Th dX iX rX LX → MI Ty Tm Th (dcl Tm) dM iM rM LM → GS Ty Tm Th → pH p l e s m #[Value.ref b] below meth c D cI cJ A QQ 30 5664 641 [(3, .int (nI i)), (2, .ref (aM 0)), (1, .ref (aX 0)), (0, .ref b)] [] (wX aX iX rX LX ++ wM aM iM rM LM zM)) (hRe : xs (i + 1) = nI 11) : pH p l e s m #[Value.ref b] below meth c D cI cJ A QQ 30 5664 366 [(3, .int (nI i)), (2, .ref (aM 0)), (1, .ref (aX 0)), (0, .ref b)] [] (wX aX iX rX LX ++ wM aM iM rM LM zM) := by
  refine h_aload_n C (pc := 366) d_law_366 rfl ?_
  refine h_aload_n C (pc := 367) d_law_367 rfl ?_
  refine h_iload_n C (pc := 368) d_law_368 rfl ?_
  refine h_iconst C (pc := 369) (v := nI 1) d_law_369 (by decide) ?_
  refine h_nadd C (pc := 370) d_law_370 ?_
  refine h_sld C hX hbl hbA (pc := 371) (v := nI 11) d_law_371 (vp_in_nI (by omega) (by omega)) (by rw [nI_clamp (by omega)]; exact hRe) ?_
  refine h_aload_n C (pc := 372) d_law_372 rfl ?_
  refine h_iload_n C (pc := 373) d_law_373 rfl ?_
  refine h_iconst C (pc := 374) (v := nI 2) d_law_374 (by decide) ?_
  refine h_nadd C (pc := 375) d_law_375 ?_
  refine h_sld C hX hbl hbA (pc := 376) (v := xs (i + 2)) d_law_376 (vp_in_nI (by omega) (by omega)) (by rw [nI_clamp (by omega)]) ?_
  refine h_aload_n C (pc := 377) d_law_377 rfl ?_
  refine h_iload_n C (pc := 378) d_law_378 rfl ?_
  refine h_iconst C (pc := 379) (v := nI 3) d_law_379 (by decide) ?_
  refine h_nadd C (pc := 380) d_law_380 ?_
  refine h_sld C hX hbl hbA (pc := 381) (v := xs (i + 3)) d_law_381 (vp_in_nI (by omega) (by omega)) (by rw [nI_clamp (by omega)]) ?_
  refine h_callV C (M' := m_K_rule) (pc := 382) (q := 0) d_law_382 lm_L_39 (c_K_rule_11 _ _ hXI gs.tm gs.th) v_K_rule rfl rfl rfl (by decide) rfl (Nat.le_of_ble_eq_true rfl) ?_
  rintro _ _ ⟨iX2, rX2, LX2, dX2, rfl, rfl, hX2⟩
  show pH p l e s m #[Value.ref b] below meth c D cI cJ A QQ 30 5664 385 _ (.int _ :: _) (wX aX iX2 rX2 LX2 ++ wM aM iM rM LM zM)
  refine h_aload_n C (pc := 385) d_law_385 rfl ?_
  refine h_aload_n C (pc := 386) d_law_386 rfl ?_
  refine h_iload_n C (pc := 387) d_law_387 rfl ?_
  refine h_iconst C (pc := 388) (v := nI 1) d_law_388 (by decide) ?_
  refine h_nadd C (pc := 389) d_law_389 ?_
  refine h_sld C hX hbl hbA (pc := 390) (v := nI 11) d_law_390 (vp_in_nI (by omega) (by omega)) (by rw [nI_clamp (by omega)]; exact hRe) ?_
  refine h_aload_n C (pc := 391) d_law_391 rfl ?_
  refine h_iload_n C (pc := 392) d_law_392 rfl ?_
  refine h_iconst C (pc := 393) (v := nI 2) d_law_393 (by decide) ?_
  refine h_nadd C (pc := 394) d_law_394 ?_
  refine h_sld C hX hbl hbA (pc := 395) (v := xs (i + 2)) d_law_395 (vp_in_nI (by omega) (by omega)) (by rw [nI_clamp (by omega)]) ?_
  refine h_aload_n C (pc := 396) d_law_396 rfl ?_
  refine h_iload_n C (pc := 397) d_law_397 rfl ?_
  refine h_iconst C (pc := 398) (v := nI 3) d_law_398 (by decide) ?_
  refine h_nadd C (pc := 399) d_law_399 ?_
  refine h_sld C hX hbl hbA (pc := 400) (v := xs (i + 3)) d_law_400 (vp_in_nI (by omega) (by omega)) (by rw [nI_clamp (by omega)]) ?_
  refine h_perm C List.perm_append_comm ?_
  refine h_callV C (M' := m_M_rule) (pc := 401) (q := 0) d_law_401 lm_L_43 (c_M_rule_11 _ _ hMI gs) v_M_rule rfl rfl rfl (by decide) rfl (Nat.le_of_ble_eq_true rfl) ?_
  rintro _ _ ⟨iM2, rM2, LM2, zM2, dM2, rfl, rfl, hM2, gs2⟩
  show pH p l e s m #[Value.ref b] below meth c D cI cJ A QQ 30 5664 404 _ (.int _ :: _) (wM aM iM2 rM2 LM2 zM2 ++ wX aX iX2 rX2 LX2)
  refine h_perm C List.perm_append_comm ?_
  refine h_icmp_eq C (pc := 404) (tgt := 641) d_law_404 (by decide) (fun _ => ?_) (fun h => absurd rfl h)
  exact kk _ _ _ _ _ _ _ _ _ _ _ _ hX2 hM2 gs2
set_option maxRecDepth 100000 in
set_option maxHeartbeats 4000000 in
theorem law_rule_12 {p : Program} {l : Launch} {e : Env} {s : State} {m : MethodId} {below : List Frame} {meth : Method} {c : Code} {b Ln : Nat} {xs : Nat → Int32} {D : va_G} {cI cJ : ClassId} {A : Nat → Prop} {QQ : State → Prop} {τ : Nat × Nat} (C : pCx (m_law meth.name) τ p s m #[Value.ref b] meth c D cI cJ A) (hX : va_X b Ln xs s s.heap) (hbl : b < s.heap.size) (hbA : ¬ A b) (hL : Ln ≤ 2048) (i : Nat) (hi : i + 4 ≤ Ln) {Ty : List (Nat × Nat)} {Tm : List (List Nat)} {Th : List Thm} {dX dM : List Nat} {aX : Nat → Nat} {iX : Nat → Int32} {rX : Nat → Nat → Int32} {LX : Nat → Int64} {aM : Nat → Nat} {iM : Nat → Int32} {rM : Nat → Nat → Int32} {LM : Nat → Nat → Int64} {zM : Int64} (hXI : XI Ty Tm Th dX iX rX LX) (hMI : MI Ty Tm Th (dcl Tm) dM iM rM LM) (gs : GS Ty Tm Th) (kk : ∀ (Ty : List (Nat × Nat)) (Tm : List (List Nat)) (Th : List Thm) (dX dM : List Nat) (iX : Nat → Int32) (rX : Nat → Nat → Int32) (LX : Nat → Int64) (iM : Nat → Int32) (rM : Nat → Nat → Int32) (LM : Nat → Nat → Int64) (zM : Int64), XI Ty Tm Th dX iX rX LX → MI Ty Tm Th (dcl Tm) dM iM rM LM → GS Ty Tm Th → pH p l e s m #[Value.ref b] below meth c D cI cJ A QQ 30 5664 641 [(3, .int (nI i)), (2, .ref (aM 0)), (1, .ref (aX 0)), (0, .ref b)] [] (wX aX iX rX LX ++ wM aM iM rM LM zM)) (hRe : xs (i + 1) = nI 12) : pH p l e s m #[Value.ref b] below meth c D cI cJ A QQ 30 5664 366 [(3, .int (nI i)), (2, .ref (aM 0)), (1, .ref (aX 0)), (0, .ref b)] [] (wX aX iX rX LX ++ wM aM iM rM LM zM) := by
  refine h_aload_n C (pc := 366) d_law_366 rfl ?_
  refine h_aload_n C (pc := 367) d_law_367 rfl ?_
  refine h_iload_n C (pc := 368) d_law_368 rfl ?_
  refine h_iconst C (pc := 369) (v := nI 1) d_law_369 (by decide) ?_
  refine h_nadd C (pc := 370) d_law_370 ?_
  refine h_sld C hX hbl hbA (pc := 371) (v := nI 12) d_law_371 (vp_in_nI (by omega) (by omega)) (by rw [nI_clamp (by omega)]; exact hRe) ?_
  refine h_aload_n C (pc := 372) d_law_372 rfl ?_
  refine h_iload_n C (pc := 373) d_law_373 rfl ?_
  refine h_iconst C (pc := 374) (v := nI 2) d_law_374 (by decide) ?_
  refine h_nadd C (pc := 375) d_law_375 ?_
  refine h_sld C hX hbl hbA (pc := 376) (v := xs (i + 2)) d_law_376 (vp_in_nI (by omega) (by omega)) (by rw [nI_clamp (by omega)]) ?_
  refine h_aload_n C (pc := 377) d_law_377 rfl ?_
  refine h_iload_n C (pc := 378) d_law_378 rfl ?_
  refine h_iconst C (pc := 379) (v := nI 3) d_law_379 (by decide) ?_
  refine h_nadd C (pc := 380) d_law_380 ?_
  refine h_sld C hX hbl hbA (pc := 381) (v := xs (i + 3)) d_law_381 (vp_in_nI (by omega) (by omega)) (by rw [nI_clamp (by omega)]) ?_
  refine h_callV C (M' := m_K_rule) (pc := 382) (q := 0) d_law_382 lm_L_39 (c_K_rule_12 _ _ hXI gs.tm gs.th) v_K_rule rfl rfl rfl (by decide) rfl (Nat.le_of_ble_eq_true rfl) ?_
  rintro _ _ ⟨iX2, rX2, LX2, dX2, rfl, rfl, hX2⟩
  show pH p l e s m #[Value.ref b] below meth c D cI cJ A QQ 30 5664 385 _ (.int _ :: _) (wX aX iX2 rX2 LX2 ++ wM aM iM rM LM zM)
  refine h_aload_n C (pc := 385) d_law_385 rfl ?_
  refine h_aload_n C (pc := 386) d_law_386 rfl ?_
  refine h_iload_n C (pc := 387) d_law_387 rfl ?_
  refine h_iconst C (pc := 388) (v := nI 1) d_law_388 (by decide) ?_
  refine h_nadd C (pc := 389) d_law_389 ?_
  refine h_sld C hX hbl hbA (pc := 390) (v := nI 12) d_law_390 (vp_in_nI (by omega) (by omega)) (by rw [nI_clamp (by omega)]; exact hRe) ?_
  refine h_aload_n C (pc := 391) d_law_391 rfl ?_
  refine h_iload_n C (pc := 392) d_law_392 rfl ?_
  refine h_iconst C (pc := 393) (v := nI 2) d_law_393 (by decide) ?_
  refine h_nadd C (pc := 394) d_law_394 ?_
  refine h_sld C hX hbl hbA (pc := 395) (v := xs (i + 2)) d_law_395 (vp_in_nI (by omega) (by omega)) (by rw [nI_clamp (by omega)]) ?_
  refine h_aload_n C (pc := 396) d_law_396 rfl ?_
  refine h_iload_n C (pc := 397) d_law_397 rfl ?_
  refine h_iconst C (pc := 398) (v := nI 3) d_law_398 (by decide) ?_
  refine h_nadd C (pc := 399) d_law_399 ?_
  refine h_sld C hX hbl hbA (pc := 400) (v := xs (i + 3)) d_law_400 (vp_in_nI (by omega) (by omega)) (by rw [nI_clamp (by omega)]) ?_
  refine h_perm C List.perm_append_comm ?_
  refine h_callV C (M' := m_M_rule) (pc := 401) (q := 0) d_law_401 lm_L_43 (c_M_rule_12 _ _ hMI gs) v_M_rule rfl rfl rfl (by decide) rfl (Nat.le_of_ble_eq_true rfl) ?_
  rintro _ _ ⟨iM2, rM2, LM2, zM2, dM2, rfl, rfl, hM2, gs2⟩
  show pH p l e s m #[Value.ref b] below meth c D cI cJ A QQ 30 5664 404 _ (.int _ :: _) (wM aM iM2 rM2 LM2 zM2 ++ wX aX iX2 rX2 LX2)
  refine h_perm C List.perm_append_comm ?_
  refine h_icmp_eq C (pc := 404) (tgt := 641) d_law_404 (by decide) (fun _ => ?_) (fun h => absurd rfl h)
  exact kk _ _ _ _ _ _ _ _ _ _ _ _ hX2 hM2 gs2
set_option maxRecDepth 100000 in
set_option maxHeartbeats 4000000 in
theorem law_rule_13 {p : Program} {l : Launch} {e : Env} {s : State} {m : MethodId} {below : List Frame} {meth : Method} {c : Code} {b Ln : Nat} {xs : Nat → Int32} {D : va_G} {cI cJ : ClassId} {A : Nat → Prop} {QQ : State → Prop} {τ : Nat × Nat} (C : pCx (m_law meth.name) τ p s m #[Value.ref b] meth c D cI cJ A) (hX : va_X b Ln xs s s.heap) (hbl : b < s.heap.size) (hbA : ¬ A b) (hL : Ln ≤ 2048) (i : Nat) (hi : i + 4 ≤ Ln) {Ty : List (Nat × Nat)} {Tm : List (List Nat)} {Th : List Thm} {dX dM : List Nat} {aX : Nat → Nat} {iX : Nat → Int32} {rX : Nat → Nat → Int32} {LX : Nat → Int64} {aM : Nat → Nat} {iM : Nat → Int32} {rM : Nat → Nat → Int32} {LM : Nat → Nat → Int64} {zM : Int64} (hXI : XI Ty Tm Th dX iX rX LX) (hMI : MI Ty Tm Th (dcl Tm) dM iM rM LM) (gs : GS Ty Tm Th) (kk : ∀ (Ty : List (Nat × Nat)) (Tm : List (List Nat)) (Th : List Thm) (dX dM : List Nat) (iX : Nat → Int32) (rX : Nat → Nat → Int32) (LX : Nat → Int64) (iM : Nat → Int32) (rM : Nat → Nat → Int32) (LM : Nat → Nat → Int64) (zM : Int64), XI Ty Tm Th dX iX rX LX → MI Ty Tm Th (dcl Tm) dM iM rM LM → GS Ty Tm Th → pH p l e s m #[Value.ref b] below meth c D cI cJ A QQ 30 5664 641 [(3, .int (nI i)), (2, .ref (aM 0)), (1, .ref (aX 0)), (0, .ref b)] [] (wX aX iX rX LX ++ wM aM iM rM LM zM)) (hRe : xs (i + 1) = nI 13) : pH p l e s m #[Value.ref b] below meth c D cI cJ A QQ 30 5664 366 [(3, .int (nI i)), (2, .ref (aM 0)), (1, .ref (aX 0)), (0, .ref b)] [] (wX aX iX rX LX ++ wM aM iM rM LM zM) := by
  refine h_aload_n C (pc := 366) d_law_366 rfl ?_
  refine h_aload_n C (pc := 367) d_law_367 rfl ?_
  refine h_iload_n C (pc := 368) d_law_368 rfl ?_
  refine h_iconst C (pc := 369) (v := nI 1) d_law_369 (by decide) ?_
  refine h_nadd C (pc := 370) d_law_370 ?_
  refine h_sld C hX hbl hbA (pc := 371) (v := nI 13) d_law_371 (vp_in_nI (by omega) (by omega)) (by rw [nI_clamp (by omega)]; exact hRe) ?_
  refine h_aload_n C (pc := 372) d_law_372 rfl ?_
  refine h_iload_n C (pc := 373) d_law_373 rfl ?_
  refine h_iconst C (pc := 374) (v := nI 2) d_law_374 (by decide) ?_
  refine h_nadd C (pc := 375) d_law_375 ?_
  refine h_sld C hX hbl hbA (pc := 376) (v := xs (i + 2)) d_law_376 (vp_in_nI (by omega) (by omega)) (by rw [nI_clamp (by omega)]) ?_
  refine h_aload_n C (pc := 377) d_law_377 rfl ?_
  refine h_iload_n C (pc := 378) d_law_378 rfl ?_
  refine h_iconst C (pc := 379) (v := nI 3) d_law_379 (by decide) ?_
  refine h_nadd C (pc := 380) d_law_380 ?_
  refine h_sld C hX hbl hbA (pc := 381) (v := xs (i + 3)) d_law_381 (vp_in_nI (by omega) (by omega)) (by rw [nI_clamp (by omega)]) ?_
  refine h_callV C (M' := m_K_rule) (pc := 382) (q := 0) d_law_382 lm_L_39 (c_K_rule_13 _ _ hXI gs.tm gs.th) v_K_rule rfl rfl rfl (by decide) rfl (Nat.le_of_ble_eq_true rfl) ?_
  rintro _ _ ⟨iX2, rX2, LX2, dX2, rfl, rfl, hX2⟩
  show pH p l e s m #[Value.ref b] below meth c D cI cJ A QQ 30 5664 385 _ (.int _ :: _) (wX aX iX2 rX2 LX2 ++ wM aM iM rM LM zM)
  refine h_aload_n C (pc := 385) d_law_385 rfl ?_
  refine h_aload_n C (pc := 386) d_law_386 rfl ?_
  refine h_iload_n C (pc := 387) d_law_387 rfl ?_
  refine h_iconst C (pc := 388) (v := nI 1) d_law_388 (by decide) ?_
  refine h_nadd C (pc := 389) d_law_389 ?_
  refine h_sld C hX hbl hbA (pc := 390) (v := nI 13) d_law_390 (vp_in_nI (by omega) (by omega)) (by rw [nI_clamp (by omega)]; exact hRe) ?_
  refine h_aload_n C (pc := 391) d_law_391 rfl ?_
  refine h_iload_n C (pc := 392) d_law_392 rfl ?_
  refine h_iconst C (pc := 393) (v := nI 2) d_law_393 (by decide) ?_
  refine h_nadd C (pc := 394) d_law_394 ?_
  refine h_sld C hX hbl hbA (pc := 395) (v := xs (i + 2)) d_law_395 (vp_in_nI (by omega) (by omega)) (by rw [nI_clamp (by omega)]) ?_
  refine h_aload_n C (pc := 396) d_law_396 rfl ?_
  refine h_iload_n C (pc := 397) d_law_397 rfl ?_
  refine h_iconst C (pc := 398) (v := nI 3) d_law_398 (by decide) ?_
  refine h_nadd C (pc := 399) d_law_399 ?_
  refine h_sld C hX hbl hbA (pc := 400) (v := xs (i + 3)) d_law_400 (vp_in_nI (by omega) (by omega)) (by rw [nI_clamp (by omega)]) ?_
  refine h_perm C List.perm_append_comm ?_
  refine h_callV C (M' := m_M_rule) (pc := 401) (q := 0) d_law_401 lm_L_43 (c_M_rule_13 _ _ hMI gs) v_M_rule rfl rfl rfl (by decide) rfl (Nat.le_of_ble_eq_true rfl) ?_
  rintro _ _ ⟨iM2, rM2, LM2, zM2, dM2, rfl, rfl, hM2, gs2⟩
  show pH p l e s m #[Value.ref b] below meth c D cI cJ A QQ 30 5664 404 _ (.int _ :: _) (wM aM iM2 rM2 LM2 zM2 ++ wX aX iX2 rX2 LX2)
  refine h_perm C List.perm_append_comm ?_
  refine h_icmp_eq C (pc := 404) (tgt := 641) d_law_404 (by decide) (fun _ => ?_) (fun h => absurd rfl h)
  exact kk _ _ _ _ _ _ _ _ _ _ _ _ hX2 hM2 gs2
set_option maxRecDepth 100000 in
set_option maxHeartbeats 4000000 in
theorem law_rule_no {p : Program} {l : Launch} {e : Env} {s : State} {m : MethodId} {below : List Frame} {meth : Method} {c : Code} {b Ln : Nat} {xs : Nat → Int32} {D : va_G} {cI cJ : ClassId} {A : Nat → Prop} {QQ : State → Prop} {τ : Nat × Nat} (C : pCx (m_law meth.name) τ p s m #[Value.ref b] meth c D cI cJ A) (hX : va_X b Ln xs s s.heap) (hbl : b < s.heap.size) (hbA : ¬ A b) (hL : Ln ≤ 2048) (i : Nat) (hi : i + 4 ≤ Ln) {Ty : List (Nat × Nat)} {Tm : List (List Nat)} {Th : List Thm} {dX dM : List Nat} {aX : Nat → Nat} {iX : Nat → Int32} {rX : Nat → Nat → Int32} {LX : Nat → Int64} {aM : Nat → Nat} {iM : Nat → Int32} {rM : Nat → Nat → Int32} {LM : Nat → Nat → Int64} {zM : Int64} (hXI : XI Ty Tm Th dX iX rX LX) (hMI : MI Ty Tm Th (dcl Tm) dM iM rM LM) (gs : GS Ty Tm Th) (kk : ∀ (Ty : List (Nat × Nat)) (Tm : List (List Nat)) (Th : List Thm) (dX dM : List Nat) (iX : Nat → Int32) (rX : Nat → Nat → Int32) (LX : Nat → Int64) (iM : Nat → Int32) (rM : Nat → Nat → Int32) (LM : Nat → Nat → Int64) (zM : Int64), XI Ty Tm Th dX iX rX LX → MI Ty Tm Th (dcl Tm) dM iM rM LM → GS Ty Tm Th → pH p l e s m #[Value.ref b] below meth c D cI cJ A QQ 30 5664 641 [(3, .int (nI i)), (2, .ref (aM 0)), (1, .ref (aX 0)), (0, .ref b)] [] (wX aX iX rX LX ++ wM aM iM rM LM zM)) (hq : ixB (xs (i + 1)) 14 = false) : pH p l e s m #[Value.ref b] below meth c D cI cJ A QQ 30 5664 366 [(3, .int (nI i)), (2, .ref (aM 0)), (1, .ref (aX 0)), (0, .ref b)] [] (wX aX iX rX LX ++ wM aM iM rM LM zM) := by
  refine h_aload_n C (pc := 366) d_law_366 rfl ?_
  refine h_aload_n C (pc := 367) d_law_367 rfl ?_
  refine h_iload_n C (pc := 368) d_law_368 rfl ?_
  refine h_iconst C (pc := 369) (v := nI 1) d_law_369 (by decide) ?_
  refine h_nadd C (pc := 370) d_law_370 ?_
  refine h_sld C hX hbl hbA (pc := 371) (v := xs (i + 1)) d_law_371 (vp_in_nI (by omega) (by omega)) (by rw [nI_clamp (by omega)]) ?_
  refine h_aload_n C (pc := 372) d_law_372 rfl ?_
  refine h_iload_n C (pc := 373) d_law_373 rfl ?_
  refine h_iconst C (pc := 374) (v := nI 2) d_law_374 (by decide) ?_
  refine h_nadd C (pc := 375) d_law_375 ?_
  refine h_sld C hX hbl hbA (pc := 376) (v := xs (i + 2)) d_law_376 (vp_in_nI (by omega) (by omega)) (by rw [nI_clamp (by omega)]) ?_
  refine h_aload_n C (pc := 377) d_law_377 rfl ?_
  refine h_iload_n C (pc := 378) d_law_378 rfl ?_
  refine h_iconst C (pc := 379) (v := nI 3) d_law_379 (by decide) ?_
  refine h_nadd C (pc := 380) d_law_380 ?_
  refine h_sld C hX hbl hbA (pc := 381) (v := xs (i + 3)) d_law_381 (vp_in_nI (by omega) (by omega)) (by rw [nI_clamp (by omega)]) ?_
  refine h_callV C (M' := m_K_rule) (pc := 382) (q := 0) d_law_382 lm_L_39 (c_K_rule_no _ _ _ hq) v_K_rule rfl rfl rfl (by decide) rfl (Nat.le_of_ble_eq_true rfl) ?_
  rintro _ _ ⟨rfl, rfl⟩
  show pH p l e s m #[Value.ref b] below meth c D cI cJ A QQ 30 5664 385 _ (.int _ :: _) (wX aX iX rX LX ++ wM aM iM rM LM zM)
  refine h_aload_n C (pc := 385) d_law_385 rfl ?_
  refine h_aload_n C (pc := 386) d_law_386 rfl ?_
  refine h_iload_n C (pc := 387) d_law_387 rfl ?_
  refine h_iconst C (pc := 388) (v := nI 1) d_law_388 (by decide) ?_
  refine h_nadd C (pc := 389) d_law_389 ?_
  refine h_sld C hX hbl hbA (pc := 390) (v := xs (i + 1)) d_law_390 (vp_in_nI (by omega) (by omega)) (by rw [nI_clamp (by omega)]) ?_
  refine h_aload_n C (pc := 391) d_law_391 rfl ?_
  refine h_iload_n C (pc := 392) d_law_392 rfl ?_
  refine h_iconst C (pc := 393) (v := nI 2) d_law_393 (by decide) ?_
  refine h_nadd C (pc := 394) d_law_394 ?_
  refine h_sld C hX hbl hbA (pc := 395) (v := xs (i + 2)) d_law_395 (vp_in_nI (by omega) (by omega)) (by rw [nI_clamp (by omega)]) ?_
  refine h_aload_n C (pc := 396) d_law_396 rfl ?_
  refine h_iload_n C (pc := 397) d_law_397 rfl ?_
  refine h_iconst C (pc := 398) (v := nI 3) d_law_398 (by decide) ?_
  refine h_nadd C (pc := 399) d_law_399 ?_
  refine h_sld C hX hbl hbA (pc := 400) (v := xs (i + 3)) d_law_400 (vp_in_nI (by omega) (by omega)) (by rw [nI_clamp (by omega)]) ?_
  refine h_perm C List.perm_append_comm ?_
  refine h_callV C (M' := m_M_rule) (pc := 401) (q := 0) d_law_401 lm_L_43 (c_M_rule_no _ _ _ hq) v_M_rule rfl rfl rfl (by decide) rfl (Nat.le_of_ble_eq_true rfl) ?_
  rintro _ _ ⟨rfl, rfl⟩
  show pH p l e s m #[Value.ref b] below meth c D cI cJ A QQ 30 5664 404 _ (.int _ :: _) (wM aM iM rM LM zM ++ wX aX iX rX LX)
  refine h_perm C List.perm_append_comm ?_
  refine h_icmp_eq C (pc := 404) (tgt := 641) d_law_404 (by decide) (fun _ => ?_) (fun h => absurd rfl h)
  exact kk _ _ _ _ _ _ _ _ _ _ _ _ hXI hMI gs
set_option maxRecDepth 100000 in
set_option maxHeartbeats 4000000 in
theorem law_terms {p : Program} {l : Launch} {e : Env} {s : State} {m : MethodId} {below : List Frame} {meth : Method} {c : Code} {b Ln : Nat} {xs : Nat → Int32} {D : va_G} {cI cJ : ClassId} {A : Nat → Prop} {QQ : State → Prop} {τ : Nat × Nat} (C : pCx (m_law meth.name) τ p s m #[Value.ref b] meth c D cI cJ A) (hX : va_X b Ln xs s s.heap) (hbl : b < s.heap.size) (hbA : ¬ A b) (hL : Ln ≤ 2048) (i : Nat) (hi : i + 4 ≤ Ln) {Ty : List (Nat × Nat)} {Tm : List (List Nat)} {Th : List Thm} {dX dM : List Nat} {aX : Nat → Nat} {iX : Nat → Int32} {rX : Nat → Nat → Int32} {LX : Nat → Int64} {aM : Nat → Nat} {iM : Nat → Int32} {rM : Nat → Nat → Int32} {LM : Nat → Nat → Int64} {zM : Int64} (hXI : XI Ty Tm Th dX iX rX LX) (hMI : MI Ty Tm Th (dcl Tm) dM iM rM LM) (gs : GS Ty Tm Th) (kk : ∀ (Ty : List (Nat × Nat)) (Tm : List (List Nat)) (Th : List Thm) (dX dM : List Nat) (iX : Nat → Int32) (rX : Nat → Nat → Int32) (LX : Nat → Int64) (iM : Nat → Int32) (rM : Nat → Nat → Int32) (LM : Nat → Nat → Int64) (zM : Int64), XI Ty Tm Th dX iX rX LX → MI Ty Tm Th (dcl Tm) dM iM rM LM → GS Ty Tm Th → pH p l e s m #[Value.ref b] below meth c D cI cJ A QQ 30 5664 641 [(3, .int (nI i)), (2, .ref (aM 0)), (1, .ref (aX 0)), (0, .ref b)] [] (wX aX iX rX LX ++ wM aM iM rM LM zM)) : pH p l e s m #[Value.ref b] below meth c D cI cJ A QQ 30 5664 409 [(3, .int (nI i)), (2, .ref (aM 0)), (1, .ref (aX 0)), (0, .ref b)] [] (wX aX iX rX LX ++ wM aM iM rM LM zM) := by
  refine h_aload_n C (pc := 409) d_law_409 rfl ?_
  refine h_callV C (M' := m_K_terms) (pc := 410) (q := 0) d_law_410 lm_L_44 (c_K_terms  hXI) v_K_terms rfl rfl rfl (by decide) rfl (Nat.le_of_ble_eq_true rfl) ?_
  rintro _ _ ⟨rfl, rfl⟩
  show pH p l e s m #[Value.ref b] below meth c D cI cJ A QQ 30 5664 413 _ (.int _ :: _) (wX aX iX rX LX ++ wM aM iM rM LM zM)
  refine h_aload_n C (pc := 413) d_law_413 rfl ?_
  refine h_perm C List.perm_append_comm ?_
  refine h_callV C (M' := m_M_terms) (pc := 414) (q := 0) d_law_414 lm_L_48 (c_M_terms  hMI gs) v_M_terms rfl rfl rfl (by decide) rfl (Nat.le_of_ble_eq_true rfl) ?_
  rintro _ _ ⟨rfl, rfl⟩
  show pH p l e s m #[Value.ref b] below meth c D cI cJ A QQ 30 5664 417 _ (.int _ :: _) (wM aM iM rM LM zM ++ wX aX iX rX LX)
  refine h_perm C List.perm_append_comm ?_
  refine h_icmp_eq C (pc := 417) (tgt := 641) d_law_417 (by decide) (fun _ => ?_) (fun h => absurd rfl h)
  exact kk _ _ _ _ _ _ _ _ _ _ _ _ hXI hMI gs
set_option maxRecDepth 100000 in
set_option maxHeartbeats 4000000 in
theorem law_theorems {p : Program} {l : Launch} {e : Env} {s : State} {m : MethodId} {below : List Frame} {meth : Method} {c : Code} {b Ln : Nat} {xs : Nat → Int32} {D : va_G} {cI cJ : ClassId} {A : Nat → Prop} {QQ : State → Prop} {τ : Nat × Nat} (C : pCx (m_law meth.name) τ p s m #[Value.ref b] meth c D cI cJ A) (hX : va_X b Ln xs s s.heap) (hbl : b < s.heap.size) (hbA : ¬ A b) (hL : Ln ≤ 2048) (i : Nat) (hi : i + 4 ≤ Ln) {Ty : List (Nat × Nat)} {Tm : List (List Nat)} {Th : List Thm} {dX dM : List Nat} {aX : Nat → Nat} {iX : Nat → Int32} {rX : Nat → Nat → Int32} {LX : Nat → Int64} {aM : Nat → Nat} {iM : Nat → Int32} {rM : Nat → Nat → Int32} {LM : Nat → Nat → Int64} {zM : Int64} (hXI : XI Ty Tm Th dX iX rX LX) (hMI : MI Ty Tm Th (dcl Tm) dM iM rM LM) (gs : GS Ty Tm Th) (kk : ∀ (Ty : List (Nat × Nat)) (Tm : List (List Nat)) (Th : List Thm) (dX dM : List Nat) (iX : Nat → Int32) (rX : Nat → Nat → Int32) (LX : Nat → Int64) (iM : Nat → Int32) (rM : Nat → Nat → Int32) (LM : Nat → Nat → Int64) (zM : Int64), XI Ty Tm Th dX iX rX LX → MI Ty Tm Th (dcl Tm) dM iM rM LM → GS Ty Tm Th → pH p l e s m #[Value.ref b] below meth c D cI cJ A QQ 30 5664 641 [(3, .int (nI i)), (2, .ref (aM 0)), (1, .ref (aX 0)), (0, .ref b)] [] (wX aX iX rX LX ++ wM aM iM rM LM zM)) : pH p l e s m #[Value.ref b] below meth c D cI cJ A QQ 30 5664 422 [(3, .int (nI i)), (2, .ref (aM 0)), (1, .ref (aX 0)), (0, .ref b)] [] (wX aX iX rX LX ++ wM aM iM rM LM zM) := by
  refine h_aload_n C (pc := 422) d_law_422 rfl ?_
  refine h_callV C (M' := m_K_theorems) (pc := 423) (q := 0) d_law_423 lm_L_49 (c_K_theorems  hXI) v_K_theorems rfl rfl rfl (by decide) rfl (Nat.le_of_ble_eq_true rfl) ?_
  rintro _ _ ⟨rfl, rfl⟩
  show pH p l e s m #[Value.ref b] below meth c D cI cJ A QQ 30 5664 426 _ (.int _ :: _) (wX aX iX rX LX ++ wM aM iM rM LM zM)
  refine h_aload_n C (pc := 426) d_law_426 rfl ?_
  refine h_perm C List.perm_append_comm ?_
  refine h_callV C (M' := m_M_theorems) (pc := 427) (q := 0) d_law_427 lm_L_52 (c_M_theorems  hMI gs) v_M_theorems rfl rfl rfl (by decide) rfl (Nat.le_of_ble_eq_true rfl) ?_
  rintro _ _ ⟨rfl, rfl⟩
  show pH p l e s m #[Value.ref b] below meth c D cI cJ A QQ 30 5664 430 _ (.int _ :: _) (wM aM iM rM LM zM ++ wX aX iX rX LX)
  refine h_perm C List.perm_append_comm ?_
  refine h_icmp_eq C (pc := 430) (tgt := 641) d_law_430 (by decide) (fun _ => ?_) (fun h => absurd rfl h)
  exact kk _ _ _ _ _ _ _ _ _ _ _ _ hXI hMI gs
set_option maxRecDepth 100000 in
set_option maxHeartbeats 4000000 in
theorem law_typeOf {p : Program} {l : Launch} {e : Env} {s : State} {m : MethodId} {below : List Frame} {meth : Method} {c : Code} {b Ln : Nat} {xs : Nat → Int32} {D : va_G} {cI cJ : ClassId} {A : Nat → Prop} {QQ : State → Prop} {τ : Nat × Nat} (C : pCx (m_law meth.name) τ p s m #[Value.ref b] meth c D cI cJ A) (hX : va_X b Ln xs s s.heap) (hbl : b < s.heap.size) (hbA : ¬ A b) (hL : Ln ≤ 2048) (i : Nat) (hi : i + 4 ≤ Ln) {Ty : List (Nat × Nat)} {Tm : List (List Nat)} {Th : List Thm} {dX dM : List Nat} {aX : Nat → Nat} {iX : Nat → Int32} {rX : Nat → Nat → Int32} {LX : Nat → Int64} {aM : Nat → Nat} {iM : Nat → Int32} {rM : Nat → Nat → Int32} {LM : Nat → Nat → Int64} {zM : Int64} (hXI : XI Ty Tm Th dX iX rX LX) (hMI : MI Ty Tm Th (dcl Tm) dM iM rM LM) (gs : GS Ty Tm Th) (kk : ∀ (Ty : List (Nat × Nat)) (Tm : List (List Nat)) (Th : List Thm) (dX dM : List Nat) (iX : Nat → Int32) (rX : Nat → Nat → Int32) (LX : Nat → Int64) (iM : Nat → Int32) (rM : Nat → Nat → Int32) (LM : Nat → Nat → Int64) (zM : Int64), XI Ty Tm Th dX iX rX LX → MI Ty Tm Th (dcl Tm) dM iM rM LM → GS Ty Tm Th → pH p l e s m #[Value.ref b] below meth c D cI cJ A QQ 30 5664 641 [(3, .int (nI i)), (2, .ref (aM 0)), (1, .ref (aX 0)), (0, .ref b)] [] (wX aX iX rX LX ++ wM aM iM rM LM zM)) : pH p l e s m #[Value.ref b] below meth c D cI cJ A QQ 30 5664 435 [(3, .int (nI i)), (2, .ref (aM 0)), (1, .ref (aX 0)), (0, .ref b)] [] (wX aX iX rX LX ++ wM aM iM rM LM zM) := by
  refine h_aload_n C (pc := 435) d_law_435 rfl ?_
  refine h_aload_n C (pc := 436) d_law_436 rfl ?_
  refine h_iload_n C (pc := 437) d_law_437 rfl ?_
  refine h_iconst C (pc := 438) (v := nI 1) d_law_438 (by decide) ?_
  refine h_nadd C (pc := 439) d_law_439 ?_
  refine h_sld C hX hbl hbA (pc := 440) (v := xs (i + 1)) d_law_440 (vp_in_nI (by omega) (by omega)) (by rw [nI_clamp (by omega)]) ?_
  refine h_callV C (M' := m_K_typeOf) (pc := 441) (q := 0) d_law_441 lm_L_53 (c_K_typeOf _ hXI gs.tm) v_K_typeOf rfl rfl rfl (by decide) rfl (Nat.le_of_ble_eq_true rfl) ?_
  rintro _ _ ⟨rfl, rfl⟩
  show pH p l e s m #[Value.ref b] below meth c D cI cJ A QQ 30 5664 444 _ (.int _ :: _) (wX aX iX rX LX ++ wM aM iM rM LM zM)
  refine h_aload_n C (pc := 444) d_law_444 rfl ?_
  refine h_aload_n C (pc := 445) d_law_445 rfl ?_
  refine h_iload_n C (pc := 446) d_law_446 rfl ?_
  refine h_iconst C (pc := 447) (v := nI 1) d_law_447 (by decide) ?_
  refine h_nadd C (pc := 448) d_law_448 ?_
  refine h_sld C hX hbl hbA (pc := 449) (v := xs (i + 1)) d_law_449 (vp_in_nI (by omega) (by omega)) (by rw [nI_clamp (by omega)]) ?_
  refine h_perm C List.perm_append_comm ?_
  refine h_callV C (M' := m_M_typeOf) (pc := 450) (q := 0) d_law_450 lm_L_57 (c_M_typeOf _ hMI gs) v_M_typeOf rfl rfl rfl (by decide) rfl (Nat.le_of_ble_eq_true rfl) ?_
  rintro _ _ ⟨rfl, rfl⟩
  show pH p l e s m #[Value.ref b] below meth c D cI cJ A QQ 30 5664 453 _ (.int _ :: _) (wM aM iM rM LM zM ++ wX aX iX rX LX)
  refine h_perm C List.perm_append_comm ?_
  refine h_icmp_eq C (pc := 453) (tgt := 641) d_law_453 (by decide) (fun _ => ?_) (fun h => absurd rfl h)
  exact kk _ _ _ _ _ _ _ _ _ _ _ _ hXI hMI gs
set_option maxRecDepth 100000 in
set_option maxHeartbeats 4000000 in
theorem law_size {p : Program} {l : Launch} {e : Env} {s : State} {m : MethodId} {below : List Frame} {meth : Method} {c : Code} {b Ln : Nat} {xs : Nat → Int32} {D : va_G} {cI cJ : ClassId} {A : Nat → Prop} {QQ : State → Prop} {τ : Nat × Nat} (C : pCx (m_law meth.name) τ p s m #[Value.ref b] meth c D cI cJ A) (hX : va_X b Ln xs s s.heap) (hbl : b < s.heap.size) (hbA : ¬ A b) (hL : Ln ≤ 2048) (i : Nat) (hi : i + 4 ≤ Ln) {Ty : List (Nat × Nat)} {Tm : List (List Nat)} {Th : List Thm} {dX dM : List Nat} {aX : Nat → Nat} {iX : Nat → Int32} {rX : Nat → Nat → Int32} {LX : Nat → Int64} {aM : Nat → Nat} {iM : Nat → Int32} {rM : Nat → Nat → Int32} {LM : Nat → Nat → Int64} {zM : Int64} (hXI : XI Ty Tm Th dX iX rX LX) (hMI : MI Ty Tm Th (dcl Tm) dM iM rM LM) (gs : GS Ty Tm Th) (kk : ∀ (Ty : List (Nat × Nat)) (Tm : List (List Nat)) (Th : List Thm) (dX dM : List Nat) (iX : Nat → Int32) (rX : Nat → Nat → Int32) (LX : Nat → Int64) (iM : Nat → Int32) (rM : Nat → Nat → Int32) (LM : Nat → Nat → Int64) (zM : Int64), XI Ty Tm Th dX iX rX LX → MI Ty Tm Th (dcl Tm) dM iM rM LM → GS Ty Tm Th → pH p l e s m #[Value.ref b] below meth c D cI cJ A QQ 30 5664 641 [(3, .int (nI i)), (2, .ref (aM 0)), (1, .ref (aX 0)), (0, .ref b)] [] (wX aX iX rX LX ++ wM aM iM rM LM zM)) : pH p l e s m #[Value.ref b] below meth c D cI cJ A QQ 30 5664 458 [(3, .int (nI i)), (2, .ref (aM 0)), (1, .ref (aX 0)), (0, .ref b)] [] (wX aX iX rX LX ++ wM aM iM rM LM zM) := by
  refine h_aload_n C (pc := 458) d_law_458 rfl ?_
  refine h_aload_n C (pc := 459) d_law_459 rfl ?_
  refine h_iload_n C (pc := 460) d_law_460 rfl ?_
  refine h_iconst C (pc := 461) (v := nI 1) d_law_461 (by decide) ?_
  refine h_nadd C (pc := 462) d_law_462 ?_
  refine h_sld C hX hbl hbA (pc := 463) (v := xs (i + 1)) d_law_463 (vp_in_nI (by omega) (by omega)) (by rw [nI_clamp (by omega)]) ?_
  refine h_callV C (M' := m_K_size) (pc := 464) (q := 0) d_law_464 lm_L_58 (c_K_size _ hXI gs.tm) v_K_size rfl rfl rfl (by decide) rfl (Nat.le_of_ble_eq_true rfl) ?_
  rintro _ _ ⟨rfl, rfl⟩
  show pH p l e s m #[Value.ref b] below meth c D cI cJ A QQ 30 5664 467 _ (.int _ :: _) (wX aX iX rX LX ++ wM aM iM rM LM zM)
  refine h_aload_n C (pc := 467) d_law_467 rfl ?_
  refine h_aload_n C (pc := 468) d_law_468 rfl ?_
  refine h_iload_n C (pc := 469) d_law_469 rfl ?_
  refine h_iconst C (pc := 470) (v := nI 1) d_law_470 (by decide) ?_
  refine h_nadd C (pc := 471) d_law_471 ?_
  refine h_sld C hX hbl hbA (pc := 472) (v := xs (i + 1)) d_law_472 (vp_in_nI (by omega) (by omega)) (by rw [nI_clamp (by omega)]) ?_
  refine h_perm C List.perm_append_comm ?_
  refine h_callV C (M' := m_M_size) (pc := 473) (q := 0) d_law_473 lm_L_61 (c_M_size _ hMI gs) v_M_size rfl rfl rfl (by decide) rfl (Nat.le_of_ble_eq_true rfl) ?_
  rintro _ _ ⟨rfl, rfl⟩
  show pH p l e s m #[Value.ref b] below meth c D cI cJ A QQ 30 5664 476 _ (.int _ :: _) (wM aM iM rM LM zM ++ wX aX iX rX LX)
  refine h_perm C List.perm_append_comm ?_
  refine h_icmp_eq C (pc := 476) (tgt := 641) d_law_476 (by decide) (fun _ => ?_) (fun h => absurd rfl h)
  exact kk _ _ _ _ _ _ _ _ _ _ _ _ hXI hMI gs
set_option maxRecDepth 100000 in
set_option maxHeartbeats 4000000 in
theorem law_free {p : Program} {l : Launch} {e : Env} {s : State} {m : MethodId} {below : List Frame} {meth : Method} {c : Code} {b Ln : Nat} {xs : Nat → Int32} {D : va_G} {cI cJ : ClassId} {A : Nat → Prop} {QQ : State → Prop} {τ : Nat × Nat} (C : pCx (m_law meth.name) τ p s m #[Value.ref b] meth c D cI cJ A) (hX : va_X b Ln xs s s.heap) (hbl : b < s.heap.size) (hbA : ¬ A b) (hL : Ln ≤ 2048) (i : Nat) (hi : i + 4 ≤ Ln) {Ty : List (Nat × Nat)} {Tm : List (List Nat)} {Th : List Thm} {dX dM : List Nat} {aX : Nat → Nat} {iX : Nat → Int32} {rX : Nat → Nat → Int32} {LX : Nat → Int64} {aM : Nat → Nat} {iM : Nat → Int32} {rM : Nat → Nat → Int32} {LM : Nat → Nat → Int64} {zM : Int64} (hXI : XI Ty Tm Th dX iX rX LX) (hMI : MI Ty Tm Th (dcl Tm) dM iM rM LM) (gs : GS Ty Tm Th) (kk : ∀ (Ty : List (Nat × Nat)) (Tm : List (List Nat)) (Th : List Thm) (dX dM : List Nat) (iX : Nat → Int32) (rX : Nat → Nat → Int32) (LX : Nat → Int64) (iM : Nat → Int32) (rM : Nat → Nat → Int32) (LM : Nat → Nat → Int64) (zM : Int64), XI Ty Tm Th dX iX rX LX → MI Ty Tm Th (dcl Tm) dM iM rM LM → GS Ty Tm Th → pH p l e s m #[Value.ref b] below meth c D cI cJ A QQ 30 5664 641 [(3, .int (nI i)), (2, .ref (aM 0)), (1, .ref (aX 0)), (0, .ref b)] [] (wX aX iX rX LX ++ wM aM iM rM LM zM)) : pH p l e s m #[Value.ref b] below meth c D cI cJ A QQ 30 5664 481 [(3, .int (nI i)), (2, .ref (aM 0)), (1, .ref (aX 0)), (0, .ref b)] [] (wX aX iX rX LX ++ wM aM iM rM LM zM) := by
  refine h_aload_n C (pc := 481) d_law_481 rfl ?_
  refine h_aload_n C (pc := 482) d_law_482 rfl ?_
  refine h_iload_n C (pc := 483) d_law_483 rfl ?_
  refine h_iconst C (pc := 484) (v := nI 1) d_law_484 (by decide) ?_
  refine h_nadd C (pc := 485) d_law_485 ?_
  refine h_sld C hX hbl hbA (pc := 486) (v := xs (i + 1)) d_law_486 (vp_in_nI (by omega) (by omega)) (by rw [nI_clamp (by omega)]) ?_
  refine h_aload_n C (pc := 487) d_law_487 rfl ?_
  refine h_iload_n C (pc := 488) d_law_488 rfl ?_
  refine h_iconst C (pc := 489) (v := nI 2) d_law_489 (by decide) ?_
  refine h_nadd C (pc := 490) d_law_490 ?_
  refine h_sld C hX hbl hbA (pc := 491) (v := xs (i + 2)) d_law_491 (vp_in_nI (by omega) (by omega)) (by rw [nI_clamp (by omega)]) ?_
  refine h_callV C (M' := m_K_free) (pc := 492) (q := 0) d_law_492 lm_L_62 (c_K_free _ _ hXI gs.tm) v_K_free rfl rfl rfl (by decide) rfl (Nat.le_of_ble_eq_true rfl) ?_
  rintro _ _ ⟨rfl, rfl⟩
  show pH p l e s m #[Value.ref b] below meth c D cI cJ A QQ 30 5664 495 _ (.int _ :: _) (wX aX iX rX LX ++ wM aM iM rM LM zM)
  refine h_aload_n C (pc := 495) d_law_495 rfl ?_
  refine h_aload_n C (pc := 496) d_law_496 rfl ?_
  refine h_iload_n C (pc := 497) d_law_497 rfl ?_
  refine h_iconst C (pc := 498) (v := nI 1) d_law_498 (by decide) ?_
  refine h_nadd C (pc := 499) d_law_499 ?_
  refine h_sld C hX hbl hbA (pc := 500) (v := xs (i + 1)) d_law_500 (vp_in_nI (by omega) (by omega)) (by rw [nI_clamp (by omega)]) ?_
  refine h_aload_n C (pc := 501) d_law_501 rfl ?_
  refine h_iload_n C (pc := 502) d_law_502 rfl ?_
  refine h_iconst C (pc := 503) (v := nI 2) d_law_503 (by decide) ?_
  refine h_nadd C (pc := 504) d_law_504 ?_
  refine h_sld C hX hbl hbA (pc := 505) (v := xs (i + 2)) d_law_505 (vp_in_nI (by omega) (by omega)) (by rw [nI_clamp (by omega)]) ?_
  refine h_perm C List.perm_append_comm ?_
  refine h_callV C (M' := m_M_free) (pc := 506) (q := 0) d_law_506 lm_L_66 (c_M_free _ _ hMI gs) v_M_free rfl rfl rfl (by decide) rfl (Nat.le_of_ble_eq_true rfl) ?_
  rintro _ _ ⟨rfl, rfl⟩
  show pH p l e s m #[Value.ref b] below meth c D cI cJ A QQ 30 5664 509 _ (.int _ :: _) (wM aM iM rM LM zM ++ wX aX iX rX LX)
  refine h_perm C List.perm_append_comm ?_
  refine h_icmp_eq C (pc := 509) (tgt := 641) d_law_509 (by decide) (fun _ => ?_) (fun h => absurd rfl h)
  exact kk _ _ _ _ _ _ _ _ _ _ _ _ hXI hMI gs
set_option maxRecDepth 100000 in
set_option maxHeartbeats 4000000 in
theorem law_printed {p : Program} {l : Launch} {e : Env} {s : State} {m : MethodId} {below : List Frame} {meth : Method} {c : Code} {b Ln : Nat} {xs : Nat → Int32} {D : va_G} {cI cJ : ClassId} {A : Nat → Prop} {QQ : State → Prop} {τ : Nat × Nat} (C : pCx (m_law meth.name) τ p s m #[Value.ref b] meth c D cI cJ A) (hX : va_X b Ln xs s s.heap) (hbl : b < s.heap.size) (hbA : ¬ A b) (hL : Ln ≤ 2048) (i : Nat) (hi : i + 4 ≤ Ln) {Ty : List (Nat × Nat)} {Tm : List (List Nat)} {Th : List Thm} {dX dM : List Nat} {aX : Nat → Nat} {iX : Nat → Int32} {rX : Nat → Nat → Int32} {LX : Nat → Int64} {aM : Nat → Nat} {iM : Nat → Int32} {rM : Nat → Nat → Int32} {LM : Nat → Nat → Int64} {zM : Int64} (hXI : XI Ty Tm Th dX iX rX LX) (hMI : MI Ty Tm Th (dcl Tm) dM iM rM LM) (gs : GS Ty Tm Th) (kk : ∀ (Ty : List (Nat × Nat)) (Tm : List (List Nat)) (Th : List Thm) (dX dM : List Nat) (iX : Nat → Int32) (rX : Nat → Nat → Int32) (LX : Nat → Int64) (iM : Nat → Int32) (rM : Nat → Nat → Int32) (LM : Nat → Nat → Int64) (zM : Int64), XI Ty Tm Th dX iX rX LX → MI Ty Tm Th (dcl Tm) dM iM rM LM → GS Ty Tm Th → pH p l e s m #[Value.ref b] below meth c D cI cJ A QQ 30 5664 641 [(3, .int (nI i)), (2, .ref (aM 0)), (1, .ref (aX 0)), (0, .ref b)] [] (wX aX iX rX LX ++ wM aM iM rM LM zM)) : pH p l e s m #[Value.ref b] below meth c D cI cJ A QQ 30 5664 514 [(3, .int (nI i)), (2, .ref (aM 0)), (1, .ref (aX 0)), (0, .ref b)] [] (wX aX iX rX LX ++ wM aM iM rM LM zM) := by
  refine h_aload_n C (pc := 514) d_law_514 rfl ?_
  refine h_aload_n C (pc := 515) d_law_515 rfl ?_
  refine h_iload_n C (pc := 516) d_law_516 rfl ?_
  refine h_iconst C (pc := 517) (v := nI 1) d_law_517 (by decide) ?_
  refine h_nadd C (pc := 518) d_law_518 ?_
  refine h_sld C hX hbl hbA (pc := 519) (v := xs (i + 1)) d_law_519 (vp_in_nI (by omega) (by omega)) (by rw [nI_clamp (by omega)]) ?_
  refine h_aload_n C (pc := 520) d_law_520 rfl ?_
  refine h_iload_n C (pc := 521) d_law_521 rfl ?_
  refine h_iconst C (pc := 522) (v := nI 2) d_law_522 (by decide) ?_
  refine h_nadd C (pc := 523) d_law_523 ?_
  refine h_sld C hX hbl hbA (pc := 524) (v := xs (i + 2)) d_law_524 (vp_in_nI (by omega) (by omega)) (by rw [nI_clamp (by omega)]) ?_
  refine h_callV C (M' := m_K_printed) (pc := 525) (q := 0) d_law_525 lm_L_67 (c_K_printed _ _ hXI gs.tm) v_K_printed rfl rfl rfl (by decide) rfl (Nat.le_of_ble_eq_true rfl) ?_
  rintro _ _ ⟨rfl, rfl⟩
  show pH p l e s m #[Value.ref b] below meth c D cI cJ A QQ 30 5664 528 _ (.int _ :: _) (wX aX iX rX LX ++ wM aM iM rM LM zM)
  refine h_aload_n C (pc := 528) d_law_528 rfl ?_
  refine h_aload_n C (pc := 529) d_law_529 rfl ?_
  refine h_iload_n C (pc := 530) d_law_530 rfl ?_
  refine h_iconst C (pc := 531) (v := nI 1) d_law_531 (by decide) ?_
  refine h_nadd C (pc := 532) d_law_532 ?_
  refine h_sld C hX hbl hbA (pc := 533) (v := xs (i + 1)) d_law_533 (vp_in_nI (by omega) (by omega)) (by rw [nI_clamp (by omega)]) ?_
  refine h_aload_n C (pc := 534) d_law_534 rfl ?_
  refine h_iload_n C (pc := 535) d_law_535 rfl ?_
  refine h_iconst C (pc := 536) (v := nI 2) d_law_536 (by decide) ?_
  refine h_nadd C (pc := 537) d_law_537 ?_
  refine h_sld C hX hbl hbA (pc := 538) (v := xs (i + 2)) d_law_538 (vp_in_nI (by omega) (by omega)) (by rw [nI_clamp (by omega)]) ?_
  refine h_perm C List.perm_append_comm ?_
  refine h_callV C (M' := m_M_printed) (pc := 539) (q := 0) d_law_539 lm_L_70 (c_M_printed _ _ hMI gs) v_M_printed rfl rfl rfl (by decide) rfl (Nat.le_of_ble_eq_true rfl) ?_
  rintro _ _ ⟨iM2, rM2, LM2, zM2, dM2, rfl, rfl, hM2, gs2⟩
  show pH p l e s m #[Value.ref b] below meth c D cI cJ A QQ 30 5664 542 _ (.int _ :: _) (wM aM iM2 rM2 LM2 zM2 ++ wX aX iX rX LX)
  refine h_perm C List.perm_append_comm ?_
  refine h_icmp_eq C (pc := 542) (tgt := 641) d_law_542 (by decide) (fun _ => ?_) (fun h => absurd rfl h)
  exact kk _ _ _ _ _ _ _ _ _ _ _ _ hXI hM2 gs2
set_option maxRecDepth 100000 in
set_option maxHeartbeats 4000000 in
theorem law_conclusion {p : Program} {l : Launch} {e : Env} {s : State} {m : MethodId} {below : List Frame} {meth : Method} {c : Code} {b Ln : Nat} {xs : Nat → Int32} {D : va_G} {cI cJ : ClassId} {A : Nat → Prop} {QQ : State → Prop} {τ : Nat × Nat} (C : pCx (m_law meth.name) τ p s m #[Value.ref b] meth c D cI cJ A) (hX : va_X b Ln xs s s.heap) (hbl : b < s.heap.size) (hbA : ¬ A b) (hL : Ln ≤ 2048) (i : Nat) (hi : i + 4 ≤ Ln) {Ty : List (Nat × Nat)} {Tm : List (List Nat)} {Th : List Thm} {dX dM : List Nat} {aX : Nat → Nat} {iX : Nat → Int32} {rX : Nat → Nat → Int32} {LX : Nat → Int64} {aM : Nat → Nat} {iM : Nat → Int32} {rM : Nat → Nat → Int32} {LM : Nat → Nat → Int64} {zM : Int64} (hXI : XI Ty Tm Th dX iX rX LX) (hMI : MI Ty Tm Th (dcl Tm) dM iM rM LM) (gs : GS Ty Tm Th) (kk : ∀ (Ty : List (Nat × Nat)) (Tm : List (List Nat)) (Th : List Thm) (dX dM : List Nat) (iX : Nat → Int32) (rX : Nat → Nat → Int32) (LX : Nat → Int64) (iM : Nat → Int32) (rM : Nat → Nat → Int32) (LM : Nat → Nat → Int64) (zM : Int64), XI Ty Tm Th dX iX rX LX → MI Ty Tm Th (dcl Tm) dM iM rM LM → GS Ty Tm Th → pH p l e s m #[Value.ref b] below meth c D cI cJ A QQ 30 5664 641 [(3, .int (nI i)), (2, .ref (aM 0)), (1, .ref (aX 0)), (0, .ref b)] [] (wX aX iX rX LX ++ wM aM iM rM LM zM)) : pH p l e s m #[Value.ref b] below meth c D cI cJ A QQ 30 5664 547 [(3, .int (nI i)), (2, .ref (aM 0)), (1, .ref (aX 0)), (0, .ref b)] [] (wX aX iX rX LX ++ wM aM iM rM LM zM) := by
  refine h_aload_n C (pc := 547) d_law_547 rfl ?_
  refine h_aload_n C (pc := 548) d_law_548 rfl ?_
  refine h_iload_n C (pc := 549) d_law_549 rfl ?_
  refine h_iconst C (pc := 550) (v := nI 1) d_law_550 (by decide) ?_
  refine h_nadd C (pc := 551) d_law_551 ?_
  refine h_sld C hX hbl hbA (pc := 552) (v := xs (i + 1)) d_law_552 (vp_in_nI (by omega) (by omega)) (by rw [nI_clamp (by omega)]) ?_
  refine h_callV C (M' := m_K_conclusion) (pc := 553) (q := 0) d_law_553 lm_L_71 (c_K_conclusion _ hXI) v_K_conclusion rfl rfl rfl (by decide) rfl (Nat.le_of_ble_eq_true rfl) ?_
  rintro _ _ ⟨rfl, rfl⟩
  show pH p l e s m #[Value.ref b] below meth c D cI cJ A QQ 30 5664 556 _ (.int _ :: _) (wX aX iX rX LX ++ wM aM iM rM LM zM)
  refine h_aload_n C (pc := 556) d_law_556 rfl ?_
  refine h_aload_n C (pc := 557) d_law_557 rfl ?_
  refine h_iload_n C (pc := 558) d_law_558 rfl ?_
  refine h_iconst C (pc := 559) (v := nI 1) d_law_559 (by decide) ?_
  refine h_nadd C (pc := 560) d_law_560 ?_
  refine h_sld C hX hbl hbA (pc := 561) (v := xs (i + 1)) d_law_561 (vp_in_nI (by omega) (by omega)) (by rw [nI_clamp (by omega)]) ?_
  refine h_perm C List.perm_append_comm ?_
  refine h_callV C (M' := m_M_conclusion) (pc := 562) (q := 0) d_law_562 lm_L_74 (c_M_conclusion _ hMI gs) v_M_conclusion rfl rfl rfl (by decide) rfl (Nat.le_of_ble_eq_true rfl) ?_
  rintro _ _ ⟨rfl, rfl⟩
  show pH p l e s m #[Value.ref b] below meth c D cI cJ A QQ 30 5664 565 _ (.int _ :: _) (wM aM iM rM LM zM ++ wX aX iX rX LX)
  refine h_perm C List.perm_append_comm ?_
  refine h_icmp_eq C (pc := 565) (tgt := 641) d_law_565 (by decide) (fun _ => ?_) (fun h => absurd rfl h)
  exact kk _ _ _ _ _ _ _ _ _ _ _ _ hXI hMI gs
set_option maxRecDepth 100000 in
set_option maxHeartbeats 4000000 in
theorem law_hypotheses {p : Program} {l : Launch} {e : Env} {s : State} {m : MethodId} {below : List Frame} {meth : Method} {c : Code} {b Ln : Nat} {xs : Nat → Int32} {D : va_G} {cI cJ : ClassId} {A : Nat → Prop} {QQ : State → Prop} {τ : Nat × Nat} (C : pCx (m_law meth.name) τ p s m #[Value.ref b] meth c D cI cJ A) (hX : va_X b Ln xs s s.heap) (hbl : b < s.heap.size) (hbA : ¬ A b) (hL : Ln ≤ 2048) (i : Nat) (hi : i + 4 ≤ Ln) {Ty : List (Nat × Nat)} {Tm : List (List Nat)} {Th : List Thm} {dX dM : List Nat} {aX : Nat → Nat} {iX : Nat → Int32} {rX : Nat → Nat → Int32} {LX : Nat → Int64} {aM : Nat → Nat} {iM : Nat → Int32} {rM : Nat → Nat → Int32} {LM : Nat → Nat → Int64} {zM : Int64} (hXI : XI Ty Tm Th dX iX rX LX) (hMI : MI Ty Tm Th (dcl Tm) dM iM rM LM) (gs : GS Ty Tm Th) (kk : ∀ (Ty : List (Nat × Nat)) (Tm : List (List Nat)) (Th : List Thm) (dX dM : List Nat) (iX : Nat → Int32) (rX : Nat → Nat → Int32) (LX : Nat → Int64) (iM : Nat → Int32) (rM : Nat → Nat → Int32) (LM : Nat → Nat → Int64) (zM : Int64), XI Ty Tm Th dX iX rX LX → MI Ty Tm Th (dcl Tm) dM iM rM LM → GS Ty Tm Th → pH p l e s m #[Value.ref b] below meth c D cI cJ A QQ 30 5664 641 [(3, .int (nI i)), (2, .ref (aM 0)), (1, .ref (aX 0)), (0, .ref b)] [] (wX aX iX rX LX ++ wM aM iM rM LM zM)) : pH p l e s m #[Value.ref b] below meth c D cI cJ A QQ 30 5664 570 [(3, .int (nI i)), (2, .ref (aM 0)), (1, .ref (aX 0)), (0, .ref b)] [] (wX aX iX rX LX ++ wM aM iM rM LM zM) := by
  refine h_aload_n C (pc := 570) d_law_570 rfl ?_
  refine h_aload_n C (pc := 571) d_law_571 rfl ?_
  refine h_iload_n C (pc := 572) d_law_572 rfl ?_
  refine h_iconst C (pc := 573) (v := nI 1) d_law_573 (by decide) ?_
  refine h_nadd C (pc := 574) d_law_574 ?_
  refine h_sld C hX hbl hbA (pc := 575) (v := xs (i + 1)) d_law_575 (vp_in_nI (by omega) (by omega)) (by rw [nI_clamp (by omega)]) ?_
  refine h_callV C (M' := m_K_hypotheses) (pc := 576) (q := 0) d_law_576 lm_L_75 (c_K_hypotheses _ hXI) v_K_hypotheses rfl rfl rfl (by decide) rfl (Nat.le_of_ble_eq_true rfl) ?_
  rintro _ _ ⟨rfl, rfl⟩
  show pH p l e s m #[Value.ref b] below meth c D cI cJ A QQ 30 5664 579 _ (.long _ :: _) (wX aX iX rX LX ++ wM aM iM rM LM zM)
  refine h_aload_n C (pc := 579) d_law_579 rfl ?_
  refine h_aload_n C (pc := 580) d_law_580 rfl ?_
  refine h_iload_n C (pc := 581) d_law_581 rfl ?_
  refine h_iconst C (pc := 582) (v := nI 1) d_law_582 (by decide) ?_
  refine h_nadd C (pc := 583) d_law_583 ?_
  refine h_sld C hX hbl hbA (pc := 584) (v := xs (i + 1)) d_law_584 (vp_in_nI (by omega) (by omega)) (by rw [nI_clamp (by omega)]) ?_
  refine h_perm C List.perm_append_comm ?_
  refine h_callV C (M' := m_M_hypotheses) (pc := 585) (q := 0) d_law_585 lm_L_79 (c_M_hypotheses _ hMI gs) v_M_hypotheses rfl rfl rfl (by decide) rfl (Nat.le_of_ble_eq_true rfl) ?_
  rintro _ _ ⟨rfl, rfl⟩
  show pH p l e s m #[Value.ref b] below meth c D cI cJ A QQ 30 5664 588 _ (.long _ :: _) (wM aM iM rM LM zM ++ wX aX iX rX LX)
  refine h_perm C List.perm_append_comm ?_
  refine h_lcmp C (pc := 588) d_law_588 ?_
  refine h_if_eq C (pc := 589) (tgt := 641) d_law_589 (by decide) (fun _ => ?_) (fun h => absurd (lg_self _) h)
  exact kk _ _ _ _ _ _ _ _ _ _ _ _ hXI hMI gs
set_option maxRecDepth 100000 in
set_option maxHeartbeats 4000000 in
theorem law_axioms {p : Program} {l : Launch} {e : Env} {s : State} {m : MethodId} {below : List Frame} {meth : Method} {c : Code} {b Ln : Nat} {xs : Nat → Int32} {D : va_G} {cI cJ : ClassId} {A : Nat → Prop} {QQ : State → Prop} {τ : Nat × Nat} (C : pCx (m_law meth.name) τ p s m #[Value.ref b] meth c D cI cJ A) (hX : va_X b Ln xs s s.heap) (hbl : b < s.heap.size) (hbA : ¬ A b) (hL : Ln ≤ 2048) (i : Nat) (hi : i + 4 ≤ Ln) {Ty : List (Nat × Nat)} {Tm : List (List Nat)} {Th : List Thm} {dX dM : List Nat} {aX : Nat → Nat} {iX : Nat → Int32} {rX : Nat → Nat → Int32} {LX : Nat → Int64} {aM : Nat → Nat} {iM : Nat → Int32} {rM : Nat → Nat → Int32} {LM : Nat → Nat → Int64} {zM : Int64} (hXI : XI Ty Tm Th dX iX rX LX) (hMI : MI Ty Tm Th (dcl Tm) dM iM rM LM) (gs : GS Ty Tm Th) (kk : ∀ (Ty : List (Nat × Nat)) (Tm : List (List Nat)) (Th : List Thm) (dX dM : List Nat) (iX : Nat → Int32) (rX : Nat → Nat → Int32) (LX : Nat → Int64) (iM : Nat → Int32) (rM : Nat → Nat → Int32) (LM : Nat → Nat → Int64) (zM : Int64), XI Ty Tm Th dX iX rX LX → MI Ty Tm Th (dcl Tm) dM iM rM LM → GS Ty Tm Th → pH p l e s m #[Value.ref b] below meth c D cI cJ A QQ 30 5664 641 [(3, .int (nI i)), (2, .ref (aM 0)), (1, .ref (aX 0)), (0, .ref b)] [] (wX aX iX rX LX ++ wM aM iM rM LM zM)) : pH p l e s m #[Value.ref b] below meth c D cI cJ A QQ 30 5664 594 [(3, .int (nI i)), (2, .ref (aM 0)), (1, .ref (aX 0)), (0, .ref b)] [] (wX aX iX rX LX ++ wM aM iM rM LM zM) := by
  refine h_aload_n C (pc := 594) d_law_594 rfl ?_
  refine h_aload_n C (pc := 595) d_law_595 rfl ?_
  refine h_iload_n C (pc := 596) d_law_596 rfl ?_
  refine h_iconst C (pc := 597) (v := nI 1) d_law_597 (by decide) ?_
  refine h_nadd C (pc := 598) d_law_598 ?_
  refine h_sld C hX hbl hbA (pc := 599) (v := xs (i + 1)) d_law_599 (vp_in_nI (by omega) (by omega)) (by rw [nI_clamp (by omega)]) ?_
  refine h_callV C (M' := m_K_axioms) (pc := 600) (q := 0) d_law_600 lm_L_80 (c_K_axioms _ hXI) v_K_axioms rfl rfl rfl (by decide) rfl (Nat.le_of_ble_eq_true rfl) ?_
  rintro _ _ ⟨rfl, rfl⟩
  show pH p l e s m #[Value.ref b] below meth c D cI cJ A QQ 30 5664 603 _ (.long _ :: _) (wX aX iX rX LX ++ wM aM iM rM LM zM)
  refine h_aload_n C (pc := 603) d_law_603 rfl ?_
  refine h_aload_n C (pc := 604) d_law_604 rfl ?_
  refine h_iload_n C (pc := 605) d_law_605 rfl ?_
  refine h_iconst C (pc := 606) (v := nI 1) d_law_606 (by decide) ?_
  refine h_nadd C (pc := 607) d_law_607 ?_
  refine h_sld C hX hbl hbA (pc := 608) (v := xs (i + 1)) d_law_608 (vp_in_nI (by omega) (by omega)) (by rw [nI_clamp (by omega)]) ?_
  refine h_perm C List.perm_append_comm ?_
  refine h_callV C (M' := m_M_axioms) (pc := 609) (q := 0) d_law_609 lm_L_83 (c_M_axioms _ hMI gs) v_M_axioms rfl rfl rfl (by decide) rfl (Nat.le_of_ble_eq_true rfl) ?_
  rintro _ _ ⟨rfl, rfl⟩
  show pH p l e s m #[Value.ref b] below meth c D cI cJ A QQ 30 5664 612 _ (.long _ :: _) (wM aM iM rM LM zM ++ wX aX iX rX LX)
  refine h_perm C List.perm_append_comm ?_
  refine h_lcmp C (pc := 612) d_law_612 ?_
  refine h_if_eq C (pc := 613) (tgt := 641) d_law_613 (by decide) (fun _ => ?_) (fun h => absurd (lg_self _) h)
  exact kk _ _ _ _ _ _ _ _ _ _ _ _ hXI hMI gs
set_option maxRecDepth 100000 in
set_option maxHeartbeats 4000000 in
theorem law_steps {p : Program} {l : Launch} {e : Env} {s : State} {m : MethodId} {below : List Frame} {meth : Method} {c : Code} {b Ln : Nat} {xs : Nat → Int32} {D : va_G} {cI cJ : ClassId} {A : Nat → Prop} {QQ : State → Prop} {τ : Nat × Nat} (C : pCx (m_law meth.name) τ p s m #[Value.ref b] meth c D cI cJ A) (hX : va_X b Ln xs s s.heap) (hbl : b < s.heap.size) (hbA : ¬ A b) (hL : Ln ≤ 2048) (i : Nat) (hi : i + 4 ≤ Ln) {Ty : List (Nat × Nat)} {Tm : List (List Nat)} {Th : List Thm} {dX dM : List Nat} {aX : Nat → Nat} {iX : Nat → Int32} {rX : Nat → Nat → Int32} {LX : Nat → Int64} {aM : Nat → Nat} {iM : Nat → Int32} {rM : Nat → Nat → Int32} {LM : Nat → Nat → Int64} {zM : Int64} (hXI : XI Ty Tm Th dX iX rX LX) (hMI : MI Ty Tm Th (dcl Tm) dM iM rM LM) (gs : GS Ty Tm Th) (kk : ∀ (Ty : List (Nat × Nat)) (Tm : List (List Nat)) (Th : List Thm) (dX dM : List Nat) (iX : Nat → Int32) (rX : Nat → Nat → Int32) (LX : Nat → Int64) (iM : Nat → Int32) (rM : Nat → Nat → Int32) (LM : Nat → Nat → Int64) (zM : Int64), XI Ty Tm Th dX iX rX LX → MI Ty Tm Th (dcl Tm) dM iM rM LM → GS Ty Tm Th → pH p l e s m #[Value.ref b] below meth c D cI cJ A QQ 30 5664 641 [(3, .int (nI i)), (2, .ref (aM 0)), (1, .ref (aX 0)), (0, .ref b)] [] (wX aX iX rX LX ++ wM aM iM rM LM zM)) : pH p l e s m #[Value.ref b] below meth c D cI cJ A QQ 30 5664 618 [(3, .int (nI i)), (2, .ref (aM 0)), (1, .ref (aX 0)), (0, .ref b)] [] (wX aX iX rX LX ++ wM aM iM rM LM zM) := by
  refine h_aload_n C (pc := 618) d_law_618 rfl ?_
  refine h_aload_n C (pc := 619) d_law_619 rfl ?_
  refine h_iload_n C (pc := 620) d_law_620 rfl ?_
  refine h_iconst C (pc := 621) (v := nI 1) d_law_621 (by decide) ?_
  refine h_nadd C (pc := 622) d_law_622 ?_
  refine h_sld C hX hbl hbA (pc := 623) (v := xs (i + 1)) d_law_623 (vp_in_nI (by omega) (by omega)) (by rw [nI_clamp (by omega)]) ?_
  refine h_callV C (M' := m_K_steps) (pc := 624) (q := 0) d_law_624 lm_L_84 (c_K_steps _ hXI) v_K_steps rfl rfl rfl (by decide) rfl (Nat.le_of_ble_eq_true rfl) ?_
  rintro _ _ ⟨iX2, rX2, LX2, dX2, rfl, rfl, hX2⟩
  show pH p l e s m #[Value.ref b] below meth c D cI cJ A QQ 30 5664 627 _ (.int _ :: _) (wX aX iX2 rX2 LX2 ++ wM aM iM rM LM zM)
  refine h_aload_n C (pc := 627) d_law_627 rfl ?_
  refine h_aload_n C (pc := 628) d_law_628 rfl ?_
  refine h_iload_n C (pc := 629) d_law_629 rfl ?_
  refine h_iconst C (pc := 630) (v := nI 1) d_law_630 (by decide) ?_
  refine h_nadd C (pc := 631) d_law_631 ?_
  refine h_sld C hX hbl hbA (pc := 632) (v := xs (i + 1)) d_law_632 (vp_in_nI (by omega) (by omega)) (by rw [nI_clamp (by omega)]) ?_
  refine h_perm C List.perm_append_comm ?_
  refine h_callV C (M' := m_M_steps) (pc := 633) (q := 0) d_law_633 lm_L_87 (c_M_steps _ hMI gs) v_M_steps rfl rfl rfl (by decide) rfl (Nat.le_of_ble_eq_true rfl) ?_
  rintro _ _ ⟨rfl, rfl⟩
  show pH p l e s m #[Value.ref b] below meth c D cI cJ A QQ 30 5664 636 _ (.int _ :: _) (wM aM iM rM LM zM ++ wX aX iX2 rX2 LX2)
  refine h_perm C List.perm_append_comm ?_
  refine h_icmp_eq C (pc := 636) (tgt := 641) d_law_636 (by decide) (fun _ => ?_) (fun h => absurd rfl h)
  exact kk _ _ _ _ _ _ _ _ _ _ _ _ hX2 hMI gs
