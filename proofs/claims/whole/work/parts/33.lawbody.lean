set_option maxRecDepth 100000 in
set_option maxHeartbeats 4000000 in
theorem law_write {Γ : tj_G} {l : Launch} {D : va_G} {K K1 : Nat → ClassId} {q q1 : Nat → Nat} {b L j : Nat} {xs : Nat → Int32} {Rel : tj_S → tj_S → Prop} (C : tj_C Γ l D tj_cls 4 code "ThreeModeJournalLaw" 9 314 tj_T (L_tys K K1) tj_N) (hX : tj_X Γ b L xs) (hL : L ≤ 2048) (hj : j + 4 ≤ L) (hS : sim_write Rel) (tail : ∀ (s t : tj_S), Rel s t → tj_W Γ (L_cw K K1 q q1) (s, t) [(0, .ref b), (1, .ref (q 0)), (2, .ref (q1 0)), (3, .int (nI j))] 556 []) {s t : tj_S} (hR : Rel s t) : tj_W Γ (L_cw K K1 q q1) (s, t) [(0, .ref b), (1, .ref (q 0)), (2, .ref (q1 0)), (3, .int (nI j))] 128 [] := by
  have hi1 : vp_in (nI j + 1) L := by
    rw [show nI j + 1 = nI (j + 1) from nI_add j 1]
    exact vp_in_nI (by omega) (by omega)
  have hi2 : vp_in (nI j + 2) L := by
    rw [show nI j + 2 = nI (j + 2) from nI_add j 2]
    exact vp_in_nI (by omega) (by omega)
  have hi3 : vp_in (nI j + 3) L := by
    rw [show nI j + 3 = nI (j + 3) from nI_add j 3]
    exact vp_in_nI (by omega) (by omega)
  obtain ⟨r, s1, t1, h1, h2, hR1⟩ := hS (xs (nI j + 1).toNatClampNeg) (xs (nI j + 2).toNatClampNeg) (xs (nI j + 3).toNatClampNeg) s t hR
  refine xw_aload_n C d_law_128 1 rfl ?_
  refine xw_aload_n C d_law_129 0 rfl ?_
  refine xw_iload_n C d_law_130 3 rfl ?_
  refine xw_iconst C d_law_131 (v := 1) (by decide) ?_
  refine xw_iadd C d_law_132 ?_
  refine xl_sld C hX hi1 d_law_133 ?_
  refine xw_aload_n C d_law_134 0 rfl ?_
  refine xw_iload_n C d_law_135 3 rfl ?_
  refine xw_iconst C d_law_136 (v := 2) (by decide) ?_
  refine xw_iadd C d_law_137 ?_
  refine xl_sld C hX hi2 d_law_138 ?_
  refine xw_aload_n C d_law_139 0 rfl ?_
  refine xw_iload_n C d_law_140 3 rfl ?_
  refine xw_iconst C d_law_141 (v := 3) (by decide) ?_
  refine xw_iadd C d_law_142 ?_
  refine xl_sld C hX hi3 d_law_143 ?_
  refine xl_callX_i C (n := 3) (As := [.int (xs (nI j + 1).toNatClampNeg), .int (xs (nI j + 2).toNatClampNeg), .int (xs (nI j + 3).toNatClampNeg)]) (rest := []) (c_X_write h1) T_138 T_135 T_1 T_136 T_137 rfl (by decide +kernel) (by decide) rfl rfl (Nat.le_of_ble_eq_true rfl) d_law_144 ?_
  refine xw_aload_n C d_law_147 2 rfl ?_
  refine xw_aload_n C d_law_148 0 rfl ?_
  refine xw_iload_n C d_law_149 3 rfl ?_
  refine xw_iconst C d_law_150 (v := 1) (by decide) ?_
  refine xw_iadd C d_law_151 ?_
  refine xl_sld C hX hi1 d_law_152 ?_
  refine xw_aload_n C d_law_153 0 rfl ?_
  refine xw_iload_n C d_law_154 3 rfl ?_
  refine xw_iconst C d_law_155 (v := 2) (by decide) ?_
  refine xw_iadd C d_law_156 ?_
  refine xl_sld C hX hi2 d_law_157 ?_
  refine xw_aload_n C d_law_158 0 rfl ?_
  refine xw_iload_n C d_law_159 3 rfl ?_
  refine xw_iconst C d_law_160 (v := 3) (by decide) ?_
  refine xw_iadd C d_law_161 ?_
  refine xl_sld C hX hi3 d_law_162 ?_
  refine xl_callM_i C (n := 3) (As := [.int (xs (nI j + 1).toNatClampNeg), .int (xs (nI j + 2).toNatClampNeg), .int (xs (nI j + 3).toNatClampNeg)]) (rest := [.int r]) (c_Mod_write h2) T_529 T_526 T_6 T_527 T_528 rfl (by decide +kernel) (by decide) rfl rfl (Nat.le_of_ble_eq_true rfl) d_law_163 ?_
  exact xw_icmp_eq C d_law_166 (tgt := 556) (by decide) (fun _ => tail s1 t1 hR1) (fun hc => absurd rfl hc)
set_option maxRecDepth 100000 in
set_option maxHeartbeats 4000000 in
theorem law_cut {Γ : tj_G} {l : Launch} {D : va_G} {K K1 : Nat → ClassId} {q q1 : Nat → Nat} {b L j : Nat} {xs : Nat → Int32} {Rel : tj_S → tj_S → Prop} (C : tj_C Γ l D tj_cls 4 code "ThreeModeJournalLaw" 9 314 tj_T (L_tys K K1) tj_N) (hX : tj_X Γ b L xs) (hL : L ≤ 2048) (hj : j + 4 ≤ L) (hS : sim_cut Rel) (tail : ∀ (s t : tj_S), Rel s t → tj_W Γ (L_cw K K1 q q1) (s, t) [(0, .ref b), (1, .ref (q 0)), (2, .ref (q1 0)), (3, .int (nI j))] 556 []) {s t : tj_S} (hR : Rel s t) : tj_W Γ (L_cw K K1 q q1) (s, t) [(0, .ref b), (1, .ref (q 0)), (2, .ref (q1 0)), (3, .int (nI j))] 171 [] := by
  have hi1 : vp_in (nI j + 1) L := by
    rw [show nI j + 1 = nI (j + 1) from nI_add j 1]
    exact vp_in_nI (by omega) (by omega)
  have hi2 : vp_in (nI j + 2) L := by
    rw [show nI j + 2 = nI (j + 2) from nI_add j 2]
    exact vp_in_nI (by omega) (by omega)
  obtain ⟨r, s1, t1, h1, h2, hR1⟩ := hS (xs (nI j + 1).toNatClampNeg) (xs (nI j + 2).toNatClampNeg) s t hR
  refine xw_aload_n C d_law_171 1 rfl ?_
  refine xw_aload_n C d_law_172 0 rfl ?_
  refine xw_iload_n C d_law_173 3 rfl ?_
  refine xw_iconst C d_law_174 (v := 1) (by decide) ?_
  refine xw_iadd C d_law_175 ?_
  refine xl_sld C hX hi1 d_law_176 ?_
  refine xw_aload_n C d_law_177 0 rfl ?_
  refine xw_iload_n C d_law_178 3 rfl ?_
  refine xw_iconst C d_law_179 (v := 2) (by decide) ?_
  refine xw_iadd C d_law_180 ?_
  refine xl_sld C hX hi2 d_law_181 ?_
  refine xl_callX_i C (n := 2) (As := [.int (xs (nI j + 1).toNatClampNeg), .int (xs (nI j + 2).toNatClampNeg)]) (rest := []) (c_X_cut h1) T_335 T_332 T_1 T_333 T_334 rfl (by decide +kernel) (by decide) rfl rfl (Nat.le_of_ble_eq_true rfl) d_law_182 ?_
  refine xw_aload_n C d_law_185 2 rfl ?_
  refine xw_aload_n C d_law_186 0 rfl ?_
  refine xw_iload_n C d_law_187 3 rfl ?_
  refine xw_iconst C d_law_188 (v := 1) (by decide) ?_
  refine xw_iadd C d_law_189 ?_
  refine xl_sld C hX hi1 d_law_190 ?_
  refine xw_aload_n C d_law_191 0 rfl ?_
  refine xw_iload_n C d_law_192 3 rfl ?_
  refine xw_iconst C d_law_193 (v := 2) (by decide) ?_
  refine xw_iadd C d_law_194 ?_
  refine xl_sld C hX hi2 d_law_195 ?_
  refine xl_callM_i C (n := 2) (As := [.int (xs (nI j + 1).toNatClampNeg), .int (xs (nI j + 2).toNatClampNeg)]) (rest := [.int r]) (c_Mod_cut h2) T_616 T_613 T_6 T_614 T_615 rfl (by decide +kernel) (by decide) rfl rfl (Nat.le_of_ble_eq_true rfl) d_law_196 ?_
  exact xw_icmp_eq C d_law_199 (tgt := 556) (by decide) (fun _ => tail s1 t1 hR1) (fun hc => absurd rfl hc)
set_option maxRecDepth 100000 in
set_option maxHeartbeats 4000000 in
theorem law_rename {Γ : tj_G} {l : Launch} {D : va_G} {K K1 : Nat → ClassId} {q q1 : Nat → Nat} {b L j : Nat} {xs : Nat → Int32} {Rel : tj_S → tj_S → Prop} (C : tj_C Γ l D tj_cls 4 code "ThreeModeJournalLaw" 9 314 tj_T (L_tys K K1) tj_N) (hX : tj_X Γ b L xs) (hL : L ≤ 2048) (hj : j + 4 ≤ L) (hS : sim_rename Rel) (tail : ∀ (s t : tj_S), Rel s t → tj_W Γ (L_cw K K1 q q1) (s, t) [(0, .ref b), (1, .ref (q 0)), (2, .ref (q1 0)), (3, .int (nI j))] 556 []) {s t : tj_S} (hR : Rel s t) : tj_W Γ (L_cw K K1 q q1) (s, t) [(0, .ref b), (1, .ref (q 0)), (2, .ref (q1 0)), (3, .int (nI j))] 204 [] := by
  have hi1 : vp_in (nI j + 1) L := by
    rw [show nI j + 1 = nI (j + 1) from nI_add j 1]
    exact vp_in_nI (by omega) (by omega)
  have hi2 : vp_in (nI j + 2) L := by
    rw [show nI j + 2 = nI (j + 2) from nI_add j 2]
    exact vp_in_nI (by omega) (by omega)
  obtain ⟨r, s1, t1, h1, h2, hR1⟩ := hS (xs (nI j + 1).toNatClampNeg) (xs (nI j + 2).toNatClampNeg) s t hR
  refine xw_aload_n C d_law_204 1 rfl ?_
  refine xw_aload_n C d_law_205 0 rfl ?_
  refine xw_iload_n C d_law_206 3 rfl ?_
  refine xw_iconst C d_law_207 (v := 1) (by decide) ?_
  refine xw_iadd C d_law_208 ?_
  refine xl_sld C hX hi1 d_law_209 ?_
  refine xw_aload_n C d_law_210 0 rfl ?_
  refine xw_iload_n C d_law_211 3 rfl ?_
  refine xw_iconst C d_law_212 (v := 2) (by decide) ?_
  refine xw_iadd C d_law_213 ?_
  refine xl_sld C hX hi2 d_law_214 ?_
  refine xl_callX_i C (n := 2) (As := [.int (xs (nI j + 1).toNatClampNeg), .int (xs (nI j + 2).toNatClampNeg)]) (rest := []) (c_X_rename h1) T_365 T_362 T_1 T_363 T_364 rfl (by decide +kernel) (by decide) rfl rfl (Nat.le_of_ble_eq_true rfl) d_law_215 ?_
  refine xw_aload_n C d_law_218 2 rfl ?_
  refine xw_aload_n C d_law_219 0 rfl ?_
  refine xw_iload_n C d_law_220 3 rfl ?_
  refine xw_iconst C d_law_221 (v := 1) (by decide) ?_
  refine xw_iadd C d_law_222 ?_
  refine xl_sld C hX hi1 d_law_223 ?_
  refine xw_aload_n C d_law_224 0 rfl ?_
  refine xw_iload_n C d_law_225 3 rfl ?_
  refine xw_iconst C d_law_226 (v := 2) (by decide) ?_
  refine xw_iadd C d_law_227 ?_
  refine xl_sld C hX hi2 d_law_228 ?_
  refine xl_callM_i C (n := 2) (As := [.int (xs (nI j + 1).toNatClampNeg), .int (xs (nI j + 2).toNatClampNeg)]) (rest := [.int r]) (c_Mod_rename h2) T_628 T_625 T_6 T_626 T_627 rfl (by decide +kernel) (by decide) rfl rfl (Nat.le_of_ble_eq_true rfl) d_law_229 ?_
  exact xw_icmp_eq C d_law_232 (tgt := 556) (by decide) (fun _ => tail s1 t1 hR1) (fun hc => absurd rfl hc)
set_option maxRecDepth 100000 in
set_option maxHeartbeats 4000000 in
theorem law_read {Γ : tj_G} {l : Launch} {D : va_G} {K K1 : Nat → ClassId} {q q1 : Nat → Nat} {b L j : Nat} {xs : Nat → Int32} {Rel : tj_S → tj_S → Prop} (C : tj_C Γ l D tj_cls 4 code "ThreeModeJournalLaw" 9 314 tj_T (L_tys K K1) tj_N) (hX : tj_X Γ b L xs) (hL : L ≤ 2048) (hj : j + 4 ≤ L) (hS : sim_read Rel) (tail : ∀ (s t : tj_S), Rel s t → tj_W Γ (L_cw K K1 q q1) (s, t) [(0, .ref b), (1, .ref (q 0)), (2, .ref (q1 0)), (3, .int (nI j))] 556 []) {s t : tj_S} (hR : Rel s t) : tj_W Γ (L_cw K K1 q q1) (s, t) [(0, .ref b), (1, .ref (q 0)), (2, .ref (q1 0)), (3, .int (nI j))] 237 [] := by
  have hi1 : vp_in (nI j + 1) L := by
    rw [show nI j + 1 = nI (j + 1) from nI_add j 1]
    exact vp_in_nI (by omega) (by omega)
  have hi2 : vp_in (nI j + 2) L := by
    rw [show nI j + 2 = nI (j + 2) from nI_add j 2]
    exact vp_in_nI (by omega) (by omega)
  obtain ⟨r, s1, t1, h1, h2, hR1⟩ := hS (xs (nI j + 1).toNatClampNeg) (xs (nI j + 2).toNatClampNeg) s t hR
  refine xw_aload_n C d_law_237 1 rfl ?_
  refine xw_aload_n C d_law_238 0 rfl ?_
  refine xw_iload_n C d_law_239 3 rfl ?_
  refine xw_iconst C d_law_240 (v := 1) (by decide) ?_
  refine xw_iadd C d_law_241 ?_
  refine xl_sld C hX hi1 d_law_242 ?_
  refine xw_aload_n C d_law_243 0 rfl ?_
  refine xw_iload_n C d_law_244 3 rfl ?_
  refine xw_iconst C d_law_245 (v := 2) (by decide) ?_
  refine xw_iadd C d_law_246 ?_
  refine xl_sld C hX hi2 d_law_247 ?_
  refine xl_callX_i C (n := 2) (As := [.int (xs (nI j + 1).toNatClampNeg), .int (xs (nI j + 2).toNatClampNeg)]) (rest := []) (c_X_read h1) T_373 T_370 T_1 T_371 T_372 rfl (by decide +kernel) (by decide) rfl rfl (Nat.le_of_ble_eq_true rfl) d_law_248 ?_
  refine xw_aload_n C d_law_251 2 rfl ?_
  refine xw_aload_n C d_law_252 0 rfl ?_
  refine xw_iload_n C d_law_253 3 rfl ?_
  refine xw_iconst C d_law_254 (v := 1) (by decide) ?_
  refine xw_iadd C d_law_255 ?_
  refine xl_sld C hX hi1 d_law_256 ?_
  refine xw_aload_n C d_law_257 0 rfl ?_
  refine xw_iload_n C d_law_258 3 rfl ?_
  refine xw_iconst C d_law_259 (v := 2) (by decide) ?_
  refine xw_iadd C d_law_260 ?_
  refine xl_sld C hX hi2 d_law_261 ?_
  refine xl_callM_i C (n := 2) (As := [.int (xs (nI j + 1).toNatClampNeg), .int (xs (nI j + 2).toNatClampNeg)]) (rest := [.int r]) (c_Mod_read h2) T_632 T_629 T_6 T_630 T_631 rfl (by decide +kernel) (by decide) rfl rfl (Nat.le_of_ble_eq_true rfl) d_law_262 ?_
  exact xw_icmp_eq C d_law_265 (tgt := 556) (by decide) (fun _ => tail s1 t1 hR1) (fun hc => absurd rfl hc)
set_option maxRecDepth 100000 in
set_option maxHeartbeats 4000000 in
theorem law_length {Γ : tj_G} {l : Launch} {D : va_G} {K K1 : Nat → ClassId} {q q1 : Nat → Nat} {b L j : Nat} {xs : Nat → Int32} {Rel : tj_S → tj_S → Prop} (C : tj_C Γ l D tj_cls 4 code "ThreeModeJournalLaw" 9 314 tj_T (L_tys K K1) tj_N) (hX : tj_X Γ b L xs) (hL : L ≤ 2048) (hj : j + 4 ≤ L) (hS : sim_length Rel) (tail : ∀ (s t : tj_S), Rel s t → tj_W Γ (L_cw K K1 q q1) (s, t) [(0, .ref b), (1, .ref (q 0)), (2, .ref (q1 0)), (3, .int (nI j))] 556 []) {s t : tj_S} (hR : Rel s t) : tj_W Γ (L_cw K K1 q q1) (s, t) [(0, .ref b), (1, .ref (q 0)), (2, .ref (q1 0)), (3, .int (nI j))] 270 [] := by
  have hi1 : vp_in (nI j + 1) L := by
    rw [show nI j + 1 = nI (j + 1) from nI_add j 1]
    exact vp_in_nI (by omega) (by omega)
  obtain ⟨r, s1, t1, h1, h2, hR1⟩ := hS (xs (nI j + 1).toNatClampNeg) s t hR
  refine xw_aload_n C d_law_270 1 rfl ?_
  refine xw_aload_n C d_law_271 0 rfl ?_
  refine xw_iload_n C d_law_272 3 rfl ?_
  refine xw_iconst C d_law_273 (v := 1) (by decide) ?_
  refine xw_iadd C d_law_274 ?_
  refine xl_sld C hX hi1 d_law_275 ?_
  refine xl_callX_i C (n := 1) (As := [.int (xs (nI j + 1).toNatClampNeg)]) (rest := []) (c_X_length h1) T_377 T_374 T_1 T_375 T_376 rfl (by decide +kernel) (by decide) rfl rfl (Nat.le_of_ble_eq_true rfl) d_law_276 ?_
  refine xw_aload_n C d_law_279 2 rfl ?_
  refine xw_aload_n C d_law_280 0 rfl ?_
  refine xw_iload_n C d_law_281 3 rfl ?_
  refine xw_iconst C d_law_282 (v := 1) (by decide) ?_
  refine xw_iadd C d_law_283 ?_
  refine xl_sld C hX hi1 d_law_284 ?_
  refine xl_callM_i C (n := 1) (As := [.int (xs (nI j + 1).toNatClampNeg)]) (rest := [.int r]) (c_Mod_length h2) T_636 T_633 T_6 T_634 T_635 rfl (by decide +kernel) (by decide) rfl rfl (Nat.le_of_ble_eq_true rfl) d_law_285 ?_
  exact xw_icmp_eq C d_law_288 (tgt := 556) (by decide) (fun _ => tail s1 t1 hR1) (fun hc => absurd rfl hc)
set_option maxRecDepth 100000 in
set_option maxHeartbeats 4000000 in
theorem law_commit {Γ : tj_G} {l : Launch} {D : va_G} {K K1 : Nat → ClassId} {q q1 : Nat → Nat} {b L j : Nat} {xs : Nat → Int32} {Rel : tj_S → tj_S → Prop} (C : tj_C Γ l D tj_cls 4 code "ThreeModeJournalLaw" 9 314 tj_T (L_tys K K1) tj_N) (hX : tj_X Γ b L xs) (hL : L ≤ 2048) (hj : j + 4 ≤ L) (hS : sim_commit Rel) (tail : ∀ (s t : tj_S), Rel s t → tj_W Γ (L_cw K K1 q q1) (s, t) [(0, .ref b), (1, .ref (q 0)), (2, .ref (q1 0)), (3, .int (nI j))] 556 []) {s t : tj_S} (hR : Rel s t) : tj_W Γ (L_cw K K1 q q1) (s, t) [(0, .ref b), (1, .ref (q 0)), (2, .ref (q1 0)), (3, .int (nI j))] 293 [] := by
  obtain ⟨r, s1, t1, h1, h2, hR1⟩ := hS  s t hR
  refine xw_aload_n C d_law_293 1 rfl ?_
  refine xl_callX_i C (n := 0) (As := []) (rest := []) (c_X_commit h1) T_381 T_378 T_1 T_379 T_380 rfl (by decide +kernel) (by decide) rfl rfl (Nat.le_of_ble_eq_true rfl) d_law_294 ?_
  refine xw_aload_n C d_law_297 2 rfl ?_
  refine xl_callM_i C (n := 0) (As := []) (rest := [.int r]) (c_Mod_commit h2) T_640 T_637 T_6 T_638 T_639 rfl (by decide +kernel) (by decide) rfl rfl (Nat.le_of_ble_eq_true rfl) d_law_298 ?_
  exact xw_icmp_eq C d_law_301 (tgt := 556) (by decide) (fun _ => tail s1 t1 hR1) (fun hc => absurd rfl hc)
set_option maxRecDepth 100000 in
set_option maxHeartbeats 4000000 in
theorem law_sync {Γ : tj_G} {l : Launch} {D : va_G} {K K1 : Nat → ClassId} {q q1 : Nat → Nat} {b L j : Nat} {xs : Nat → Int32} {Rel : tj_S → tj_S → Prop} (C : tj_C Γ l D tj_cls 4 code "ThreeModeJournalLaw" 9 314 tj_T (L_tys K K1) tj_N) (hX : tj_X Γ b L xs) (hL : L ≤ 2048) (hj : j + 4 ≤ L) (hS : sim_sync Rel) (tail : ∀ (s t : tj_S), Rel s t → tj_W Γ (L_cw K K1 q q1) (s, t) [(0, .ref b), (1, .ref (q 0)), (2, .ref (q1 0)), (3, .int (nI j))] 556 []) {s t : tj_S} (hR : Rel s t) : tj_W Γ (L_cw K K1 q q1) (s, t) [(0, .ref b), (1, .ref (q 0)), (2, .ref (q1 0)), (3, .int (nI j))] 306 [] := by
  have hi1 : vp_in (nI j + 1) L := by
    rw [show nI j + 1 = nI (j + 1) from nI_add j 1]
    exact vp_in_nI (by omega) (by omega)
  obtain ⟨r, s1, t1, h1, h2, hR1⟩ := hS (xs (nI j + 1).toNatClampNeg) s t hR
  refine xw_aload_n C d_law_306 1 rfl ?_
  refine xw_aload_n C d_law_307 0 rfl ?_
  refine xw_iload_n C d_law_308 3 rfl ?_
  refine xw_iconst C d_law_309 (v := 1) (by decide) ?_
  refine xw_iadd C d_law_310 ?_
  refine xl_sld C hX hi1 d_law_311 ?_
  refine xl_callX_i C (n := 1) (As := [.int (xs (nI j + 1).toNatClampNeg)]) (rest := []) (c_X_sync h1) T_385 T_382 T_1 T_383 T_384 rfl (by decide +kernel) (by decide) rfl rfl (Nat.le_of_ble_eq_true rfl) d_law_312 ?_
  refine xw_aload_n C d_law_315 2 rfl ?_
  refine xw_aload_n C d_law_316 0 rfl ?_
  refine xw_iload_n C d_law_317 3 rfl ?_
  refine xw_iconst C d_law_318 (v := 1) (by decide) ?_
  refine xw_iadd C d_law_319 ?_
  refine xl_sld C hX hi1 d_law_320 ?_
  refine xl_callM_i C (n := 1) (As := [.int (xs (nI j + 1).toNatClampNeg)]) (rest := [.int r]) (c_Mod_sync h2) T_644 T_641 T_6 T_642 T_643 rfl (by decide +kernel) (by decide) rfl rfl (Nat.le_of_ble_eq_true rfl) d_law_321 ?_
  exact xw_icmp_eq C d_law_324 (tgt := 556) (by decide) (fun _ => tail s1 t1 hR1) (fun hc => absurd rfl hc)
set_option maxRecDepth 100000 in
set_option maxHeartbeats 4000000 in
theorem law_flush {Γ : tj_G} {l : Launch} {D : va_G} {K K1 : Nat → ClassId} {q q1 : Nat → Nat} {b L j : Nat} {xs : Nat → Int32} {Rel : tj_S → tj_S → Prop} (C : tj_C Γ l D tj_cls 4 code "ThreeModeJournalLaw" 9 314 tj_T (L_tys K K1) tj_N) (hX : tj_X Γ b L xs) (hL : L ≤ 2048) (hj : j + 4 ≤ L) (hS : sim_flush Rel) (tail : ∀ (s t : tj_S), Rel s t → tj_W Γ (L_cw K K1 q q1) (s, t) [(0, .ref b), (1, .ref (q 0)), (2, .ref (q1 0)), (3, .int (nI j))] 556 []) {s t : tj_S} (hR : Rel s t) : tj_W Γ (L_cw K K1 q q1) (s, t) [(0, .ref b), (1, .ref (q 0)), (2, .ref (q1 0)), (3, .int (nI j))] 329 [] := by
  have hi1 : vp_in (nI j + 1) L := by
    rw [show nI j + 1 = nI (j + 1) from nI_add j 1]
    exact vp_in_nI (by omega) (by omega)
  obtain ⟨r, s1, t1, h1, h2, hR1⟩ := hS (xs (nI j + 1).toNatClampNeg) s t hR
  refine xw_aload_n C d_law_329 1 rfl ?_
  refine xw_aload_n C d_law_330 0 rfl ?_
  refine xw_iload_n C d_law_331 3 rfl ?_
  refine xw_iconst C d_law_332 (v := 1) (by decide) ?_
  refine xw_iadd C d_law_333 ?_
  refine xl_sld C hX hi1 d_law_334 ?_
  refine xl_callX_i C (n := 1) (As := [.int (xs (nI j + 1).toNatClampNeg)]) (rest := []) (c_X_flush h1) T_400 T_397 T_1 T_398 T_399 rfl (by decide +kernel) (by decide) rfl rfl (Nat.le_of_ble_eq_true rfl) d_law_335 ?_
  refine xw_aload_n C d_law_338 2 rfl ?_
  refine xw_aload_n C d_law_339 0 rfl ?_
  refine xw_iload_n C d_law_340 3 rfl ?_
  refine xw_iconst C d_law_341 (v := 1) (by decide) ?_
  refine xw_iadd C d_law_342 ?_
  refine xl_sld C hX hi1 d_law_343 ?_
  refine xl_callM_i C (n := 1) (As := [.int (xs (nI j + 1).toNatClampNeg)]) (rest := [.int r]) (c_Mod_flush h2) T_652 T_649 T_6 T_650 T_651 rfl (by decide +kernel) (by decide) rfl rfl (Nat.le_of_ble_eq_true rfl) d_law_344 ?_
  exact xw_icmp_eq C d_law_347 (tgt := 556) (by decide) (fun _ => tail s1 t1 hR1) (fun hc => absurd rfl hc)
set_option maxRecDepth 100000 in
set_option maxHeartbeats 4000000 in
theorem law_checkpoint {Γ : tj_G} {l : Launch} {D : va_G} {K K1 : Nat → ClassId} {q q1 : Nat → Nat} {b L j : Nat} {xs : Nat → Int32} {Rel : tj_S → tj_S → Prop} (C : tj_C Γ l D tj_cls 4 code "ThreeModeJournalLaw" 9 314 tj_T (L_tys K K1) tj_N) (hX : tj_X Γ b L xs) (hL : L ≤ 2048) (hj : j + 4 ≤ L) (hS : sim_checkpoint Rel) (tail : ∀ (s t : tj_S), Rel s t → tj_W Γ (L_cw K K1 q q1) (s, t) [(0, .ref b), (1, .ref (q 0)), (2, .ref (q1 0)), (3, .int (nI j))] 556 []) {s t : tj_S} (hR : Rel s t) : tj_W Γ (L_cw K K1 q q1) (s, t) [(0, .ref b), (1, .ref (q 0)), (2, .ref (q1 0)), (3, .int (nI j))] 352 [] := by
  have hi1 : vp_in (nI j + 1) L := by
    rw [show nI j + 1 = nI (j + 1) from nI_add j 1]
    exact vp_in_nI (by omega) (by omega)
  obtain ⟨r, s1, t1, h1, h2, hR1⟩ := hS (xs (nI j + 1).toNatClampNeg) s t hR
  refine xw_aload_n C d_law_352 1 rfl ?_
  refine xw_aload_n C d_law_353 0 rfl ?_
  refine xw_iload_n C d_law_354 3 rfl ?_
  refine xw_iconst C d_law_355 (v := 1) (by decide) ?_
  refine xw_iadd C d_law_356 ?_
  refine xl_sld C hX hi1 d_law_357 ?_
  refine xl_callX_i C (n := 1) (As := [.int (xs (nI j + 1).toNatClampNeg)]) (rest := []) (c_X_checkpoint h1) T_407 T_404 T_1 T_405 T_406 rfl (by decide +kernel) (by decide) rfl rfl (Nat.le_of_ble_eq_true rfl) d_law_358 ?_
  refine xw_aload_n C d_law_361 2 rfl ?_
  refine xw_aload_n C d_law_362 0 rfl ?_
  refine xw_iload_n C d_law_363 3 rfl ?_
  refine xw_iconst C d_law_364 (v := 1) (by decide) ?_
  refine xw_iadd C d_law_365 ?_
  refine xl_sld C hX hi1 d_law_366 ?_
  refine xl_callM_i C (n := 1) (As := [.int (xs (nI j + 1).toNatClampNeg)]) (rest := [.int r]) (c_Mod_checkpoint h2) T_656 T_653 T_6 T_654 T_655 rfl (by decide +kernel) (by decide) rfl rfl (Nat.le_of_ble_eq_true rfl) d_law_367 ?_
  exact xw_icmp_eq C d_law_370 (tgt := 556) (by decide) (fun _ => tail s1 t1 hR1) (fun hc => absurd rfl hc)
set_option maxRecDepth 100000 in
set_option maxHeartbeats 4000000 in
theorem law_fuse {Γ : tj_G} {l : Launch} {D : va_G} {K K1 : Nat → ClassId} {q q1 : Nat → Nat} {b L j : Nat} {xs : Nat → Int32} {Rel : tj_S → tj_S → Prop} (C : tj_C Γ l D tj_cls 4 code "ThreeModeJournalLaw" 9 314 tj_T (L_tys K K1) tj_N) (hX : tj_X Γ b L xs) (hL : L ≤ 2048) (hj : j + 4 ≤ L) (hS : sim_fuse Rel) (tail : ∀ (s t : tj_S), Rel s t → tj_W Γ (L_cw K K1 q q1) (s, t) [(0, .ref b), (1, .ref (q 0)), (2, .ref (q1 0)), (3, .int (nI j))] 556 []) {s t : tj_S} (hR : Rel s t) : tj_W Γ (L_cw K K1 q q1) (s, t) [(0, .ref b), (1, .ref (q 0)), (2, .ref (q1 0)), (3, .int (nI j))] 375 [] := by
  have hi1 : vp_in (nI j + 1) L := by
    rw [show nI j + 1 = nI (j + 1) from nI_add j 1]
    exact vp_in_nI (by omega) (by omega)
  obtain ⟨s1, t1, h1, h2, hR1⟩ := hS (xs (nI j + 1).toNatClampNeg) s t hR
  refine xw_aload_n C d_law_375 1 rfl ?_
  refine xw_aload_n C d_law_376 0 rfl ?_
  refine xw_iload_n C d_law_377 3 rfl ?_
  refine xw_iconst C d_law_378 (v := 1) (by decide) ?_
  refine xw_iadd C d_law_379 ?_
  refine xl_sld C hX hi1 d_law_380 ?_
  refine xl_callX_v C (n := 1) (As := [.int (xs (nI j + 1).toNatClampNeg)]) (rest := []) (c_X_fuse h1) T_411 T_408 T_1 T_409 T_410 rfl (by decide +kernel) (by decide) rfl rfl (Nat.le_of_ble_eq_true rfl) d_law_381 ?_
  refine xw_aload_n C d_law_384 2 rfl ?_
  refine xw_aload_n C d_law_385 0 rfl ?_
  refine xw_iload_n C d_law_386 3 rfl ?_
  refine xw_iconst C d_law_387 (v := 1) (by decide) ?_
  refine xw_iadd C d_law_388 ?_
  refine xl_sld C hX hi1 d_law_389 ?_
  refine xl_callM_v C (n := 1) (As := [.int (xs (nI j + 1).toNatClampNeg)]) (rest := []) (c_Mod_fuse h2) T_660 T_657 T_6 T_658 T_659 rfl (by decide +kernel) (by decide) rfl rfl (Nat.le_of_ble_eq_true rfl) d_law_390 ?_
  exact xw_goto C d_law_393 (tgt := 556) (by decide) (tail s1 t1 hR1)
set_option maxRecDepth 100000 in
set_option maxHeartbeats 4000000 in
theorem law_crash {Γ : tj_G} {l : Launch} {D : va_G} {K K1 : Nat → ClassId} {q q1 : Nat → Nat} {b L j : Nat} {xs : Nat → Int32} {Rel : tj_S → tj_S → Prop} (C : tj_C Γ l D tj_cls 4 code "ThreeModeJournalLaw" 9 314 tj_T (L_tys K K1) tj_N) (hX : tj_X Γ b L xs) (hL : L ≤ 2048) (hj : j + 4 ≤ L) (hS : sim_crash Rel) (tail : ∀ (s t : tj_S), Rel s t → tj_W Γ (L_cw K K1 q q1) (s, t) [(0, .ref b), (1, .ref (q 0)), (2, .ref (q1 0)), (3, .int (nI j))] 556 []) {s t : tj_S} (hR : Rel s t) : tj_W Γ (L_cw K K1 q q1) (s, t) [(0, .ref b), (1, .ref (q 0)), (2, .ref (q1 0)), (3, .int (nI j))] 396 [] := by
  obtain ⟨r, s1, t1, h1, h2, hR1⟩ := hS  s t hR
  refine xw_aload_n C d_law_396 1 rfl ?_
  refine xl_callX_i C (n := 0) (As := []) (rest := []) (c_X_crash h1) T_415 T_412 T_1 T_413 T_414 rfl (by decide +kernel) (by decide) rfl rfl (Nat.le_of_ble_eq_true rfl) d_law_397 ?_
  refine xw_aload_n C d_law_400 2 rfl ?_
  refine xl_callM_i C (n := 0) (As := []) (rest := [.int r]) (c_Mod_crash h2) T_664 T_661 T_6 T_662 T_663 rfl (by decide +kernel) (by decide) rfl rfl (Nat.le_of_ble_eq_true rfl) d_law_401 ?_
  exact xw_icmp_eq C d_law_404 (tgt := 556) (by decide) (fun _ => tail s1 t1 hR1) (fun hc => absurd rfl hc)
set_option maxRecDepth 100000 in
set_option maxHeartbeats 4000000 in
theorem law_mount {Γ : tj_G} {l : Launch} {D : va_G} {K K1 : Nat → ClassId} {q q1 : Nat → Nat} {b L j : Nat} {xs : Nat → Int32} {Rel : tj_S → tj_S → Prop} (C : tj_C Γ l D tj_cls 4 code "ThreeModeJournalLaw" 9 314 tj_T (L_tys K K1) tj_N) (hX : tj_X Γ b L xs) (hL : L ≤ 2048) (hj : j + 4 ≤ L) (hS : sim_mount Rel) (tail : ∀ (s t : tj_S), Rel s t → tj_W Γ (L_cw K K1 q q1) (s, t) [(0, .ref b), (1, .ref (q 0)), (2, .ref (q1 0)), (3, .int (nI j))] 556 []) {s t : tj_S} (hR : Rel s t) : tj_W Γ (L_cw K K1 q q1) (s, t) [(0, .ref b), (1, .ref (q 0)), (2, .ref (q1 0)), (3, .int (nI j))] 409 [] := by
  have hi1 : vp_in (nI j + 1) L := by
    rw [show nI j + 1 = nI (j + 1) from nI_add j 1]
    exact vp_in_nI (by omega) (by omega)
  obtain ⟨r, s1, t1, h1, h2, hR1⟩ := hS (xs (nI j + 1).toNatClampNeg) s t hR
  refine xw_aload_n C d_law_409 1 rfl ?_
  refine xw_aload_n C d_law_410 0 rfl ?_
  refine xw_iload_n C d_law_411 3 rfl ?_
  refine xw_iconst C d_law_412 (v := 1) (by decide) ?_
  refine xw_iadd C d_law_413 ?_
  refine xl_sld C hX hi1 d_law_414 ?_
  refine xl_callX_i C (n := 1) (As := [.int (xs (nI j + 1).toNatClampNeg)]) (rest := []) (c_X_mount h1) T_419 T_416 T_1 T_417 T_418 rfl (by decide +kernel) (by decide) rfl rfl (Nat.le_of_ble_eq_true rfl) d_law_415 ?_
  refine xw_aload_n C d_law_418 2 rfl ?_
  refine xw_aload_n C d_law_419 0 rfl ?_
  refine xw_iload_n C d_law_420 3 rfl ?_
  refine xw_iconst C d_law_421 (v := 1) (by decide) ?_
  refine xw_iadd C d_law_422 ?_
  refine xl_sld C hX hi1 d_law_423 ?_
  refine xl_callM_i C (n := 1) (As := [.int (xs (nI j + 1).toNatClampNeg)]) (rest := [.int r]) (c_Mod_mount h2) T_668 T_665 T_6 T_666 T_667 rfl (by decide +kernel) (by decide) rfl rfl (Nat.le_of_ble_eq_true rfl) d_law_424 ?_
  exact xw_icmp_eq C d_law_427 (tgt := 556) (by decide) (fun _ => tail s1 t1 hR1) (fun hc => absurd rfl hc)
set_option maxRecDepth 100000 in
set_option maxHeartbeats 4000000 in
theorem law_mode {Γ : tj_G} {l : Launch} {D : va_G} {K K1 : Nat → ClassId} {q q1 : Nat → Nat} {b L j : Nat} {xs : Nat → Int32} {Rel : tj_S → tj_S → Prop} (C : tj_C Γ l D tj_cls 4 code "ThreeModeJournalLaw" 9 314 tj_T (L_tys K K1) tj_N) (hX : tj_X Γ b L xs) (hL : L ≤ 2048) (hj : j + 4 ≤ L) (hS : sim_mode Rel) (tail : ∀ (s t : tj_S), Rel s t → tj_W Γ (L_cw K K1 q q1) (s, t) [(0, .ref b), (1, .ref (q 0)), (2, .ref (q1 0)), (3, .int (nI j))] 556 []) {s t : tj_S} (hR : Rel s t) : tj_W Γ (L_cw K K1 q q1) (s, t) [(0, .ref b), (1, .ref (q 0)), (2, .ref (q1 0)), (3, .int (nI j))] 432 [] := by
  obtain ⟨r, s1, t1, h1, h2, hR1⟩ := hS  s t hR
  refine xw_aload_n C d_law_432 1 rfl ?_
  refine xl_callX_i C (n := 0) (As := []) (rest := []) (c_X_mode h1) T_436 T_433 T_1 T_434 T_435 rfl (by decide +kernel) (by decide) rfl rfl (Nat.le_of_ble_eq_true rfl) d_law_433 ?_
  refine xw_aload_n C d_law_436 2 rfl ?_
  refine xl_callM_i C (n := 0) (As := []) (rest := [.int r]) (c_Mod_mode h2) T_672 T_669 T_6 T_670 T_671 rfl (by decide +kernel) (by decide) rfl rfl (Nat.le_of_ble_eq_true rfl) d_law_437 ?_
  exact xw_icmp_eq C d_law_440 (tgt := 556) (by decide) (fun _ => tail s1 t1 hR1) (fun hc => absurd rfl hc)
set_option maxRecDepth 100000 in
set_option maxHeartbeats 4000000 in
theorem law_home {Γ : tj_G} {l : Launch} {D : va_G} {K K1 : Nat → ClassId} {q q1 : Nat → Nat} {b L j : Nat} {xs : Nat → Int32} {Rel : tj_S → tj_S → Prop} (C : tj_C Γ l D tj_cls 4 code "ThreeModeJournalLaw" 9 314 tj_T (L_tys K K1) tj_N) (hX : tj_X Γ b L xs) (hL : L ≤ 2048) (hj : j + 4 ≤ L) (hS : sim_home Rel) (tail : ∀ (s t : tj_S), Rel s t → tj_W Γ (L_cw K K1 q q1) (s, t) [(0, .ref b), (1, .ref (q 0)), (2, .ref (q1 0)), (3, .int (nI j))] 556 []) {s t : tj_S} (hR : Rel s t) : tj_W Γ (L_cw K K1 q q1) (s, t) [(0, .ref b), (1, .ref (q 0)), (2, .ref (q1 0)), (3, .int (nI j))] 445 [] := by
  have hi1 : vp_in (nI j + 1) L := by
    rw [show nI j + 1 = nI (j + 1) from nI_add j 1]
    exact vp_in_nI (by omega) (by omega)
  have hi2 : vp_in (nI j + 2) L := by
    rw [show nI j + 2 = nI (j + 2) from nI_add j 2]
    exact vp_in_nI (by omega) (by omega)
  obtain ⟨r, s1, t1, h1, h2, hR1⟩ := hS (xs (nI j + 1).toNatClampNeg) (xs (nI j + 2).toNatClampNeg) s t hR
  refine xw_aload_n C d_law_445 1 rfl ?_
  refine xw_aload_n C d_law_446 0 rfl ?_
  refine xw_iload_n C d_law_447 3 rfl ?_
  refine xw_iconst C d_law_448 (v := 1) (by decide) ?_
  refine xw_iadd C d_law_449 ?_
  refine xl_sld C hX hi1 d_law_450 ?_
  refine xw_aload_n C d_law_451 0 rfl ?_
  refine xw_iload_n C d_law_452 3 rfl ?_
  refine xw_iconst C d_law_453 (v := 2) (by decide) ?_
  refine xw_iadd C d_law_454 ?_
  refine xl_sld C hX hi2 d_law_455 ?_
  refine xl_callX_i C (n := 2) (As := [.int (xs (nI j + 1).toNatClampNeg), .int (xs (nI j + 2).toNatClampNeg)]) (rest := []) (c_X_home h1) T_440 T_437 T_1 T_438 T_439 rfl (by decide +kernel) (by decide) rfl rfl (Nat.le_of_ble_eq_true rfl) d_law_456 ?_
  refine xw_aload_n C d_law_459 2 rfl ?_
  refine xw_aload_n C d_law_460 0 rfl ?_
  refine xw_iload_n C d_law_461 3 rfl ?_
  refine xw_iconst C d_law_462 (v := 1) (by decide) ?_
  refine xw_iadd C d_law_463 ?_
  refine xl_sld C hX hi1 d_law_464 ?_
  refine xw_aload_n C d_law_465 0 rfl ?_
  refine xw_iload_n C d_law_466 3 rfl ?_
  refine xw_iconst C d_law_467 (v := 2) (by decide) ?_
  refine xw_iadd C d_law_468 ?_
  refine xl_sld C hX hi2 d_law_469 ?_
  refine xl_callM_i C (n := 2) (As := [.int (xs (nI j + 1).toNatClampNeg), .int (xs (nI j + 2).toNatClampNeg)]) (rest := [.int r]) (c_Mod_home h2) T_676 T_673 T_6 T_674 T_675 rfl (by decide +kernel) (by decide) rfl rfl (Nat.le_of_ble_eq_true rfl) d_law_470 ?_
  exact xw_icmp_eq C d_law_473 (tgt := 556) (by decide) (fun _ => tail s1 t1 hR1) (fun hc => absurd rfl hc)
set_option maxRecDepth 100000 in
set_option maxHeartbeats 4000000 in
theorem law_need {Γ : tj_G} {l : Launch} {D : va_G} {K K1 : Nat → ClassId} {q q1 : Nat → Nat} {b L j : Nat} {xs : Nat → Int32} {Rel : tj_S → tj_S → Prop} (C : tj_C Γ l D tj_cls 4 code "ThreeModeJournalLaw" 9 314 tj_T (L_tys K K1) tj_N) (hX : tj_X Γ b L xs) (hL : L ≤ 2048) (hj : j + 4 ≤ L) (hS : sim_need Rel) (tail : ∀ (s t : tj_S), Rel s t → tj_W Γ (L_cw K K1 q q1) (s, t) [(0, .ref b), (1, .ref (q 0)), (2, .ref (q1 0)), (3, .int (nI j))] 556 []) {s t : tj_S} (hR : Rel s t) : tj_W Γ (L_cw K K1 q q1) (s, t) [(0, .ref b), (1, .ref (q 0)), (2, .ref (q1 0)), (3, .int (nI j))] 478 [] := by
  obtain ⟨r, s1, t1, h1, h2, hR1⟩ := hS  s t hR
  refine xw_aload_n C d_law_478 1 rfl ?_
  refine xl_callX_i C (n := 0) (As := []) (rest := []) (c_X_need h1) T_445 T_442 T_1 T_443 T_444 rfl (by decide +kernel) (by decide) rfl rfl (Nat.le_of_ble_eq_true rfl) d_law_479 ?_
  refine xw_aload_n C d_law_482 2 rfl ?_
  refine xl_callM_i C (n := 0) (As := []) (rest := [.int r]) (c_Mod_need h2) T_680 T_677 T_6 T_678 T_679 rfl (by decide +kernel) (by decide) rfl rfl (Nat.le_of_ble_eq_true rfl) d_law_483 ?_
  exact xw_icmp_eq C d_law_486 (tgt := 556) (by decide) (fun _ => tail s1 t1 hR1) (fun hc => absurd rfl hc)
set_option maxRecDepth 100000 in
set_option maxHeartbeats 4000000 in
theorem law_room {Γ : tj_G} {l : Launch} {D : va_G} {K K1 : Nat → ClassId} {q q1 : Nat → Nat} {b L j : Nat} {xs : Nat → Int32} {Rel : tj_S → tj_S → Prop} (C : tj_C Γ l D tj_cls 4 code "ThreeModeJournalLaw" 9 314 tj_T (L_tys K K1) tj_N) (hX : tj_X Γ b L xs) (hL : L ≤ 2048) (hj : j + 4 ≤ L) (hS : sim_room Rel) (tail : ∀ (s t : tj_S), Rel s t → tj_W Γ (L_cw K K1 q q1) (s, t) [(0, .ref b), (1, .ref (q 0)), (2, .ref (q1 0)), (3, .int (nI j))] 556 []) {s t : tj_S} (hR : Rel s t) : tj_W Γ (L_cw K K1 q q1) (s, t) [(0, .ref b), (1, .ref (q 0)), (2, .ref (q1 0)), (3, .int (nI j))] 491 [] := by
  obtain ⟨r, s1, t1, h1, h2, hR1⟩ := hS  s t hR
  refine xw_aload_n C d_law_491 1 rfl ?_
  refine xl_callX_i C (n := 0) (As := []) (rest := []) (c_X_room h1) T_449 T_446 T_1 T_447 T_448 rfl (by decide +kernel) (by decide) rfl rfl (Nat.le_of_ble_eq_true rfl) d_law_492 ?_
  refine xw_aload_n C d_law_495 2 rfl ?_
  refine xl_callM_i C (n := 0) (As := []) (rest := [.int r]) (c_Mod_room h2) T_684 T_681 T_6 T_682 T_683 rfl (by decide +kernel) (by decide) rfl rfl (Nat.le_of_ble_eq_true rfl) d_law_496 ?_
  exact xw_icmp_eq C d_law_499 (tgt := 556) (by decide) (fun _ => tail s1 t1 hR1) (fun hc => absurd rfl hc)
set_option maxRecDepth 100000 in
set_option maxHeartbeats 4000000 in
theorem law_head {Γ : tj_G} {l : Launch} {D : va_G} {K K1 : Nat → ClassId} {q q1 : Nat → Nat} {b L j : Nat} {xs : Nat → Int32} {Rel : tj_S → tj_S → Prop} (C : tj_C Γ l D tj_cls 4 code "ThreeModeJournalLaw" 9 314 tj_T (L_tys K K1) tj_N) (hX : tj_X Γ b L xs) (hL : L ≤ 2048) (hj : j + 4 ≤ L) (hS : sim_head Rel) (tail : ∀ (s t : tj_S), Rel s t → tj_W Γ (L_cw K K1 q q1) (s, t) [(0, .ref b), (1, .ref (q 0)), (2, .ref (q1 0)), (3, .int (nI j))] 556 []) {s t : tj_S} (hR : Rel s t) : tj_W Γ (L_cw K K1 q q1) (s, t) [(0, .ref b), (1, .ref (q 0)), (2, .ref (q1 0)), (3, .int (nI j))] 504 [] := by
  obtain ⟨r, s1, t1, h1, h2, hR1⟩ := hS  s t hR
  refine xw_aload_n C d_law_504 1 rfl ?_
  refine xl_callX_i C (n := 0) (As := []) (rest := []) (c_X_head h1) T_454 T_451 T_1 T_452 T_453 rfl (by decide +kernel) (by decide) rfl rfl (Nat.le_of_ble_eq_true rfl) d_law_505 ?_
  refine xw_aload_n C d_law_508 2 rfl ?_
  refine xl_callM_i C (n := 0) (As := []) (rest := [.int r]) (c_Mod_head h2) T_688 T_685 T_6 T_686 T_687 rfl (by decide +kernel) (by decide) rfl rfl (Nat.le_of_ble_eq_true rfl) d_law_509 ?_
  exact xw_icmp_eq C d_law_512 (tgt := 556) (by decide) (fun _ => tail s1 t1 hR1) (fun hc => absurd rfl hc)
set_option maxRecDepth 100000 in
set_option maxHeartbeats 4000000 in
theorem law_dirty {Γ : tj_G} {l : Launch} {D : va_G} {K K1 : Nat → ClassId} {q q1 : Nat → Nat} {b L j : Nat} {xs : Nat → Int32} {Rel : tj_S → tj_S → Prop} (C : tj_C Γ l D tj_cls 4 code "ThreeModeJournalLaw" 9 314 tj_T (L_tys K K1) tj_N) (hX : tj_X Γ b L xs) (hL : L ≤ 2048) (hj : j + 4 ≤ L) (hS : sim_dirty Rel) (tail : ∀ (s t : tj_S), Rel s t → tj_W Γ (L_cw K K1 q q1) (s, t) [(0, .ref b), (1, .ref (q 0)), (2, .ref (q1 0)), (3, .int (nI j))] 556 []) {s t : tj_S} (hR : Rel s t) : tj_W Γ (L_cw K K1 q q1) (s, t) [(0, .ref b), (1, .ref (q 0)), (2, .ref (q1 0)), (3, .int (nI j))] 517 [] := by
  obtain ⟨r, s1, t1, h1, h2, hR1⟩ := hS  s t hR
  refine xw_aload_n C d_law_517 1 rfl ?_
  refine xl_callX_i C (n := 0) (As := []) (rest := []) (c_X_dirty h1) T_458 T_455 T_1 T_456 T_457 rfl (by decide +kernel) (by decide) rfl rfl (Nat.le_of_ble_eq_true rfl) d_law_518 ?_
  refine xw_aload_n C d_law_521 2 rfl ?_
  refine xl_callM_i C (n := 0) (As := []) (rest := [.int r]) (c_Mod_dirty h2) T_692 T_689 T_6 T_690 T_691 rfl (by decide +kernel) (by decide) rfl rfl (Nat.le_of_ble_eq_true rfl) d_law_522 ?_
  exact xw_icmp_eq C d_law_525 (tgt := 556) (by decide) (fun _ => tail s1 t1 hR1) (fun hc => absurd rfl hc)
set_option maxRecDepth 100000 in
set_option maxHeartbeats 4000000 in
theorem law_free {Γ : tj_G} {l : Launch} {D : va_G} {K K1 : Nat → ClassId} {q q1 : Nat → Nat} {b L j : Nat} {xs : Nat → Int32} {Rel : tj_S → tj_S → Prop} (C : tj_C Γ l D tj_cls 4 code "ThreeModeJournalLaw" 9 314 tj_T (L_tys K K1) tj_N) (hX : tj_X Γ b L xs) (hL : L ≤ 2048) (hj : j + 4 ≤ L) (hS : sim_free Rel) (tail : ∀ (s t : tj_S), Rel s t → tj_W Γ (L_cw K K1 q q1) (s, t) [(0, .ref b), (1, .ref (q 0)), (2, .ref (q1 0)), (3, .int (nI j))] 556 []) {s t : tj_S} (hR : Rel s t) : tj_W Γ (L_cw K K1 q q1) (s, t) [(0, .ref b), (1, .ref (q 0)), (2, .ref (q1 0)), (3, .int (nI j))] 530 [] := by
  obtain ⟨r, s1, t1, h1, h2, hR1⟩ := hS  s t hR
  refine xw_aload_n C d_law_530 1 rfl ?_
  refine xl_callX_i C (n := 0) (As := []) (rest := []) (c_X_free h1) T_462 T_459 T_1 T_460 T_461 rfl (by decide +kernel) (by decide) rfl rfl (Nat.le_of_ble_eq_true rfl) d_law_531 ?_
  refine xw_aload_n C d_law_534 2 rfl ?_
  refine xl_callM_i C (n := 0) (As := []) (rest := [.int r]) (c_Mod_free h2) T_696 T_693 T_6 T_694 T_695 rfl (by decide +kernel) (by decide) rfl rfl (Nat.le_of_ble_eq_true rfl) d_law_535 ?_
  exact xw_icmp_eq C d_law_538 (tgt := 556) (by decide) (fun _ => tail s1 t1 hR1) (fun hc => absurd rfl hc)
set_option maxRecDepth 100000 in
set_option maxHeartbeats 4000000 in
theorem law_writes {Γ : tj_G} {l : Launch} {D : va_G} {K K1 : Nat → ClassId} {q q1 : Nat → Nat} {b L j : Nat} {xs : Nat → Int32} {Rel : tj_S → tj_S → Prop} (C : tj_C Γ l D tj_cls 4 code "ThreeModeJournalLaw" 9 314 tj_T (L_tys K K1) tj_N) (hX : tj_X Γ b L xs) (hL : L ≤ 2048) (hj : j + 4 ≤ L) (hS : sim_writes Rel) (tail : ∀ (s t : tj_S), Rel s t → tj_W Γ (L_cw K K1 q q1) (s, t) [(0, .ref b), (1, .ref (q 0)), (2, .ref (q1 0)), (3, .int (nI j))] 556 []) {s t : tj_S} (hR : Rel s t) : tj_W Γ (L_cw K K1 q q1) (s, t) [(0, .ref b), (1, .ref (q 0)), (2, .ref (q1 0)), (3, .int (nI j))] 543 [] := by
  obtain ⟨r, s1, t1, h1, h2, hR1⟩ := hS  s t hR
  refine xw_aload_n C d_law_543 1 rfl ?_
  refine xl_callX_i C (n := 0) (As := []) (rest := []) (c_X_writes h1) T_466 T_463 T_1 T_464 T_465 rfl (by decide +kernel) (by decide) rfl rfl (Nat.le_of_ble_eq_true rfl) d_law_544 ?_
  refine xw_aload_n C d_law_547 2 rfl ?_
  refine xl_callM_i C (n := 0) (As := []) (rest := [.int r]) (c_Mod_writes h2) T_700 T_697 T_6 T_698 T_699 rfl (by decide +kernel) (by decide) rfl rfl (Nat.le_of_ble_eq_true rfl) d_law_548 ?_
  exact xw_icmp_eq C d_law_551 (tgt := 556) (by decide) (fun _ => tail s1 t1 hR1) (fun hc => absurd rfl hc)
set_option maxRecDepth 100000 in
set_option maxHeartbeats 4000000 in
theorem law_step {Γ : tj_G} {l : Launch} {D : va_G} {K K1 : Nat → ClassId} {q q1 : Nat → Nat} {b L j : Nat} {xs : Nat → Int32} {Rel : tj_S → tj_S → Prop} (C : tj_C Γ l D tj_cls 4 code "ThreeModeJournalLaw" 9 314 tj_T (L_tys K K1) tj_N) (hX : tj_X Γ b L xs) (hL : L ≤ 2048) (hj : j + 4 ≤ L) (hS : tj_Sim Rel) (next : ∀ (s t : tj_S), Rel s t → tj_W Γ (L_cw K K1 q q1) (s, t) [(0, .ref b), (1, .ref (q 0)), (2, .ref (q1 0)), (3, .int (nI (j + 4)))] 18 []) {s t : tj_S} (hR : Rel s t) : tj_W Γ (L_cw K K1 q q1) (s, t) [(0, .ref b), (1, .ref (q 0)), (2, .ref (q1 0)), (3, .int (nI j))] 26 [] := by
  obtain ⟨S0, S1, S2, S3, S4, S5, S6, S7, S8, S9, S10, S11, S12, S13, S14, S15, S16, S17, S18, S19⟩ := hS
  have tail : ∀ (s t : tj_S), Rel s t → tj_W Γ (L_cw K K1 q q1) (s, t) [(0, .ref b), (1, .ref (q 0)), (2, .ref (q1 0)), (3, .int (nI j))] 556 [] := by
    intro s t hR
    refine xl_iinc C d_law_556 3 rfl (v := nI (j + 4)) (nI_add j 4) (by decide) (lv1 := [(3, .int (nI (j + 4))), (0, .ref b), (1, .ref (q 0)), (2, .ref (q1 0))]) rfl ?_
    refine xw_goto C d_law_559 (tgt := 18) (by decide) ?_
    exact xw_lv [1, 2, 3, 0] rfl (next s t hR)
  have hi0 : vp_in (nI j) L := vp_in_nI (by omega) (by omega)
  refine xw_aload_n C d_law_26 0 rfl ?_
  refine xw_iload_n C d_law_27 3 rfl ?_
  refine xl_sld C hX hi0 d_law_28 ?_
  refine xw_bipush C d_law_29 (v := 31) (by decide) ?_
  refine xw_iand C d_law_31 ?_
  obtain ⟨z, hz, ez⟩ := pk_andE (xs (nI j).toNatClampNeg) (m := 31) 5 (by decide)
  rw [ez]
  have hti : (nI z).toInt = (z : Int) := nI_toInt (by omega)
  by_cases e0 : z = 0
  · subst e0
    exact xl_tin C d_law_32 (by decide) (by decide) rfl (tgt := 128) (by decide) (law_write C hX hL hj S0 tail hR)
  by_cases e1 : z = 1
  · subst e1
    exact xl_tin C d_law_32 (by decide) (by decide) rfl (tgt := 171) (by decide) (law_cut C hX hL hj S1 tail hR)
  by_cases e2 : z = 2
  · subst e2
    exact xl_tin C d_law_32 (by decide) (by decide) rfl (tgt := 204) (by decide) (law_rename C hX hL hj S2 tail hR)
  by_cases e3 : z = 3
  · subst e3
    exact xl_tin C d_law_32 (by decide) (by decide) rfl (tgt := 237) (by decide) (law_read C hX hL hj S3 tail hR)
  by_cases e4 : z = 4
  · subst e4
    exact xl_tin C d_law_32 (by decide) (by decide) rfl (tgt := 270) (by decide) (law_length C hX hL hj S4 tail hR)
  by_cases e5 : z = 5
  · subst e5
    exact xl_tin C d_law_32 (by decide) (by decide) rfl (tgt := 293) (by decide) (law_commit C hX hL hj S5 tail hR)
  by_cases e6 : z = 6
  · subst e6
    exact xl_tin C d_law_32 (by decide) (by decide) rfl (tgt := 306) (by decide) (law_sync C hX hL hj S6 tail hR)
  by_cases e7 : z = 7
  · subst e7
    exact xl_tin C d_law_32 (by decide) (by decide) rfl (tgt := 329) (by decide) (law_flush C hX hL hj S7 tail hR)
  by_cases e8 : z = 8
  · subst e8
    exact xl_tin C d_law_32 (by decide) (by decide) rfl (tgt := 352) (by decide) (law_checkpoint C hX hL hj S8 tail hR)
  by_cases e9 : z = 9
  · subst e9
    exact xl_tin C d_law_32 (by decide) (by decide) rfl (tgt := 375) (by decide) (law_fuse C hX hL hj S9 tail hR)
  by_cases e10 : z = 10
  · subst e10
    exact xl_tin C d_law_32 (by decide) (by decide) rfl (tgt := 396) (by decide) (law_crash C hX hL hj S10 tail hR)
  by_cases e11 : z = 11
  · subst e11
    exact xl_tin C d_law_32 (by decide) (by decide) rfl (tgt := 409) (by decide) (law_mount C hX hL hj S11 tail hR)
  by_cases e12 : z = 12
  · subst e12
    exact xl_tin C d_law_32 (by decide) (by decide) rfl (tgt := 432) (by decide) (law_mode C hX hL hj S12 tail hR)
  by_cases e13 : z = 13
  · subst e13
    exact xl_tin C d_law_32 (by decide) (by decide) rfl (tgt := 445) (by decide) (law_home C hX hL hj S13 tail hR)
  by_cases e14 : z = 14
  · subst e14
    exact xl_tin C d_law_32 (by decide) (by decide) rfl (tgt := 478) (by decide) (law_need C hX hL hj S14 tail hR)
  by_cases e15 : z = 15
  · subst e15
    exact xl_tin C d_law_32 (by decide) (by decide) rfl (tgt := 491) (by decide) (law_room C hX hL hj S15 tail hR)
  by_cases e16 : z = 16
  · subst e16
    exact xl_tin C d_law_32 (by decide) (by decide) rfl (tgt := 504) (by decide) (law_head C hX hL hj S16 tail hR)
  by_cases e17 : z = 17
  · subst e17
    exact xl_tin C d_law_32 (by decide) (by decide) rfl (tgt := 517) (by decide) (law_dirty C hX hL hj S17 tail hR)
  by_cases e18 : z = 18
  · subst e18
    exact xl_tin C d_law_32 (by decide) (by decide) rfl (tgt := 530) (by decide) (law_free C hX hL hj S18 tail hR)
  by_cases e19 : z = 19
  · subst e19
    exact xl_tin C d_law_32 (by decide) (by decide) rfl (tgt := 543) (by decide) (law_writes C hX hL hj S19 tail hR)
  exact xl_tout C d_law_32 (Or.inr (by rw [hti]; omega)) (tgt := 556) (by decide) (tail s t hR)
set_option maxRecDepth 100000 in
set_option maxHeartbeats 4000000 in
theorem law_loop {Γ : tj_G} {l : Launch} {D : va_G} {K K1 : Nat → ClassId} {q q1 : Nat → Nat} {b L : Nat} {xs : Nat → Int32} {Rel : tj_S → tj_S → Prop} (C : tj_C Γ l D tj_cls 4 code "ThreeModeJournalLaw" 9 314 tj_T (L_tys K K1) tj_N) (hX : tj_X Γ b L xs) (hL : L ≤ 2048) (hS : tj_Sim Rel) (fin : ∀ (s t : tj_S) (lv : List (Nat × Value)), tj_W Γ (L_cw K K1 q q1) (s, t) lv 563 [.int 1]) : ∀ (n j : Nat) (s t : tj_S), L ≤ n + j → j ≤ L + 4 → Rel s t → tj_W Γ (L_cw K K1 q q1) (s, t) [(0, .ref b), (1, .ref (q 0)), (2, .ref (q1 0)), (3, .int (nI j))] 18 [] := by
  intro n
  induction n with
  | zero =>
    intro j s t hn hj hR
    refine xw_iload_n C d_law_18 3 rfl ?_
    refine xw_aload_n C d_law_19 0 rfl ?_
    refine xl_slen C hX d_law_20 ?_
    refine xw_iconst C d_law_21 (v := 4) (by decide) ?_
    refine xw_isub C d_law_22 ?_
    have hs : (nI L - 4).toInt = (L : Int) - 4 := pk_sub_toInt (a := L) (b := 4) (by omega) (by omega)
    have hjt : (nI j).toInt = (j : Int) := nI_toInt (by omega)
    refine xw_icmp_gt C d_law_23 (tgt := 562) (by decide) (fun _ => ?_) (fun hc => ?_)
    · refine xw_iconst C d_law_562 (v := 1) (by decide) ?_
      exact fin s t _
    · have hc1 : j + 4 ≤ L := by
        rw [Int32.lt_iff_toInt_lt, hs, hjt] at hc
        omega
      exact absurd hc1 (by omega)
  | succ n ih =>
    intro j s t hn hj hR
    refine xw_iload_n C d_law_18 3 rfl ?_
    refine xw_aload_n C d_law_19 0 rfl ?_
    refine xl_slen C hX d_law_20 ?_
    refine xw_iconst C d_law_21 (v := 4) (by decide) ?_
    refine xw_isub C d_law_22 ?_
    have hs : (nI L - 4).toInt = (L : Int) - 4 := pk_sub_toInt (a := L) (b := 4) (by omega) (by omega)
    have hjt : (nI j).toInt = (j : Int) := nI_toInt (by omega)
    refine xw_icmp_gt C d_law_23 (tgt := 562) (by decide) (fun _ => ?_) (fun hc => ?_)
    · refine xw_iconst C d_law_562 (v := 1) (by decide) ?_
      exact fin s t _
    · have hc1 : j + 4 ≤ L := by
        rw [Int32.lt_iff_toInt_lt, hs, hjt] at hc
        omega
      exact law_step C hX hL hc1 hS (fun s t hR => ih (j + 4) s t (by omega) (by omega) hR) hR
