/-! ===== the law: a call in the script; its loop ===== -/
theorem lg_cmp_s (x : Int64) : lg_cmp x x = 0 := by
  unfold lg_cmp
  rw [if_neg (show ¬ x > x from Int64.lt_irrefl), if_pos rfl]
theorem Inv.ob {a : Nat} {μ : Mm} (h : Inv a μ) : ∃ fs, μ.1 a = some (obj 11 fs) := by
  obtain ⟨ρ, n, t, tx, cd, Lf, m, hG, hI, ⟨σ, hM, hT⟩, hW, hS, hB⟩ := h
  exact ⟨_, hM.o 0 11 (by decide)⟩
section LAW
variable {g : Gl} {a i : Nat} {μ : Mm} {Q : Option Value → Mm → Prop}
abbrev lawL (g : Gl) (a i : Nat) : List (Option Value) := [some (.ref (gS g 9)), some (.ref a), some (.ref (a + 60)), some (.int (nI i))]
theorem lc_house (hi : i + 6 ≤ (gX g).length) (hL : (gX g).length ≤ 3072) (hI : Inv a μ) (go : ∀ μ' : Mm, Inv a μ' → μ'.2.1 ≤ μ.2.1 + 7 → μ'.2.2 ≤ μ.2.2 + 200 → Ev g 70 mL_law 1126 (lawL g a i) [] μ' Q) : Ev g 70 mL_law 172 (lawL g a i) [] μ Q := by
  obtain ⟨fs, ha⟩ := hI.ob
  refine ev_aload_n dL_law_172 rfl ?_
  refine ev_aload_n dL_law_173 rfl ?_
  refine ev_iload_n dL_law_174 rfl ?_
  refine ev_iconst (v := 1) dL_law_175 (by decide) ?_
  refine ev_iadd dL_law_176 ?_
  rw [show nI i + (1 : Int32) = nI (i + 1) from nI_add i 1]
  refine ev_sld dL_law_177 (ix_n (by omega)) (gd (show i + 1 < (gX g).length by omega)) ?_
  refine ev_aload_n dL_law_178 rfl ?_
  refine ev_iload_n dL_law_179 rfl ?_
  refine ev_iconst (v := 2) dL_law_180 (by decide) ?_
  refine ev_iadd dL_law_181 ?_
  rw [show nI i + (2 : Int32) = nI (i + 2) from nI_add i 2]
  refine ev_sld dL_law_182 (ix_n (by omega)) (gd (show i + 2 < (gX g).length by omega)) ?_
  refine ev_aload_n dL_law_183 rfl ?_
  refine ev_iload_n dL_law_184 rfl ?_
  refine ev_iconst (v := 3) dL_law_185 (by decide) ?_
  refine ev_iadd dL_law_186 ?_
  rw [show nI i + (3 : Int32) = nI (i + 3) from nI_add i 3]
  refine ev_sld dL_law_187 (ix_n (by omega)) (gd (show i + 3 < (gX g).length by omega)) ?_
  refine k_v (s_house hI _ _ _) (by decide) dL_law_188 cbX11_house (mt2 171 rfl rfl) (mt2 172 rfl rfl) (mt2 173 rfl rfl) (ci := 11) rfl ha rfl rfl (Nat.le_of_ble_eq_true rfl) (fun v μ1 hq => ?_)
  obtain ⟨x, rfl, hz, ⟨fs2, hb⟩, hm⟩ := hq
  simp only [Option.toList, List.cons_append, List.nil_append]
  refine ev_aload_n dL_law_191 rfl ?_
  refine ev_aload_n dL_law_192 rfl ?_
  refine ev_iload_n dL_law_193 rfl ?_
  refine ev_iconst (v := 1) dL_law_194 (by decide) ?_
  refine ev_iadd dL_law_195 ?_
  rw [show nI i + (1 : Int32) = nI (i + 1) from nI_add i 1]
  refine ev_sld dL_law_196 (ix_n (by omega)) (gd (show i + 1 < (gX g).length by omega)) ?_
  refine ev_aload_n dL_law_197 rfl ?_
  refine ev_iload_n dL_law_198 rfl ?_
  refine ev_iconst (v := 2) dL_law_199 (by decide) ?_
  refine ev_iadd dL_law_200 ?_
  rw [show nI i + (2 : Int32) = nI (i + 2) from nI_add i 2]
  refine ev_sld dL_law_201 (ix_n (by omega)) (gd (show i + 2 < (gX g).length by omega)) ?_
  refine ev_aload_n dL_law_202 rfl ?_
  refine ev_iload_n dL_law_203 rfl ?_
  refine ev_iconst (v := 3) dL_law_204 (by decide) ?_
  refine ev_iadd dL_law_205 ?_
  rw [show nI i + (3 : Int32) = nI (i + 3) from nI_add i 3]
  refine ev_sld dL_law_206 (ix_n (by omega)) (gd (show i + 3 < (gX g).length by omega)) ?_
  refine k_v hm (by decide) dL_law_207 cbX12_house (mt5 187 rfl rfl) (mt5 188 rfl rfl) (mt5 189 rfl rfl) (ci := 12) rfl hb rfl rfl (Nat.le_of_ble_eq_true rfl) (fun v μ1 hq => ?_)
  obtain ⟨rfl, hI2, hz2⟩ := hq
  simp only [Option.toList, List.cons_append, List.nil_append]
  refine ev_icmp_eq (tgt := 1126) dL_law_210 (by decide) (fun _ => ?_) (fun h210 => absurd (rfl) h210)
  exact go _ hI2 (by rw [hz2]; exact hz.2.1) (by rw [hz2]; exact hz.2.2)
theorem lc_set (hi : i + 6 ≤ (gX g).length) (hL : (gX g).length ≤ 3072) (hI : Inv a μ) (go : ∀ μ' : Mm, Inv a μ' → μ'.2.1 ≤ μ.2.1 + 7 → μ'.2.2 ≤ μ.2.2 + 200 → Ev g 70 mL_law 1126 (lawL g a i) [] μ' Q) : Ev g 70 mL_law 215 (lawL g a i) [] μ Q := by
  obtain ⟨fs, ha⟩ := hI.ob
  refine ev_aload_n dL_law_215 rfl ?_
  refine ev_aload_n dL_law_216 rfl ?_
  refine ev_iload_n dL_law_217 rfl ?_
  refine ev_iconst (v := 1) dL_law_218 (by decide) ?_
  refine ev_iadd dL_law_219 ?_
  rw [show nI i + (1 : Int32) = nI (i + 1) from nI_add i 1]
  refine ev_sld dL_law_220 (ix_n (by omega)) (gd (show i + 1 < (gX g).length by omega)) ?_
  refine ev_aload_n dL_law_221 rfl ?_
  refine ev_iload_n dL_law_222 rfl ?_
  refine ev_iconst (v := 2) dL_law_223 (by decide) ?_
  refine ev_iadd dL_law_224 ?_
  rw [show nI i + (2 : Int32) = nI (i + 2) from nI_add i 2]
  refine ev_sld dL_law_225 (ix_n (by omega)) (gd (show i + 2 < (gX g).length by omega)) ?_
  refine ev_aload_n dL_law_226 rfl ?_
  refine ev_iload_n dL_law_227 rfl ?_
  refine ev_iconst (v := 3) dL_law_228 (by decide) ?_
  refine ev_iadd dL_law_229 ?_
  rw [show nI i + (3 : Int32) = nI (i + 3) from nI_add i 3]
  refine ev_sld dL_law_230 (ix_n (by omega)) (gd (show i + 3 < (gX g).length by omega)) ?_
  refine k_v (s_set hI _ _ _) (by decide) dL_law_231 cbX11_set (mt3 57 rfl rfl) (mt3 58 rfl rfl) (mt3 59 rfl rfl) (ci := 11) rfl ha rfl rfl (Nat.le_of_ble_eq_true rfl) (fun v μ1 hq => ?_)
  obtain ⟨x, rfl, hz, ⟨fs2, hb⟩, hm⟩ := hq
  simp only [Option.toList, List.cons_append, List.nil_append]
  refine ev_aload_n dL_law_234 rfl ?_
  refine ev_aload_n dL_law_235 rfl ?_
  refine ev_iload_n dL_law_236 rfl ?_
  refine ev_iconst (v := 1) dL_law_237 (by decide) ?_
  refine ev_iadd dL_law_238 ?_
  rw [show nI i + (1 : Int32) = nI (i + 1) from nI_add i 1]
  refine ev_sld dL_law_239 (ix_n (by omega)) (gd (show i + 1 < (gX g).length by omega)) ?_
  refine ev_aload_n dL_law_240 rfl ?_
  refine ev_iload_n dL_law_241 rfl ?_
  refine ev_iconst (v := 2) dL_law_242 (by decide) ?_
  refine ev_iadd dL_law_243 ?_
  rw [show nI i + (2 : Int32) = nI (i + 2) from nI_add i 2]
  refine ev_sld dL_law_244 (ix_n (by omega)) (gd (show i + 2 < (gX g).length by omega)) ?_
  refine ev_aload_n dL_law_245 rfl ?_
  refine ev_iload_n dL_law_246 rfl ?_
  refine ev_iconst (v := 3) dL_law_247 (by decide) ?_
  refine ev_iadd dL_law_248 ?_
  rw [show nI i + (3 : Int32) = nI (i + 3) from nI_add i 3]
  refine ev_sld dL_law_249 (ix_n (by omega)) (gd (show i + 3 < (gX g).length by omega)) ?_
  refine k_v hm (by decide) dL_law_250 cbX12_set (mt5 195 rfl rfl) (mt5 196 rfl rfl) (mt5 197 rfl rfl) (ci := 12) rfl hb rfl rfl (Nat.le_of_ble_eq_true rfl) (fun v μ1 hq => ?_)
  obtain ⟨rfl, hI2, hz2⟩ := hq
  simp only [Option.toList, List.cons_append, List.nil_append]
  refine ev_icmp_eq (tgt := 1126) dL_law_253 (by decide) (fun _ => ?_) (fun h253 => absurd (rfl) h253)
  exact go _ hI2 (by rw [hz2]; exact hz.2.1) (by rw [hz2]; exact hz.2.2)
theorem lc_bag (hi : i + 6 ≤ (gX g).length) (hL : (gX g).length ≤ 3072) (hI : Inv a μ) (go : ∀ μ' : Mm, Inv a μ' → μ'.2.1 ≤ μ.2.1 + 7 → μ'.2.2 ≤ μ.2.2 + 200 → Ev g 70 mL_law 1126 (lawL g a i) [] μ' Q) : Ev g 70 mL_law 258 (lawL g a i) [] μ Q := by
  obtain ⟨fs, ha⟩ := hI.ob
  refine ev_aload_n dL_law_258 rfl ?_
  refine ev_aload_n dL_law_259 rfl ?_
  refine ev_iload_n dL_law_260 rfl ?_
  refine ev_iconst (v := 1) dL_law_261 (by decide) ?_
  refine ev_iadd dL_law_262 ?_
  rw [show nI i + (1 : Int32) = nI (i + 1) from nI_add i 1]
  refine ev_sld dL_law_263 (ix_n (by omega)) (gd (show i + 1 < (gX g).length by omega)) ?_
  refine ev_aload_n dL_law_264 rfl ?_
  refine ev_iload_n dL_law_265 rfl ?_
  refine ev_iconst (v := 2) dL_law_266 (by decide) ?_
  refine ev_iadd dL_law_267 ?_
  rw [show nI i + (2 : Int32) = nI (i + 2) from nI_add i 2]
  refine ev_sld dL_law_268 (ix_n (by omega)) (gd (show i + 2 < (gX g).length by omega)) ?_
  refine k_v (s_bag hI _ _) (by decide) dL_law_269 cbX11_bag (mt3 79 rfl rfl) (mt3 80 rfl rfl) (mt3 81 rfl rfl) (ci := 11) rfl ha rfl rfl (Nat.le_of_ble_eq_true rfl) (fun v μ1 hq => ?_)
  obtain ⟨x, rfl, hz, ⟨fs2, hb⟩, hm⟩ := hq
  simp only [Option.toList, List.cons_append, List.nil_append]
  refine ev_aload_n dL_law_272 rfl ?_
  refine ev_aload_n dL_law_273 rfl ?_
  refine ev_iload_n dL_law_274 rfl ?_
  refine ev_iconst (v := 1) dL_law_275 (by decide) ?_
  refine ev_iadd dL_law_276 ?_
  rw [show nI i + (1 : Int32) = nI (i + 1) from nI_add i 1]
  refine ev_sld dL_law_277 (ix_n (by omega)) (gd (show i + 1 < (gX g).length by omega)) ?_
  refine ev_aload_n dL_law_278 rfl ?_
  refine ev_iload_n dL_law_279 rfl ?_
  refine ev_iconst (v := 2) dL_law_280 (by decide) ?_
  refine ev_iadd dL_law_281 ?_
  rw [show nI i + (2 : Int32) = nI (i + 2) from nI_add i 2]
  refine ev_sld dL_law_282 (ix_n (by omega)) (gd (show i + 2 < (gX g).length by omega)) ?_
  refine k_v hm (by decide) dL_law_283 cbX12_bag (mt5 203 rfl rfl) (mt5 204 rfl rfl) (mt5 205 rfl rfl) (ci := 12) rfl hb rfl rfl (Nat.le_of_ble_eq_true rfl) (fun v μ1 hq => ?_)
  obtain ⟨rfl, hI2, hz2⟩ := hq
  simp only [Option.toList, List.cons_append, List.nil_append]
  refine ev_icmp_eq (tgt := 1126) dL_law_286 (by decide) (fun _ => ?_) (fun h286 => absurd (rfl) h286)
  exact go _ hI2 (by rw [hz2]; exact hz.2.1) (by rw [hz2]; exact hz.2.2)
theorem lc_told (hi : i + 6 ≤ (gX g).length) (hL : (gX g).length ≤ 3072) (hI : Inv a μ) (go : ∀ μ' : Mm, Inv a μ' → μ'.2.1 ≤ μ.2.1 + 7 → μ'.2.2 ≤ μ.2.2 + 200 → Ev g 70 mL_law 1126 (lawL g a i) [] μ' Q) : Ev g 70 mL_law 291 (lawL g a i) [] μ Q := by
  obtain ⟨fs, ha⟩ := hI.ob
  refine ev_aload_n dL_law_291 rfl ?_
  refine ev_aload_n dL_law_292 rfl ?_
  refine ev_iload_n dL_law_293 rfl ?_
  refine ev_iconst (v := 1) dL_law_294 (by decide) ?_
  refine ev_iadd dL_law_295 ?_
  rw [show nI i + (1 : Int32) = nI (i + 1) from nI_add i 1]
  refine ev_sld dL_law_296 (ix_n (by omega)) (gd (show i + 1 < (gX g).length by omega)) ?_
  refine ev_aload_n dL_law_297 rfl ?_
  refine ev_iload_n dL_law_298 rfl ?_
  refine ev_iconst (v := 2) dL_law_299 (by decide) ?_
  refine ev_iadd dL_law_300 ?_
  rw [show nI i + (2 : Int32) = nI (i + 2) from nI_add i 2]
  refine ev_sld dL_law_301 (ix_n (by omega)) (gd (show i + 2 < (gX g).length by omega)) ?_
  refine k_v (s_told hI _ _) (by decide) dL_law_302 cbX11_told (mt3 87 rfl rfl) (mt3 88 rfl rfl) (mt3 89 rfl rfl) (ci := 11) rfl ha rfl rfl (Nat.le_of_ble_eq_true rfl) (fun v μ1 hq => ?_)
  obtain ⟨x, rfl, hz, ⟨fs2, hb⟩, hm⟩ := hq
  simp only [Option.toList, List.cons_append, List.nil_append]
  refine ev_aload_n dL_law_305 rfl ?_
  refine ev_aload_n dL_law_306 rfl ?_
  refine ev_iload_n dL_law_307 rfl ?_
  refine ev_iconst (v := 1) dL_law_308 (by decide) ?_
  refine ev_iadd dL_law_309 ?_
  rw [show nI i + (1 : Int32) = nI (i + 1) from nI_add i 1]
  refine ev_sld dL_law_310 (ix_n (by omega)) (gd (show i + 1 < (gX g).length by omega)) ?_
  refine ev_aload_n dL_law_311 rfl ?_
  refine ev_iload_n dL_law_312 rfl ?_
  refine ev_iconst (v := 2) dL_law_313 (by decide) ?_
  refine ev_iadd dL_law_314 ?_
  rw [show nI i + (2 : Int32) = nI (i + 2) from nI_add i 2]
  refine ev_sld dL_law_315 (ix_n (by omega)) (gd (show i + 2 < (gX g).length by omega)) ?_
  refine k_v hm (by decide) dL_law_316 cbX12_told (mt5 211 rfl rfl) (mt5 212 rfl rfl) (mt5 213 rfl rfl) (ci := 12) rfl hb rfl rfl (Nat.le_of_ble_eq_true rfl) (fun v μ1 hq => ?_)
  obtain ⟨rfl, hI2, hz2⟩ := hq
  simp only [Option.toList, List.cons_append, List.nil_append]
  refine ev_icmp_eq (tgt := 1126) dL_law_319 (by decide) (fun _ => ?_) (fun h319 => absurd (rfl) h319)
  exact go _ hI2 (by rw [hz2]; exact hz.2.1) (by rw [hz2]; exact hz.2.2)
theorem lc_swap (hi : i + 6 ≤ (gX g).length) (hL : (gX g).length ≤ 3072) (hI : Inv a μ) (go : ∀ μ' : Mm, Inv a μ' → μ'.2.1 ≤ μ.2.1 + 7 → μ'.2.2 ≤ μ.2.2 + 200 → Ev g 70 mL_law 1126 (lawL g a i) [] μ' Q) : Ev g 70 mL_law 324 (lawL g a i) [] μ Q := by
  obtain ⟨fs, ha⟩ := hI.ob
  refine ev_aload_n dL_law_324 rfl ?_
  refine ev_aload_n dL_law_325 rfl ?_
  refine ev_iload_n dL_law_326 rfl ?_
  refine ev_iconst (v := 1) dL_law_327 (by decide) ?_
  refine ev_iadd dL_law_328 ?_
  rw [show nI i + (1 : Int32) = nI (i + 1) from nI_add i 1]
  refine ev_sld dL_law_329 (ix_n (by omega)) (gd (show i + 1 < (gX g).length by omega)) ?_
  refine ev_aload_n dL_law_330 rfl ?_
  refine ev_iload_n dL_law_331 rfl ?_
  refine ev_iconst (v := 2) dL_law_332 (by decide) ?_
  refine ev_iadd dL_law_333 ?_
  rw [show nI i + (2 : Int32) = nI (i + 2) from nI_add i 2]
  refine ev_sld dL_law_334 (ix_n (by omega)) (gd (show i + 2 < (gX g).length by omega)) ?_
  refine k_v (s_swap hI _ _) (by decide) dL_law_335 cbX11_swap (mt3 170 rfl rfl) (mt3 171 rfl rfl) (mt3 172 rfl rfl) (ci := 11) rfl ha rfl rfl (Nat.le_of_ble_eq_true rfl) (fun v μ1 hq => ?_)
  obtain ⟨x, rfl, hz, ⟨fs2, hb⟩, hm⟩ := hq
  simp only [Option.toList, List.cons_append, List.nil_append]
  refine ev_aload_n dL_law_338 rfl ?_
  refine ev_aload_n dL_law_339 rfl ?_
  refine ev_iload_n dL_law_340 rfl ?_
  refine ev_iconst (v := 1) dL_law_341 (by decide) ?_
  refine ev_iadd dL_law_342 ?_
  rw [show nI i + (1 : Int32) = nI (i + 1) from nI_add i 1]
  refine ev_sld dL_law_343 (ix_n (by omega)) (gd (show i + 1 < (gX g).length by omega)) ?_
  refine ev_aload_n dL_law_344 rfl ?_
  refine ev_iload_n dL_law_345 rfl ?_
  refine ev_iconst (v := 2) dL_law_346 (by decide) ?_
  refine ev_iadd dL_law_347 ?_
  rw [show nI i + (2 : Int32) = nI (i + 2) from nI_add i 2]
  refine ev_sld dL_law_348 (ix_n (by omega)) (gd (show i + 2 < (gX g).length by omega)) ?_
  refine k_v hm (by decide) dL_law_349 cbX12_swap (mt6 5 rfl rfl) (mt6 6 rfl rfl) (mt6 7 rfl rfl) (ci := 12) rfl hb rfl rfl (Nat.le_of_ble_eq_true rfl) (fun v μ1 hq => ?_)
  obtain ⟨rfl, hI2, hz2⟩ := hq
  simp only [Option.toList, List.cons_append, List.nil_append]
  refine ev_icmp_eq (tgt := 1126) dL_law_352 (by decide) (fun _ => ?_) (fun h352 => absurd (rfl) h352)
  exact go _ hI2 (by rw [hz2]; exact hz.2.1) (by rw [hz2]; exact hz.2.2)
theorem lc_feed (hi : i + 6 ≤ (gX g).length) (hL : (gX g).length ≤ 3072) (hI : Inv a μ) (go : ∀ μ' : Mm, Inv a μ' → μ'.2.1 ≤ μ.2.1 + 7 → μ'.2.2 ≤ μ.2.2 + 200 → Ev g 70 mL_law 1126 (lawL g a i) [] μ' Q) : Ev g 70 mL_law 357 (lawL g a i) [] μ Q := by
  obtain ⟨fs, ha⟩ := hI.ob
  refine ev_aload_n dL_law_357 rfl ?_
  refine ev_aload_n dL_law_358 rfl ?_
  refine ev_iload_n dL_law_359 rfl ?_
  refine ev_iconst (v := 1) dL_law_360 (by decide) ?_
  refine ev_iadd dL_law_361 ?_
  rw [show nI i + (1 : Int32) = nI (i + 1) from nI_add i 1]
  refine ev_sld dL_law_362 (ix_n (by omega)) (gd (show i + 1 < (gX g).length by omega)) ?_
  refine k_v (s_feed hI _) (by decide) dL_law_363 cbX11_feed (mt3 174 rfl rfl) (mt3 175 rfl rfl) (mt3 176 rfl rfl) (ci := 11) rfl ha rfl rfl (Nat.le_of_ble_eq_true rfl) (fun v μ1 hq => ?_)
  obtain ⟨x, rfl, hz, ⟨fs2, hb⟩, hm⟩ := hq
  simp only [Option.toList, List.cons_append, List.nil_append]
  refine ev_aload_n dL_law_366 rfl ?_
  refine ev_aload_n dL_law_367 rfl ?_
  refine ev_iload_n dL_law_368 rfl ?_
  refine ev_iconst (v := 1) dL_law_369 (by decide) ?_
  refine ev_iadd dL_law_370 ?_
  rw [show nI i + (1 : Int32) = nI (i + 1) from nI_add i 1]
  refine ev_sld dL_law_371 (ix_n (by omega)) (gd (show i + 1 < (gX g).length by omega)) ?_
  refine k_v hm (by decide) dL_law_372 cbX12_feed (mt5 119 rfl rfl) (mt5 120 rfl rfl) (mt5 121 rfl rfl) (ci := 12) rfl hb rfl rfl (Nat.le_of_ble_eq_true rfl) (fun v μ1 hq => ?_)
  obtain ⟨rfl, hI2, hz2⟩ := hq
  simp only [Option.toList, List.cons_append, List.nil_append]
  refine ev_icmp_eq (tgt := 1126) dL_law_375 (by decide) (fun _ => ?_) (fun h375 => absurd (rfl) h375)
  exact go _ hI2 (by rw [hz2]; exact hz.2.1) (by rw [hz2]; exact hz.2.2)
theorem lc_text (hi : i + 6 ≤ (gX g).length) (hL : (gX g).length ≤ 3072) (hI : Inv a μ) (go : ∀ μ' : Mm, Inv a μ' → μ'.2.1 ≤ μ.2.1 + 7 → μ'.2.2 ≤ μ.2.2 + 200 → Ev g 70 mL_law 1126 (lawL g a i) [] μ' Q) : Ev g 70 mL_law 380 (lawL g a i) [] μ Q := by
  obtain ⟨fs, ha⟩ := hI.ob
  refine ev_aload_n dL_law_380 rfl ?_
  refine k_v (s_text hI) (by decide) dL_law_381 cbX11_text (mt3 178 rfl rfl) (mt3 179 rfl rfl) (mt3 180 rfl rfl) (ci := 11) rfl ha rfl rfl (Nat.le_of_ble_eq_true rfl) (fun v μ1 hq => ?_)
  obtain ⟨x, rfl, hz, ⟨fs2, hb⟩, hm⟩ := hq
  simp only [Option.toList, List.cons_append, List.nil_append]
  refine ev_aload_n dL_law_384 rfl ?_
  refine k_v hm (by decide) dL_law_385 cbX12_text (mt5 126 rfl rfl) (mt5 127 rfl rfl) (mt5 128 rfl rfl) (ci := 12) rfl hb rfl rfl (Nat.le_of_ble_eq_true rfl) (fun v μ1 hq => ?_)
  obtain ⟨rfl, hI2, hz2⟩ := hq
  simp only [Option.toList, List.cons_append, List.nil_append]
  refine ev_icmp_eq (tgt := 1126) dL_law_388 (by decide) (fun _ => ?_) (fun h388 => absurd (rfl) h388)
  exact go _ hI2 (by rw [hz2]; exact hz.2.1) (by rw [hz2]; exact hz.2.2)
theorem lc_force (hi : i + 6 ≤ (gX g).length) (hL : (gX g).length ≤ 3072) (hI : Inv a μ) (go : ∀ μ' : Mm, Inv a μ' → μ'.2.1 ≤ μ.2.1 + 7 → μ'.2.2 ≤ μ.2.2 + 200 → Ev g 70 mL_law 1126 (lawL g a i) [] μ' Q) : Ev g 70 mL_law 393 (lawL g a i) [] μ Q := by
  obtain ⟨fs, ha⟩ := hI.ob
  refine ev_aload_n dL_law_393 rfl ?_
  refine ev_aload_n dL_law_394 rfl ?_
  refine ev_iload_n dL_law_395 rfl ?_
  refine ev_iconst (v := 1) dL_law_396 (by decide) ?_
  refine ev_iadd dL_law_397 ?_
  rw [show nI i + (1 : Int32) = nI (i + 1) from nI_add i 1]
  refine ev_sld dL_law_398 (ix_n (by omega)) (gd (show i + 1 < (gX g).length by omega)) ?_
  refine k_v (s_force hI _) (by decide) dL_law_399 cbX11_force (mt3 182 rfl rfl) (mt3 183 rfl rfl) (mt3 184 rfl rfl) (ci := 11) rfl ha rfl rfl (Nat.le_of_ble_eq_true rfl) (fun v μ1 hq => ?_)
  obtain ⟨x, rfl, hz, ⟨fs2, hb⟩, hm⟩ := hq
  simp only [Option.toList, List.cons_append, List.nil_append]
  refine ev_aload_n dL_law_402 rfl ?_
  refine ev_aload_n dL_law_403 rfl ?_
  refine ev_iload_n dL_law_404 rfl ?_
  refine ev_iconst (v := 1) dL_law_405 (by decide) ?_
  refine ev_iadd dL_law_406 ?_
  rw [show nI i + (1 : Int32) = nI (i + 1) from nI_add i 1]
  refine ev_sld dL_law_407 (ix_n (by omega)) (gd (show i + 1 < (gX g).length by omega)) ?_
  refine k_v hm (by decide) dL_law_408 cbX12_force (mt5 183 rfl rfl) (mt5 184 rfl rfl) (mt5 185 rfl rfl) (ci := 12) rfl hb rfl rfl (Nat.le_of_ble_eq_true rfl) (fun v μ1 hq => ?_)
  obtain ⟨rfl, hI2, hz2⟩ := hq
  simp only [Option.toList, List.cons_append, List.nil_append]
  refine ev_icmp_eq (tgt := 1126) dL_law_411 (by decide) (fun _ => ?_) (fun h411 => absurd (rfl) h411)
  exact go _ hI2 (by rw [hz2]; exact hz.2.1) (by rw [hz2]; exact hz.2.2)
theorem lc_at (hi : i + 6 ≤ (gX g).length) (hL : (gX g).length ≤ 3072) (hI : Inv a μ) (go : ∀ μ' : Mm, Inv a μ' → μ'.2.1 ≤ μ.2.1 + 7 → μ'.2.2 ≤ μ.2.2 + 200 → Ev g 70 mL_law 1126 (lawL g a i) [] μ' Q) : Ev g 70 mL_law 416 (lawL g a i) [] μ Q := by
  obtain ⟨fs, ha⟩ := hI.ob
  refine ev_aload_n dL_law_416 rfl ?_
  refine ev_aload_n dL_law_417 rfl ?_
  refine ev_iload_n dL_law_418 rfl ?_
  refine ev_iconst (v := 1) dL_law_419 (by decide) ?_
  refine ev_iadd dL_law_420 ?_
  rw [show nI i + (1 : Int32) = nI (i + 1) from nI_add i 1]
  refine ev_sld dL_law_421 (ix_n (by omega)) (gd (show i + 1 < (gX g).length by omega)) ?_
  refine ev_aload_n dL_law_422 rfl ?_
  refine ev_iload_n dL_law_423 rfl ?_
  refine ev_iconst (v := 2) dL_law_424 (by decide) ?_
  refine ev_iadd dL_law_425 ?_
  rw [show nI i + (2 : Int32) = nI (i + 2) from nI_add i 2]
  refine ev_sld dL_law_426 (ix_n (by omega)) (gd (show i + 2 < (gX g).length by omega)) ?_
  refine k_v (s_at hI _ _) (by decide) dL_law_427 cbX11_at (mt3 186 rfl rfl) (mt3 187 rfl rfl) (mt3 188 rfl rfl) (ci := 11) rfl ha rfl rfl (Nat.le_of_ble_eq_true rfl) (fun v μ1 hq => ?_)
  obtain ⟨x, rfl, hz, ⟨fs2, hb⟩, hm⟩ := hq
  simp only [Option.toList, List.cons_append, List.nil_append]
  refine ev_aload_n dL_law_430 rfl ?_
  refine ev_aload_n dL_law_431 rfl ?_
  refine ev_iload_n dL_law_432 rfl ?_
  refine ev_iconst (v := 1) dL_law_433 (by decide) ?_
  refine ev_iadd dL_law_434 ?_
  rw [show nI i + (1 : Int32) = nI (i + 1) from nI_add i 1]
  refine ev_sld dL_law_435 (ix_n (by omega)) (gd (show i + 1 < (gX g).length by omega)) ?_
  refine ev_aload_n dL_law_436 rfl ?_
  refine ev_iload_n dL_law_437 rfl ?_
  refine ev_iconst (v := 2) dL_law_438 (by decide) ?_
  refine ev_iadd dL_law_439 ?_
  rw [show nI i + (2 : Int32) = nI (i + 2) from nI_add i 2]
  refine ev_sld dL_law_440 (ix_n (by omega)) (gd (show i + 2 < (gX g).length by omega)) ?_
  refine k_v hm (by decide) dL_law_441 cbX12_at (mt6 16 rfl rfl) (mt6 17 rfl rfl) (mt6 18 rfl rfl) (ci := 12) rfl hb rfl rfl (Nat.le_of_ble_eq_true rfl) (fun v μ1 hq => ?_)
  obtain ⟨rfl, hI2, hz2⟩ := hq
  simp only [Option.toList, List.cons_append, List.nil_append]
  refine ev_icmp_eq (tgt := 1126) dL_law_444 (by decide) (fun _ => ?_) (fun h444 => absurd (rfl) h444)
  exact go _ hI2 (by rw [hz2]; exact hz.2.1) (by rw [hz2]; exact hz.2.2)
theorem lc_round (hi : i + 6 ≤ (gX g).length) (hL : (gX g).length ≤ 3072) (hI : Inv a μ) (go : ∀ μ' : Mm, Inv a μ' → μ'.2.1 ≤ μ.2.1 + 7 → μ'.2.2 ≤ μ.2.2 + 200 → Ev g 70 mL_law 1126 (lawL g a i) [] μ' Q) : Ev g 70 mL_law 449 (lawL g a i) [] μ Q := by
  obtain ⟨fs, ha⟩ := hI.ob
  refine ev_aload_n dL_law_449 rfl ?_
  refine ev_aload_n dL_law_450 rfl ?_
  refine ev_iload_n dL_law_451 rfl ?_
  refine ev_iconst (v := 1) dL_law_452 (by decide) ?_
  refine ev_iadd dL_law_453 ?_
  rw [show nI i + (1 : Int32) = nI (i + 1) from nI_add i 1]
  refine ev_sld dL_law_454 (ix_n (by omega)) (gd (show i + 1 < (gX g).length by omega)) ?_
  refine k_v (s_round hI _) (by decide) dL_law_455 cbX11_round (mt4 17 rfl rfl) (mt4 18 rfl rfl) (mt4 19 rfl rfl) (ci := 11) rfl ha rfl rfl (Nat.le_of_ble_eq_true rfl) (fun v μ1 hq => ?_)
  obtain ⟨x, rfl, hz, ⟨fs2, hb⟩, hm⟩ := hq
  simp only [Option.toList, List.cons_append, List.nil_append]
  refine ev_aload_n dL_law_458 rfl ?_
  refine ev_aload_n dL_law_459 rfl ?_
  refine ev_iload_n dL_law_460 rfl ?_
  refine ev_iconst (v := 1) dL_law_461 (by decide) ?_
  refine ev_iadd dL_law_462 ?_
  rw [show nI i + (1 : Int32) = nI (i + 1) from nI_add i 1]
  refine ev_sld dL_law_463 (ix_n (by omega)) (gd (show i + 1 < (gX g).length by omega)) ?_
  refine k_v hm (by decide) dL_law_464 cbX12_round (mt6 44 rfl rfl) (mt6 45 rfl rfl) (mt6 46 rfl rfl) (ci := 12) rfl hb rfl rfl (Nat.le_of_ble_eq_true rfl) (fun v μ1 hq => ?_)
  obtain ⟨rfl, hI2, hz2⟩ := hq
  simp only [Option.toList, List.cons_append, List.nil_append]
  refine ev_icmp_eq (tgt := 1126) dL_law_467 (by decide) (fun _ => ?_) (fun h467 => absurd (rfl) h467)
  exact go _ hI2 (by rw [hz2]; exact hz.2.1) (by rw [hz2]; exact hz.2.2)
theorem lc_shifted (hi : i + 6 ≤ (gX g).length) (hL : (gX g).length ≤ 3072) (hI : Inv a μ) (go : ∀ μ' : Mm, Inv a μ' → μ'.2.1 ≤ μ.2.1 + 7 → μ'.2.2 ≤ μ.2.2 + 200 → Ev g 70 mL_law 1126 (lawL g a i) [] μ' Q) : Ev g 70 mL_law 472 (lawL g a i) [] μ Q := by
  obtain ⟨fs, ha⟩ := hI.ob
  refine ev_aload_n dL_law_472 rfl ?_
  refine ev_aload_n dL_law_473 rfl ?_
  refine ev_iload_n dL_law_474 rfl ?_
  refine ev_iconst (v := 1) dL_law_475 (by decide) ?_
  refine ev_iadd dL_law_476 ?_
  rw [show nI i + (1 : Int32) = nI (i + 1) from nI_add i 1]
  refine ev_sld dL_law_477 (ix_n (by omega)) (gd (show i + 1 < (gX g).length by omega)) ?_
  refine ev_aload_n dL_law_478 rfl ?_
  refine ev_iload_n dL_law_479 rfl ?_
  refine ev_iconst (v := 2) dL_law_480 (by decide) ?_
  refine ev_iadd dL_law_481 ?_
  rw [show nI i + (2 : Int32) = nI (i + 2) from nI_add i 2]
  refine ev_sld dL_law_482 (ix_n (by omega)) (gd (show i + 2 < (gX g).length by omega)) ?_
  refine k_v (s_shifted hI _ _) (by decide) dL_law_483 cbX11_shifted (mt4 37 rfl rfl) (mt4 38 rfl rfl) (mt4 39 rfl rfl) (ci := 11) rfl ha rfl rfl (Nat.le_of_ble_eq_true rfl) (fun v μ1 hq => ?_)
  obtain ⟨x, rfl, hz, ⟨fs2, hb⟩, hm⟩ := hq
  simp only [Option.toList, List.cons_append, List.nil_append]
  refine ev_aload_n dL_law_486 rfl ?_
  refine ev_aload_n dL_law_487 rfl ?_
  refine ev_iload_n dL_law_488 rfl ?_
  refine ev_iconst (v := 1) dL_law_489 (by decide) ?_
  refine ev_iadd dL_law_490 ?_
  rw [show nI i + (1 : Int32) = nI (i + 1) from nI_add i 1]
  refine ev_sld dL_law_491 (ix_n (by omega)) (gd (show i + 1 < (gX g).length by omega)) ?_
  refine ev_aload_n dL_law_492 rfl ?_
  refine ev_iload_n dL_law_493 rfl ?_
  refine ev_iconst (v := 2) dL_law_494 (by decide) ?_
  refine ev_iadd dL_law_495 ?_
  rw [show nI i + (2 : Int32) = nI (i + 2) from nI_add i 2]
  refine ev_sld dL_law_496 (ix_n (by omega)) (gd (show i + 2 < (gX g).length by omega)) ?_
  refine k_v hm (by decide) dL_law_497 cbX12_shifted (mt6 60 rfl rfl) (mt6 61 rfl rfl) (mt6 62 rfl rfl) (ci := 12) rfl hb rfl rfl (Nat.le_of_ble_eq_true rfl) (fun v μ1 hq => ?_)
  obtain ⟨rfl, hI2, hz2⟩ := hq
  simp only [Option.toList, List.cons_append, List.nil_append]
  refine ev_icmp_eq (tgt := 1126) dL_law_500 (by decide) (fun _ => ?_) (fun h500 => absurd (rfl) h500)
  exact go _ hI2 (by rw [hz2]; exact hz.2.1) (by rw [hz2]; exact hz.2.2)
theorem lc_where (hi : i + 6 ≤ (gX g).length) (hL : (gX g).length ≤ 3072) (hI : Inv a μ) (go : ∀ μ' : Mm, Inv a μ' → μ'.2.1 ≤ μ.2.1 + 7 → μ'.2.2 ≤ μ.2.2 + 200 → Ev g 70 mL_law 1126 (lawL g a i) [] μ' Q) : Ev g 70 mL_law 505 (lawL g a i) [] μ Q := by
  obtain ⟨fs, ha⟩ := hI.ob
  refine ev_aload_n dL_law_505 rfl ?_
  refine ev_aload_n dL_law_506 rfl ?_
  refine ev_iload_n dL_law_507 rfl ?_
  refine ev_iconst (v := 1) dL_law_508 (by decide) ?_
  refine ev_iadd dL_law_509 ?_
  rw [show nI i + (1 : Int32) = nI (i + 1) from nI_add i 1]
  refine ev_sld dL_law_510 (ix_n (by omega)) (gd (show i + 1 < (gX g).length by omega)) ?_
  refine ev_aload_n dL_law_511 rfl ?_
  refine ev_iload_n dL_law_512 rfl ?_
  refine ev_iconst (v := 2) dL_law_513 (by decide) ?_
  refine ev_iadd dL_law_514 ?_
  rw [show nI i + (2 : Int32) = nI (i + 2) from nI_add i 2]
  refine ev_sld dL_law_515 (ix_n (by omega)) (gd (show i + 2 < (gX g).length by omega)) ?_
  refine k_v (s_where hI _ _) (by decide) dL_law_516 cbX11_where (mt4 45 rfl rfl) (mt4 46 rfl rfl) (mt4 47 rfl rfl) (ci := 11) rfl ha rfl rfl (Nat.le_of_ble_eq_true rfl) (fun v μ1 hq => ?_)
  obtain ⟨x, rfl, hz, ⟨fs2, hb⟩, hm⟩ := hq
  simp only [Option.toList, List.cons_append, List.nil_append]
  refine ev_aload_n dL_law_519 rfl ?_
  refine ev_aload_n dL_law_520 rfl ?_
  refine ev_iload_n dL_law_521 rfl ?_
  refine ev_iconst (v := 1) dL_law_522 (by decide) ?_
  refine ev_iadd dL_law_523 ?_
  rw [show nI i + (1 : Int32) = nI (i + 1) from nI_add i 1]
  refine ev_sld dL_law_524 (ix_n (by omega)) (gd (show i + 1 < (gX g).length by omega)) ?_
  refine ev_aload_n dL_law_525 rfl ?_
  refine ev_iload_n dL_law_526 rfl ?_
  refine ev_iconst (v := 2) dL_law_527 (by decide) ?_
  refine ev_iadd dL_law_528 ?_
  rw [show nI i + (2 : Int32) = nI (i + 2) from nI_add i 2]
  refine ev_sld dL_law_529 (ix_n (by omega)) (gd (show i + 2 < (gX g).length by omega)) ?_
  refine k_v hm (by decide) dL_law_530 cbX12_where (mt6 68 rfl rfl) (mt6 69 rfl rfl) (mt6 70 rfl rfl) (ci := 12) rfl hb rfl rfl (Nat.le_of_ble_eq_true rfl) (fun v μ1 hq => ?_)
  obtain ⟨rfl, hI2, hz2⟩ := hq
  simp only [Option.toList, List.cons_append, List.nil_append]
  refine ev_icmp_eq (tgt := 1126) dL_law_533 (by decide) (fun _ => ?_) (fun h533 => absurd (rfl) h533)
  exact go _ hI2 (by rw [hz2]; exact hz.2.1) (by rw [hz2]; exact hz.2.2)
theorem lc_best (hi : i + 6 ≤ (gX g).length) (hL : (gX g).length ≤ 3072) (hI : Inv a μ) (go : ∀ μ' : Mm, Inv a μ' → μ'.2.1 ≤ μ.2.1 + 7 → μ'.2.2 ≤ μ.2.2 + 200 → Ev g 70 mL_law 1126 (lawL g a i) [] μ' Q) : Ev g 70 mL_law 538 (lawL g a i) [] μ Q := by
  obtain ⟨fs, ha⟩ := hI.ob
  refine ev_aload_n dL_law_538 rfl ?_
  refine ev_aload_n dL_law_539 rfl ?_
  refine ev_iload_n dL_law_540 rfl ?_
  refine ev_iconst (v := 1) dL_law_541 (by decide) ?_
  refine ev_iadd dL_law_542 ?_
  rw [show nI i + (1 : Int32) = nI (i + 1) from nI_add i 1]
  refine ev_sld dL_law_543 (ix_n (by omega)) (gd (show i + 1 < (gX g).length by omega)) ?_
  refine ev_aload_n dL_law_544 rfl ?_
  refine ev_iload_n dL_law_545 rfl ?_
  refine ev_iconst (v := 2) dL_law_546 (by decide) ?_
  refine ev_iadd dL_law_547 ?_
  rw [show nI i + (2 : Int32) = nI (i + 2) from nI_add i 2]
  refine ev_sld dL_law_548 (ix_n (by omega)) (gd (show i + 2 < (gX g).length by omega)) ?_
  refine k_v (s_best hI _ _) (by decide) dL_law_549 cbX11_best (mt4 72 rfl rfl) (mt4 73 rfl rfl) (mt4 74 rfl rfl) (ci := 11) rfl ha rfl rfl (Nat.le_of_ble_eq_true rfl) (fun v μ1 hq => ?_)
  obtain ⟨x, rfl, hz, ⟨fs2, hb⟩, hm⟩ := hq
  simp only [Option.toList, List.cons_append, List.nil_append]
  refine ev_aload_n dL_law_552 rfl ?_
  refine ev_aload_n dL_law_553 rfl ?_
  refine ev_iload_n dL_law_554 rfl ?_
  refine ev_iconst (v := 1) dL_law_555 (by decide) ?_
  refine ev_iadd dL_law_556 ?_
  rw [show nI i + (1 : Int32) = nI (i + 1) from nI_add i 1]
  refine ev_sld dL_law_557 (ix_n (by omega)) (gd (show i + 1 < (gX g).length by omega)) ?_
  refine ev_aload_n dL_law_558 rfl ?_
  refine ev_iload_n dL_law_559 rfl ?_
  refine ev_iconst (v := 2) dL_law_560 (by decide) ?_
  refine ev_iadd dL_law_561 ?_
  rw [show nI i + (2 : Int32) = nI (i + 2) from nI_add i 2]
  refine ev_sld dL_law_562 (ix_n (by omega)) (gd (show i + 2 < (gX g).length by omega)) ?_
  refine k_v hm (by decide) dL_law_563 cbX12_best (mt6 79 rfl rfl) (mt6 80 rfl rfl) (mt6 81 rfl rfl) (ci := 12) rfl hb rfl rfl (Nat.le_of_ble_eq_true rfl) (fun v μ1 hq => ?_)
  obtain ⟨rfl, hI2, hz2⟩ := hq
  simp only [Option.toList, List.cons_append, List.nil_append]
  refine ev_icmp_eq (tgt := 1126) dL_law_566 (by decide) (fun _ => ?_) (fun h566 => absurd (rfl) h566)
  exact go _ hI2 (by rw [hz2]; exact hz.2.1) (by rw [hz2]; exact hz.2.2)
theorem lc_arrange (hi : i + 6 ≤ (gX g).length) (hL : (gX g).length ≤ 3072) (hI : Inv a μ) (go : ∀ μ' : Mm, Inv a μ' → μ'.2.1 ≤ μ.2.1 + 7 → μ'.2.2 ≤ μ.2.2 + 200 → Ev g 70 mL_law 1126 (lawL g a i) [] μ' Q) : Ev g 70 mL_law 571 (lawL g a i) [] μ Q := by
  obtain ⟨fs, ha⟩ := hI.ob
  refine ev_aload_n dL_law_571 rfl ?_
  refine ev_aload_n dL_law_572 rfl ?_
  refine ev_iload_n dL_law_573 rfl ?_
  refine ev_iconst (v := 1) dL_law_574 (by decide) ?_
  refine ev_iadd dL_law_575 ?_
  rw [show nI i + (1 : Int32) = nI (i + 1) from nI_add i 1]
  refine ev_sld dL_law_576 (ix_n (by omega)) (gd (show i + 1 < (gX g).length by omega)) ?_
  refine k_v (s_arrange hI _) (by decide) dL_law_577 cbX11_arrange (mt4 119 rfl rfl) (mt4 120 rfl rfl) (mt4 121 rfl rfl) (ci := 11) rfl ha rfl rfl (Nat.le_of_ble_eq_true rfl) (fun v μ1 hq => ?_)
  obtain ⟨x, rfl, hz, ⟨fs2, hb⟩, hm⟩ := hq
  simp only [Option.toList, List.cons_append, List.nil_append]
  refine ev_aload_n dL_law_580 rfl ?_
  refine ev_aload_n dL_law_581 rfl ?_
  refine ev_iload_n dL_law_582 rfl ?_
  refine ev_iconst (v := 1) dL_law_583 (by decide) ?_
  refine ev_iadd dL_law_584 ?_
  rw [show nI i + (1 : Int32) = nI (i + 1) from nI_add i 1]
  refine ev_sld dL_law_585 (ix_n (by omega)) (gd (show i + 1 < (gX g).length by omega)) ?_
  refine k_v hm (by decide) dL_law_586 cbX12_arrange (mt6 95 rfl rfl) (mt6 96 rfl rfl) (mt6 97 rfl rfl) (ci := 12) rfl hb rfl rfl (Nat.le_of_ble_eq_true rfl) (fun v μ1 hq => ?_)
  obtain ⟨rfl, hI2, hz2⟩ := hq
  simp only [Option.toList, List.cons_append, List.nil_append]
  refine ev_icmp_eq (tgt := 1126) dL_law_589 (by decide) (fun _ => ?_) (fun h589 => absurd (rfl) h589)
  exact go _ hI2 (by rw [hz2]; exact hz.2.1) (by rw [hz2]; exact hz.2.2)
theorem lc_ways (hi : i + 6 ≤ (gX g).length) (hL : (gX g).length ≤ 3072) (hI : Inv a μ) (go : ∀ μ' : Mm, Inv a μ' → μ'.2.1 ≤ μ.2.1 + 7 → μ'.2.2 ≤ μ.2.2 + 200 → Ev g 70 mL_law 1126 (lawL g a i) [] μ' Q) : Ev g 70 mL_law 594 (lawL g a i) [] μ Q := by
  obtain ⟨fs, ha⟩ := hI.ob
  refine ev_aload_n dL_law_594 rfl ?_
  refine ev_aload_n dL_law_595 rfl ?_
  refine ev_iload_n dL_law_596 rfl ?_
  refine ev_iconst (v := 1) dL_law_597 (by decide) ?_
  refine ev_iadd dL_law_598 ?_
  rw [show nI i + (1 : Int32) = nI (i + 1) from nI_add i 1]
  refine ev_sld dL_law_599 (ix_n (by omega)) (gd (show i + 1 < (gX g).length by omega)) ?_
  refine k_v (s_ways hI _) (by decide) dL_law_600 cbX11_ways (mt4 124 rfl rfl) (mt4 125 rfl rfl) (mt4 126 rfl rfl) (ci := 11) rfl ha rfl rfl (Nat.le_of_ble_eq_true rfl) (fun v μ1 hq => ?_)
  obtain ⟨x, rfl, hz, ⟨fs2, hb⟩, hm⟩ := hq
  simp only [Option.toList, List.cons_append, List.nil_append]
  refine ev_aload_n dL_law_603 rfl ?_
  refine ev_aload_n dL_law_604 rfl ?_
  refine ev_iload_n dL_law_605 rfl ?_
  refine ev_iconst (v := 1) dL_law_606 (by decide) ?_
  refine ev_iadd dL_law_607 ?_
  rw [show nI i + (1 : Int32) = nI (i + 1) from nI_add i 1]
  refine ev_sld dL_law_608 (ix_n (by omega)) (gd (show i + 1 < (gX g).length by omega)) ?_
  refine k_v hm (by decide) dL_law_609 cbX12_ways (mt6 99 rfl rfl) (mt6 100 rfl rfl) (mt6 101 rfl rfl) (ci := 12) rfl hb rfl rfl (Nat.le_of_ble_eq_true rfl) (fun v μ1 hq => ?_)
  obtain ⟨rfl, hI2, hz2⟩ := hq
  simp only [Option.toList, List.cons_append, List.nil_append]
  refine ev_icmp_eq (tgt := 1126) dL_law_612 (by decide) (fun _ => ?_) (fun h612 => absurd (rfl) h612)
  exact go _ hI2 (by rw [hz2]; exact hz.2.1) (by rw [hz2]; exact hz.2.2)
theorem lc_begin (hi : i + 6 ≤ (gX g).length) (hL : (gX g).length ≤ 3072) (hI : Inv a μ) (go : ∀ μ' : Mm, Inv a μ' → μ'.2.1 ≤ μ.2.1 + 7 → μ'.2.2 ≤ μ.2.2 + 200 → Ev g 70 mL_law 1126 (lawL g a i) [] μ' Q) : Ev g 70 mL_law 617 (lawL g a i) [] μ Q := by
  obtain ⟨fs, ha⟩ := hI.ob
  refine ev_aload_n dL_law_617 rfl ?_
  refine k_v (s_begin hI) (by decide) dL_law_618 cbX11_begin (mt4 132 rfl rfl) (mt4 133 rfl rfl) (mt4 134 rfl rfl) (ci := 11) rfl ha rfl rfl (Nat.le_of_ble_eq_true rfl) (fun v μ1 hq => ?_)
  obtain ⟨x, rfl, hz, ⟨fs2, hb⟩, hm⟩ := hq
  simp only [Option.toList, List.cons_append, List.nil_append]
  refine ev_aload_n dL_law_621 rfl ?_
  refine k_v hm (by decide) dL_law_622 cbX12_begin (mt6 107 rfl rfl) (mt6 108 rfl rfl) (mt6 109 rfl rfl) (ci := 12) rfl hb rfl rfl (Nat.le_of_ble_eq_true rfl) (fun v μ1 hq => ?_)
  obtain ⟨rfl, hI2, hz2⟩ := hq
  simp only [Option.toList, List.cons_append, List.nil_append]
  refine ev_icmp_eq (tgt := 1126) dL_law_625 (by decide) (fun _ => ?_) (fun h625 => absurd (rfl) h625)
  exact go _ hI2 (by rw [hz2]; exact hz.2.1) (by rw [hz2]; exact hz.2.2)
theorem lc_heap (hi : i + 6 ≤ (gX g).length) (hL : (gX g).length ≤ 3072) (hI : Inv a μ) (go : ∀ μ' : Mm, Inv a μ' → μ'.2.1 ≤ μ.2.1 + 7 → μ'.2.2 ≤ μ.2.2 + 200 → Ev g 70 mL_law 1126 (lawL g a i) [] μ' Q) : Ev g 70 mL_law 630 (lawL g a i) [] μ Q := by
  obtain ⟨fs, ha⟩ := hI.ob
  refine ev_aload_n dL_law_630 rfl ?_
  refine ev_aload_n dL_law_631 rfl ?_
  refine ev_iload_n dL_law_632 rfl ?_
  refine ev_iconst (v := 1) dL_law_633 (by decide) ?_
  refine ev_iadd dL_law_634 ?_
  rw [show nI i + (1 : Int32) = nI (i + 1) from nI_add i 1]
  refine ev_sld dL_law_635 (ix_n (by omega)) (gd (show i + 1 < (gX g).length by omega)) ?_
  refine k_v (s_heap hI _) (by decide) dL_law_636 cbX11_heap (mt4 137 rfl rfl) (mt4 138 rfl rfl) (mt4 139 rfl rfl) (ci := 11) rfl ha rfl rfl (Nat.le_of_ble_eq_true rfl) (fun v μ1 hq => ?_)
  obtain ⟨x, rfl, hz, ⟨fs2, hb⟩, hm⟩ := hq
  simp only [Option.toList, List.cons_append, List.nil_append]
  refine ev_aload_n dL_law_639 rfl ?_
  refine ev_aload_n dL_law_640 rfl ?_
  refine ev_iload_n dL_law_641 rfl ?_
  refine ev_iconst (v := 1) dL_law_642 (by decide) ?_
  refine ev_iadd dL_law_643 ?_
  rw [show nI i + (1 : Int32) = nI (i + 1) from nI_add i 1]
  refine ev_sld dL_law_644 (ix_n (by omega)) (gd (show i + 1 < (gX g).length by omega)) ?_
  refine k_v hm (by decide) dL_law_645 cbX12_heap (mt6 111 rfl rfl) (mt6 112 rfl rfl) (mt6 113 rfl rfl) (ci := 12) rfl hb rfl rfl (Nat.le_of_ble_eq_true rfl) (fun v μ1 hq => ?_)
  obtain ⟨rfl, hI2, hz2⟩ := hq
  simp only [Option.toList, List.cons_append, List.nil_append]
  refine ev_icmp_eq (tgt := 1126) dL_law_648 (by decide) (fun _ => ?_) (fun h648 => absurd (rfl) h648)
  exact go _ hI2 (by rw [hz2]; exact hz.2.1) (by rw [hz2]; exact hz.2.2)
theorem lc_split (hi : i + 6 ≤ (gX g).length) (hL : (gX g).length ≤ 3072) (hI : Inv a μ) (go : ∀ μ' : Mm, Inv a μ' → μ'.2.1 ≤ μ.2.1 + 7 → μ'.2.2 ≤ μ.2.2 + 200 → Ev g 70 mL_law 1126 (lawL g a i) [] μ' Q) : Ev g 70 mL_law 653 (lawL g a i) [] μ Q := by
  obtain ⟨fs, ha⟩ := hI.ob
  refine ev_aload_n dL_law_653 rfl ?_
  refine ev_aload_n dL_law_654 rfl ?_
  refine ev_iload_n dL_law_655 rfl ?_
  refine ev_iconst (v := 1) dL_law_656 (by decide) ?_
  refine ev_iadd dL_law_657 ?_
  rw [show nI i + (1 : Int32) = nI (i + 1) from nI_add i 1]
  refine ev_sld dL_law_658 (ix_n (by omega)) (gd (show i + 1 < (gX g).length by omega)) ?_
  refine k_v (s_split hI _) (by decide) dL_law_659 cbX11_split (mt4 142 rfl rfl) (mt4 143 rfl rfl) (mt4 144 rfl rfl) (ci := 11) rfl ha rfl rfl (Nat.le_of_ble_eq_true rfl) (fun v μ1 hq => ?_)
  obtain ⟨x, rfl, hz, ⟨fs2, hb⟩, hm⟩ := hq
  simp only [Option.toList, List.cons_append, List.nil_append]
  refine ev_aload_n dL_law_662 rfl ?_
  refine ev_aload_n dL_law_663 rfl ?_
  refine ev_iload_n dL_law_664 rfl ?_
  refine ev_iconst (v := 1) dL_law_665 (by decide) ?_
  refine ev_iadd dL_law_666 ?_
  rw [show nI i + (1 : Int32) = nI (i + 1) from nI_add i 1]
  refine ev_sld dL_law_667 (ix_n (by omega)) (gd (show i + 1 < (gX g).length by omega)) ?_
  refine k_v hm (by decide) dL_law_668 cbX12_split (mt6 115 rfl rfl) (mt6 116 rfl rfl) (mt6 117 rfl rfl) (ci := 12) rfl hb rfl rfl (Nat.le_of_ble_eq_true rfl) (fun v μ1 hq => ?_)
  obtain ⟨rfl, hI2, hz2⟩ := hq
  simp only [Option.toList, List.cons_append, List.nil_append]
  refine ev_icmp_eq (tgt := 1126) dL_law_671 (by decide) (fun _ => ?_) (fun h671 => absurd (rfl) h671)
  exact go _ hI2 (by rw [hz2]; exact hz.2.1) (by rw [hz2]; exact hz.2.2)
theorem lc_drop (hi : i + 6 ≤ (gX g).length) (hL : (gX g).length ≤ 3072) (hI : Inv a μ) (go : ∀ μ' : Mm, Inv a μ' → μ'.2.1 ≤ μ.2.1 + 7 → μ'.2.2 ≤ μ.2.2 + 200 → Ev g 70 mL_law 1126 (lawL g a i) [] μ' Q) : Ev g 70 mL_law 676 (lawL g a i) [] μ Q := by
  obtain ⟨fs, ha⟩ := hI.ob
  refine ev_aload_n dL_law_676 rfl ?_
  refine ev_aload_n dL_law_677 rfl ?_
  refine ev_iload_n dL_law_678 rfl ?_
  refine ev_iconst (v := 1) dL_law_679 (by decide) ?_
  refine ev_iadd dL_law_680 ?_
  rw [show nI i + (1 : Int32) = nI (i + 1) from nI_add i 1]
  refine ev_sld dL_law_681 (ix_n (by omega)) (gd (show i + 1 < (gX g).length by omega)) ?_
  refine k_v (s_drop hI _) (by decide) dL_law_682 cbX11_drop (mt4 146 rfl rfl) (mt4 147 rfl rfl) (mt4 148 rfl rfl) (ci := 11) rfl ha rfl rfl (Nat.le_of_ble_eq_true rfl) (fun v μ1 hq => ?_)
  obtain ⟨x, rfl, hz, ⟨fs2, hb⟩, hm⟩ := hq
  simp only [Option.toList, List.cons_append, List.nil_append]
  refine ev_aload_n dL_law_685 rfl ?_
  refine ev_aload_n dL_law_686 rfl ?_
  refine ev_iload_n dL_law_687 rfl ?_
  refine ev_iconst (v := 1) dL_law_688 (by decide) ?_
  refine ev_iadd dL_law_689 ?_
  rw [show nI i + (1 : Int32) = nI (i + 1) from nI_add i 1]
  refine ev_sld dL_law_690 (ix_n (by omega)) (gd (show i + 1 < (gX g).length by omega)) ?_
  refine k_v hm (by decide) dL_law_691 cbX12_drop (mt6 123 rfl rfl) (mt6 124 rfl rfl) (mt6 125 rfl rfl) (ci := 12) rfl hb rfl rfl (Nat.le_of_ble_eq_true rfl) (fun v μ1 hq => ?_)
  obtain ⟨rfl, hI2, hz2⟩ := hq
  simp only [Option.toList, List.cons_append, List.nil_append]
  refine ev_icmp_eq (tgt := 1126) dL_law_694 (by decide) (fun _ => ?_) (fun h694 => absurd (rfl) h694)
  exact go _ hI2 (by rw [hz2]; exact hz.2.1) (by rw [hz2]; exact hz.2.2)
theorem lc_away (hi : i + 6 ≤ (gX g).length) (hL : (gX g).length ≤ 3072) (hI : Inv a μ) (go : ∀ μ' : Mm, Inv a μ' → μ'.2.1 ≤ μ.2.1 + 7 → μ'.2.2 ≤ μ.2.2 + 200 → Ev g 70 mL_law 1126 (lawL g a i) [] μ' Q) : Ev g 70 mL_law 699 (lawL g a i) [] μ Q := by
  obtain ⟨fs, ha⟩ := hI.ob
  refine ev_aload_n dL_law_699 rfl ?_
  refine ev_aload_n dL_law_700 rfl ?_
  refine ev_iload_n dL_law_701 rfl ?_
  refine ev_iconst (v := 1) dL_law_702 (by decide) ?_
  refine ev_iadd dL_law_703 ?_
  rw [show nI i + (1 : Int32) = nI (i + 1) from nI_add i 1]
  refine ev_sld dL_law_704 (ix_n (by omega)) (gd (show i + 1 < (gX g).length by omega)) ?_
  refine ev_aload_n dL_law_705 rfl ?_
  refine ev_iload_n dL_law_706 rfl ?_
  refine ev_iconst (v := 2) dL_law_707 (by decide) ?_
  refine ev_iadd dL_law_708 ?_
  rw [show nI i + (2 : Int32) = nI (i + 2) from nI_add i 2]
  refine ev_sld dL_law_709 (ix_n (by omega)) (gd (show i + 2 < (gX g).length by omega)) ?_
  refine k_v (s_away hI _ _) (by decide) dL_law_710 cbX11_away (mt4 154 rfl rfl) (mt4 155 rfl rfl) (mt4 156 rfl rfl) (ci := 11) rfl ha rfl rfl (Nat.le_of_ble_eq_true rfl) (fun v μ1 hq => ?_)
  obtain ⟨x, rfl, hz, ⟨fs2, hb⟩, hm⟩ := hq
  simp only [Option.toList, List.cons_append, List.nil_append]
  refine ev_aload_n dL_law_713 rfl ?_
  refine ev_aload_n dL_law_714 rfl ?_
  refine ev_iload_n dL_law_715 rfl ?_
  refine ev_iconst (v := 1) dL_law_716 (by decide) ?_
  refine ev_iadd dL_law_717 ?_
  rw [show nI i + (1 : Int32) = nI (i + 1) from nI_add i 1]
  refine ev_sld dL_law_718 (ix_n (by omega)) (gd (show i + 1 < (gX g).length by omega)) ?_
  refine ev_aload_n dL_law_719 rfl ?_
  refine ev_iload_n dL_law_720 rfl ?_
  refine ev_iconst (v := 2) dL_law_721 (by decide) ?_
  refine ev_iadd dL_law_722 ?_
  rw [show nI i + (2 : Int32) = nI (i + 2) from nI_add i 2]
  refine ev_sld dL_law_723 (ix_n (by omega)) (gd (show i + 2 < (gX g).length by omega)) ?_
  refine k_v hm (by decide) dL_law_724 cbX12_away (mt6 131 rfl rfl) (mt6 132 rfl rfl) (mt6 133 rfl rfl) (ci := 12) rfl hb rfl rfl (Nat.le_of_ble_eq_true rfl) (fun v μ1 hq => ?_)
  obtain ⟨rfl, hI2, hz2⟩ := hq
  simp only [Option.toList, List.cons_append, List.nil_append]
  refine ev_icmp_eq (tgt := 1126) dL_law_727 (by decide) (fun _ => ?_) (fun h727 => absurd (rfl) h727)
  exact go _ hI2 (by rw [hz2]; exact hz.2.1) (by rw [hz2]; exact hz.2.2)
theorem lc_judge (hi : i + 6 ≤ (gX g).length) (hL : (gX g).length ≤ 3072) (hI : Inv a μ) (go : ∀ μ' : Mm, Inv a μ' → μ'.2.1 ≤ μ.2.1 + 7 → μ'.2.2 ≤ μ.2.2 + 200 → Ev g 70 mL_law 1126 (lawL g a i) [] μ' Q) : Ev g 70 mL_law 732 (lawL g a i) [] μ Q := by
  obtain ⟨fs, ha⟩ := hI.ob
  refine ev_aload_n dL_law_732 rfl ?_
  refine ev_aload_n dL_law_733 rfl ?_
  refine ev_iload_n dL_law_734 rfl ?_
  refine ev_iconst (v := 1) dL_law_735 (by decide) ?_
  refine ev_iadd dL_law_736 ?_
  rw [show nI i + (1 : Int32) = nI (i + 1) from nI_add i 1]
  refine ev_sld dL_law_737 (ix_n (by omega)) (gd (show i + 1 < (gX g).length by omega)) ?_
  refine k_v (s_judge hI _) (by decide) dL_law_738 cbX11_judge (mt4 162 rfl rfl) (mt4 163 rfl rfl) (mt4 164 rfl rfl) (ci := 11) rfl ha rfl rfl (Nat.le_of_ble_eq_true rfl) (fun v μ1 hq => ?_)
  obtain ⟨x, rfl, hz, ⟨fs2, hb⟩, hm⟩ := hq
  simp only [Option.toList, List.cons_append, List.nil_append]
  refine ev_aload_n dL_law_741 rfl ?_
  refine ev_aload_n dL_law_742 rfl ?_
  refine ev_iload_n dL_law_743 rfl ?_
  refine ev_iconst (v := 1) dL_law_744 (by decide) ?_
  refine ev_iadd dL_law_745 ?_
  rw [show nI i + (1 : Int32) = nI (i + 1) from nI_add i 1]
  refine ev_sld dL_law_746 (ix_n (by omega)) (gd (show i + 1 < (gX g).length by omega)) ?_
  refine k_v hm (by decide) dL_law_747 cbX12_judge (mt6 135 rfl rfl) (mt6 136 rfl rfl) (mt6 137 rfl rfl) (ci := 12) rfl hb rfl rfl (Nat.le_of_ble_eq_true rfl) (fun v μ1 hq => ?_)
  obtain ⟨rfl, hI2, hz2⟩ := hq
  simp only [Option.toList, List.cons_append, List.nil_append]
  refine ev_icmp_eq (tgt := 1126) dL_law_750 (by decide) (fun _ => ?_) (fun h750 => absurd (rfl) h750)
  exact go _ hI2 (by rw [hz2]; exact hz.2.1) (by rw [hz2]; exact hz.2.2)
theorem lc_thrownBy (hi : i + 6 ≤ (gX g).length) (hL : (gX g).length ≤ 3072) (hI : Inv a μ) (go : ∀ μ' : Mm, Inv a μ' → μ'.2.1 ≤ μ.2.1 + 7 → μ'.2.2 ≤ μ.2.2 + 200 → Ev g 70 mL_law 1126 (lawL g a i) [] μ' Q) : Ev g 70 mL_law 755 (lawL g a i) [] μ Q := by
  obtain ⟨fs, ha⟩ := hI.ob
  refine ev_aload_n dL_law_755 rfl ?_
  refine ev_aload_n dL_law_756 rfl ?_
  refine ev_iload_n dL_law_757 rfl ?_
  refine ev_iconst (v := 1) dL_law_758 (by decide) ?_
  refine ev_iadd dL_law_759 ?_
  rw [show nI i + (1 : Int32) = nI (i + 1) from nI_add i 1]
  refine ev_sld dL_law_760 (ix_n (by omega)) (gd (show i + 1 < (gX g).length by omega)) ?_
  refine ev_aload_n dL_law_761 rfl ?_
  refine ev_iload_n dL_law_762 rfl ?_
  refine ev_iconst (v := 2) dL_law_763 (by decide) ?_
  refine ev_iadd dL_law_764 ?_
  rw [show nI i + (2 : Int32) = nI (i + 2) from nI_add i 2]
  refine ev_sld dL_law_765 (ix_n (by omega)) (gd (show i + 2 < (gX g).length by omega)) ?_
  refine k_v (s_thrownBy hI _ _) (by decide) dL_law_766 cbX11_thrownBy (mt4 166 rfl rfl) (mt4 167 rfl rfl) (mt4 168 rfl rfl) (ci := 11) rfl ha rfl rfl (Nat.le_of_ble_eq_true rfl) (fun v μ1 hq => ?_)
  obtain ⟨x, rfl, hz, ⟨fs2, hb⟩, hm⟩ := hq
  simp only [Option.toList, List.cons_append, List.nil_append]
  refine ev_aload_n dL_law_769 rfl ?_
  refine ev_aload_n dL_law_770 rfl ?_
  refine ev_iload_n dL_law_771 rfl ?_
  refine ev_iconst (v := 1) dL_law_772 (by decide) ?_
  refine ev_iadd dL_law_773 ?_
  rw [show nI i + (1 : Int32) = nI (i + 1) from nI_add i 1]
  refine ev_sld dL_law_774 (ix_n (by omega)) (gd (show i + 1 < (gX g).length by omega)) ?_
  refine ev_aload_n dL_law_775 rfl ?_
  refine ev_iload_n dL_law_776 rfl ?_
  refine ev_iconst (v := 2) dL_law_777 (by decide) ?_
  refine ev_iadd dL_law_778 ?_
  rw [show nI i + (2 : Int32) = nI (i + 2) from nI_add i 2]
  refine ev_sld dL_law_779 (ix_n (by omega)) (gd (show i + 2 < (gX g).length by omega)) ?_
  refine k_v hm (by decide) dL_law_780 cbX12_thrownBy (mt6 139 rfl rfl) (mt6 140 rfl rfl) (mt6 141 rfl rfl) (ci := 12) rfl hb rfl rfl (Nat.le_of_ble_eq_true rfl) (fun v μ1 hq => ?_)
  obtain ⟨rfl, hI2, hz2⟩ := hq
  simp only [Option.toList, List.cons_append, List.nil_append]
  refine ev_icmp_eq (tgt := 1126) dL_law_783 (by decide) (fun _ => ?_) (fun h783 => absurd (rfl) h783)
  exact go _ hI2 (by rw [hz2]; exact hz.2.1) (by rw [hz2]; exact hz.2.2)
theorem lc_chance (hi : i + 6 ≤ (gX g).length) (hL : (gX g).length ≤ 3072) (hI : Inv a μ) (go : ∀ μ' : Mm, Inv a μ' → μ'.2.1 ≤ μ.2.1 + 7 → μ'.2.2 ≤ μ.2.2 + 200 → Ev g 70 mL_law 1126 (lawL g a i) [] μ' Q) : Ev g 70 mL_law 788 (lawL g a i) [] μ Q := by
  obtain ⟨fs, ha⟩ := hI.ob
  refine ev_aload_n dL_law_788 rfl ?_
  refine ev_aload_n dL_law_789 rfl ?_
  refine ev_iload_n dL_law_790 rfl ?_
  refine ev_iconst (v := 1) dL_law_791 (by decide) ?_
  refine ev_iadd dL_law_792 ?_
  rw [show nI i + (1 : Int32) = nI (i + 1) from nI_add i 1]
  refine ev_sld dL_law_793 (ix_n (by omega)) (gd (show i + 1 < (gX g).length by omega)) ?_
  refine ev_aload_n dL_law_794 rfl ?_
  refine ev_iload_n dL_law_795 rfl ?_
  refine ev_iconst (v := 2) dL_law_796 (by decide) ?_
  refine ev_iadd dL_law_797 ?_
  rw [show nI i + (2 : Int32) = nI (i + 2) from nI_add i 2]
  refine ev_sld dL_law_798 (ix_n (by omega)) (gd (show i + 2 < (gX g).length by omega)) ?_
  refine ev_aload_n dL_law_799 rfl ?_
  refine ev_iload_n dL_law_800 rfl ?_
  refine ev_iconst (v := 3) dL_law_801 (by decide) ?_
  refine ev_iadd dL_law_802 ?_
  rw [show nI i + (3 : Int32) = nI (i + 3) from nI_add i 3]
  refine ev_sld dL_law_803 (ix_n (by omega)) (gd (show i + 3 < (gX g).length by omega)) ?_
  refine ev_aload_n dL_law_804 rfl ?_
  refine ev_iload_n dL_law_805 rfl ?_
  refine ev_iconst (v := 4) dL_law_806 (by decide) ?_
  refine ev_iadd dL_law_807 ?_
  rw [show nI i + (4 : Int32) = nI (i + 4) from nI_add i 4]
  refine ev_sld dL_law_808 (ix_n (by omega)) (gd (show i + 4 < (gX g).length by omega)) ?_
  refine k_v (s_chance hI _ _ _ _) (by decide) dL_law_809 cbX11_chance (mt4 175 rfl rfl) (mt4 176 rfl rfl) (mt4 177 rfl rfl) (ci := 11) rfl ha rfl rfl (Nat.le_of_ble_eq_true rfl) (fun v μ1 hq => ?_)
  obtain ⟨x, rfl, hz, ⟨fs2, hb⟩, hm⟩ := hq
  simp only [Option.toList, List.cons_append, List.nil_append]
  refine ev_aload_n dL_law_812 rfl ?_
  refine ev_aload_n dL_law_813 rfl ?_
  refine ev_iload_n dL_law_814 rfl ?_
  refine ev_iconst (v := 1) dL_law_815 (by decide) ?_
  refine ev_iadd dL_law_816 ?_
  rw [show nI i + (1 : Int32) = nI (i + 1) from nI_add i 1]
  refine ev_sld dL_law_817 (ix_n (by omega)) (gd (show i + 1 < (gX g).length by omega)) ?_
  refine ev_aload_n dL_law_818 rfl ?_
  refine ev_iload_n dL_law_819 rfl ?_
  refine ev_iconst (v := 2) dL_law_820 (by decide) ?_
  refine ev_iadd dL_law_821 ?_
  rw [show nI i + (2 : Int32) = nI (i + 2) from nI_add i 2]
  refine ev_sld dL_law_822 (ix_n (by omega)) (gd (show i + 2 < (gX g).length by omega)) ?_
  refine ev_aload_n dL_law_823 rfl ?_
  refine ev_iload_n dL_law_824 rfl ?_
  refine ev_iconst (v := 3) dL_law_825 (by decide) ?_
  refine ev_iadd dL_law_826 ?_
  rw [show nI i + (3 : Int32) = nI (i + 3) from nI_add i 3]
  refine ev_sld dL_law_827 (ix_n (by omega)) (gd (show i + 3 < (gX g).length by omega)) ?_
  refine ev_aload_n dL_law_828 rfl ?_
  refine ev_iload_n dL_law_829 rfl ?_
  refine ev_iconst (v := 4) dL_law_830 (by decide) ?_
  refine ev_iadd dL_law_831 ?_
  rw [show nI i + (4 : Int32) = nI (i + 4) from nI_add i 4]
  refine ev_sld dL_law_832 (ix_n (by omega)) (gd (show i + 4 < (gX g).length by omega)) ?_
  refine k_v hm (by decide) dL_law_833 cbX12_chance (mt6 148 rfl rfl) (mt6 149 rfl rfl) (mt6 150 rfl rfl) (ci := 12) rfl hb rfl rfl (Nat.le_of_ble_eq_true rfl) (fun v μ1 hq => ?_)
  obtain ⟨rfl, hI2, hz2⟩ := hq
  simp only [Option.toList, List.cons_append, List.nil_append]
  refine ev_lcmp dL_law_836 ?_
  rw [lg_cmp_s]
  refine ev_if_eq (tgt := 1126) dL_law_837 (by decide) (fun _ => ?_) (fun h837 => absurd (rfl) h837)
  exact go _ hI2 (by rw [hz2]; exact hz.2.1) (by rw [hz2]; exact hz.2.2)
theorem lc_image (hi : i + 6 ≤ (gX g).length) (hL : (gX g).length ≤ 3072) (hI : Inv a μ) (go : ∀ μ' : Mm, Inv a μ' → μ'.2.1 ≤ μ.2.1 + 7 → μ'.2.2 ≤ μ.2.2 + 200 → Ev g 70 mL_law 1126 (lawL g a i) [] μ' Q) : Ev g 70 mL_law 842 (lawL g a i) [] μ Q := by
  obtain ⟨fs, ha⟩ := hI.ob
  refine ev_aload_n dL_law_842 rfl ?_
  refine k_v (s_image hI) (by decide) dL_law_843 cbX11_image (mt4 183 rfl rfl) (mt4 184 rfl rfl) (mt4 185 rfl rfl) (ci := 11) rfl ha rfl rfl (Nat.le_of_ble_eq_true rfl) (fun v μ1 hq => ?_)
  obtain ⟨x, rfl, hz, ⟨fs2, hb⟩, hm⟩ := hq
  simp only [Option.toList, List.cons_append, List.nil_append]
  refine ev_aload_n dL_law_846 rfl ?_
  refine k_v hm (by decide) dL_law_847 cbX12_image (mt6 156 rfl rfl) (mt6 157 rfl rfl) (mt6 158 rfl rfl) (ci := 12) rfl hb rfl rfl (Nat.le_of_ble_eq_true rfl) (fun v μ1 hq => ?_)
  obtain ⟨rfl, hI2, hz2⟩ := hq
  simp only [Option.toList, List.cons_append, List.nil_append]
  refine ev_icmp_eq (tgt := 1126) dL_law_850 (by decide) (fun _ => ?_) (fun h850 => absurd (rfl) h850)
  exact go _ hI2 (by rw [hz2]; exact hz.2.1) (by rw [hz2]; exact hz.2.2)
theorem lc_back (hi : i + 6 ≤ (gX g).length) (hL : (gX g).length ≤ 3072) (hI : Inv a μ) (go : ∀ μ' : Mm, Inv a μ' → μ'.2.1 ≤ μ.2.1 + 7 → μ'.2.2 ≤ μ.2.2 + 200 → Ev g 70 mL_law 1126 (lawL g a i) [] μ' Q) : Ev g 70 mL_law 855 (lawL g a i) [] μ Q := by
  obtain ⟨fs, ha⟩ := hI.ob
  refine ev_aload_n dL_law_855 rfl ?_
  refine k_v (s_back hI) (by decide) dL_law_856 cbX11_back (mt4 187 rfl rfl) (mt4 188 rfl rfl) (mt4 189 rfl rfl) (ci := 11) rfl ha rfl rfl (Nat.le_of_ble_eq_true rfl) (fun v μ1 hq => ?_)
  obtain ⟨x, rfl, hz, ⟨fs2, hb⟩, hm⟩ := hq
  simp only [Option.toList, List.cons_append, List.nil_append]
  refine ev_aload_n dL_law_859 rfl ?_
  refine k_v hm (by decide) dL_law_860 cbX12_back (mt6 172 rfl rfl) (mt6 173 rfl rfl) (mt6 174 rfl rfl) (ci := 12) rfl hb rfl rfl (Nat.le_of_ble_eq_true rfl) (fun v μ1 hq => ?_)
  obtain ⟨rfl, hI2, hz2⟩ := hq
  simp only [Option.toList, List.cons_append, List.nil_append]
  refine ev_icmp_eq (tgt := 1126) dL_law_863 (by decide) (fun _ => ?_) (fun h863 => absurd (rfl) h863)
  exact go _ hI2 (by rw [hz2]; exact hz.2.1) (by rw [hz2]; exact hz.2.2)
theorem lc_count (hi : i + 6 ≤ (gX g).length) (hL : (gX g).length ≤ 3072) (hI : Inv a μ) (go : ∀ μ' : Mm, Inv a μ' → μ'.2.1 ≤ μ.2.1 + 7 → μ'.2.2 ≤ μ.2.2 + 200 → Ev g 70 mL_law 1126 (lawL g a i) [] μ' Q) : Ev g 70 mL_law 868 (lawL g a i) [] μ Q := by
  obtain ⟨fs, ha⟩ := hI.ob
  refine ev_aload_n dL_law_868 rfl ?_
  refine ev_aload_n dL_law_869 rfl ?_
  refine ev_iload_n dL_law_870 rfl ?_
  refine ev_iconst (v := 1) dL_law_871 (by decide) ?_
  refine ev_iadd dL_law_872 ?_
  rw [show nI i + (1 : Int32) = nI (i + 1) from nI_add i 1]
  refine ev_sld dL_law_873 (ix_n (by omega)) (gd (show i + 1 < (gX g).length by omega)) ?_
  refine k_v (s_count hI _) (by decide) dL_law_874 cbX11_count (mt4 191 rfl rfl) (mt4 192 rfl rfl) (mt4 193 rfl rfl) (ci := 11) rfl ha rfl rfl (Nat.le_of_ble_eq_true rfl) (fun v μ1 hq => ?_)
  obtain ⟨x, rfl, hz, ⟨fs2, hb⟩, hm⟩ := hq
  simp only [Option.toList, List.cons_append, List.nil_append]
  refine ev_aload_n dL_law_877 rfl ?_
  refine ev_aload_n dL_law_878 rfl ?_
  refine ev_iload_n dL_law_879 rfl ?_
  refine ev_iconst (v := 1) dL_law_880 (by decide) ?_
  refine ev_iadd dL_law_881 ?_
  rw [show nI i + (1 : Int32) = nI (i + 1) from nI_add i 1]
  refine ev_sld dL_law_882 (ix_n (by omega)) (gd (show i + 1 < (gX g).length by omega)) ?_
  refine k_v hm (by decide) dL_law_883 cbX12_count (mt6 176 rfl rfl) (mt6 177 rfl rfl) (mt6 178 rfl rfl) (ci := 12) rfl hb rfl rfl (Nat.le_of_ble_eq_true rfl) (fun v μ1 hq => ?_)
  obtain ⟨rfl, hI2, hz2⟩ := hq
  simp only [Option.toList, List.cons_append, List.nil_append]
  refine ev_icmp_eq (tgt := 1126) dL_law_886 (by decide) (fun _ => ?_) (fun h886 => absurd (rfl) h886)
  exact go _ hI2 (by rw [hz2]; exact hz.2.1) (by rw [hz2]; exact hz.2.2)
theorem lc_sheet (hi : i + 6 ≤ (gX g).length) (hL : (gX g).length ≤ 3072) (hI : Inv a μ) (go : ∀ μ' : Mm, Inv a μ' → μ'.2.1 ≤ μ.2.1 + 7 → μ'.2.2 ≤ μ.2.2 + 200 → Ev g 70 mL_law 1126 (lawL g a i) [] μ' Q) : Ev g 70 mL_law 891 (lawL g a i) [] μ Q := by
  obtain ⟨fs, ha⟩ := hI.ob
  refine ev_aload_n dL_law_891 rfl ?_
  refine ev_aload_n dL_law_892 rfl ?_
  refine ev_iload_n dL_law_893 rfl ?_
  refine ev_iconst (v := 1) dL_law_894 (by decide) ?_
  refine ev_iadd dL_law_895 ?_
  rw [show nI i + (1 : Int32) = nI (i + 1) from nI_add i 1]
  refine ev_sld dL_law_896 (ix_n (by omega)) (gd (show i + 1 < (gX g).length by omega)) ?_
  refine ev_aload_n dL_law_897 rfl ?_
  refine ev_iload_n dL_law_898 rfl ?_
  refine ev_iconst (v := 2) dL_law_899 (by decide) ?_
  refine ev_iadd dL_law_900 ?_
  rw [show nI i + (2 : Int32) = nI (i + 2) from nI_add i 2]
  refine ev_sld dL_law_901 (ix_n (by omega)) (gd (show i + 2 < (gX g).length by omega)) ?_
  refine ev_aload_n dL_law_902 rfl ?_
  refine ev_iload_n dL_law_903 rfl ?_
  refine ev_iconst (v := 3) dL_law_904 (by decide) ?_
  refine ev_iadd dL_law_905 ?_
  rw [show nI i + (3 : Int32) = nI (i + 3) from nI_add i 3]
  refine ev_sld dL_law_906 (ix_n (by omega)) (gd (show i + 3 < (gX g).length by omega)) ?_
  refine k_v (s_sheet hI _ _ _) (by decide) dL_law_907 cbX11_sheet (mt4 195 rfl rfl) (mt4 196 rfl rfl) (mt4 197 rfl rfl) (ci := 11) rfl ha rfl rfl (Nat.le_of_ble_eq_true rfl) (fun v μ1 hq => ?_)
  obtain ⟨x, rfl, hz, ⟨fs2, hb⟩, hm⟩ := hq
  simp only [Option.toList, List.cons_append, List.nil_append]
  refine ev_aload_n dL_law_910 rfl ?_
  refine ev_aload_n dL_law_911 rfl ?_
  refine ev_iload_n dL_law_912 rfl ?_
  refine ev_iconst (v := 1) dL_law_913 (by decide) ?_
  refine ev_iadd dL_law_914 ?_
  rw [show nI i + (1 : Int32) = nI (i + 1) from nI_add i 1]
  refine ev_sld dL_law_915 (ix_n (by omega)) (gd (show i + 1 < (gX g).length by omega)) ?_
  refine ev_aload_n dL_law_916 rfl ?_
  refine ev_iload_n dL_law_917 rfl ?_
  refine ev_iconst (v := 2) dL_law_918 (by decide) ?_
  refine ev_iadd dL_law_919 ?_
  rw [show nI i + (2 : Int32) = nI (i + 2) from nI_add i 2]
  refine ev_sld dL_law_920 (ix_n (by omega)) (gd (show i + 2 < (gX g).length by omega)) ?_
  refine ev_aload_n dL_law_921 rfl ?_
  refine ev_iload_n dL_law_922 rfl ?_
  refine ev_iconst (v := 3) dL_law_923 (by decide) ?_
  refine ev_iadd dL_law_924 ?_
  rw [show nI i + (3 : Int32) = nI (i + 3) from nI_add i 3]
  refine ev_sld dL_law_925 (ix_n (by omega)) (gd (show i + 3 < (gX g).length by omega)) ?_
  refine k_v hm (by decide) dL_law_926 cbX12_sheet (mt6 180 rfl rfl) (mt6 181 rfl rfl) (mt6 182 rfl rfl) (ci := 12) rfl hb rfl rfl (Nat.le_of_ble_eq_true rfl) (fun v μ1 hq => ?_)
  obtain ⟨rfl, hI2, hz2⟩ := hq
  simp only [Option.toList, List.cons_append, List.nil_append]
  refine ev_icmp_eq (tgt := 1126) dL_law_929 (by decide) (fun _ => ?_) (fun h929 => absurd (rfl) h929)
  exact go _ hI2 (by rw [hz2]; exact hz.2.1) (by rw [hz2]; exact hz.2.2)
theorem lc_cell (hi : i + 6 ≤ (gX g).length) (hL : (gX g).length ≤ 3072) (hI : Inv a μ) (go : ∀ μ' : Mm, Inv a μ' → μ'.2.1 ≤ μ.2.1 + 7 → μ'.2.2 ≤ μ.2.2 + 200 → Ev g 70 mL_law 1126 (lawL g a i) [] μ' Q) : Ev g 70 mL_law 934 (lawL g a i) [] μ Q := by
  obtain ⟨fs, ha⟩ := hI.ob
  refine ev_aload_n dL_law_934 rfl ?_
  refine ev_aload_n dL_law_935 rfl ?_
  refine ev_iload_n dL_law_936 rfl ?_
  refine ev_iconst (v := 1) dL_law_937 (by decide) ?_
  refine ev_iadd dL_law_938 ?_
  rw [show nI i + (1 : Int32) = nI (i + 1) from nI_add i 1]
  refine ev_sld dL_law_939 (ix_n (by omega)) (gd (show i + 1 < (gX g).length by omega)) ?_
  refine ev_aload_n dL_law_940 rfl ?_
  refine ev_iload_n dL_law_941 rfl ?_
  refine ev_iconst (v := 2) dL_law_942 (by decide) ?_
  refine ev_iadd dL_law_943 ?_
  rw [show nI i + (2 : Int32) = nI (i + 2) from nI_add i 2]
  refine ev_sld dL_law_944 (ix_n (by omega)) (gd (show i + 2 < (gX g).length by omega)) ?_
  refine ev_aload_n dL_law_945 rfl ?_
  refine ev_iload_n dL_law_946 rfl ?_
  refine ev_iconst (v := 3) dL_law_947 (by decide) ?_
  refine ev_iadd dL_law_948 ?_
  rw [show nI i + (3 : Int32) = nI (i + 3) from nI_add i 3]
  refine ev_sld dL_law_949 (ix_n (by omega)) (gd (show i + 3 < (gX g).length by omega)) ?_
  refine k_v (s_cell hI _ _ _) (by decide) dL_law_950 cbX11_cell (mt4 206 rfl rfl) (mt4 207 rfl rfl) (mt4 208 rfl rfl) (ci := 11) rfl ha rfl rfl (Nat.le_of_ble_eq_true rfl) (fun v μ1 hq => ?_)
  obtain ⟨x, rfl, hz, ⟨fs2, hb⟩, hm⟩ := hq
  simp only [Option.toList, List.cons_append, List.nil_append]
  refine ev_aload_n dL_law_953 rfl ?_
  refine ev_aload_n dL_law_954 rfl ?_
  refine ev_iload_n dL_law_955 rfl ?_
  refine ev_iconst (v := 1) dL_law_956 (by decide) ?_
  refine ev_iadd dL_law_957 ?_
  rw [show nI i + (1 : Int32) = nI (i + 1) from nI_add i 1]
  refine ev_sld dL_law_958 (ix_n (by omega)) (gd (show i + 1 < (gX g).length by omega)) ?_
  refine ev_aload_n dL_law_959 rfl ?_
  refine ev_iload_n dL_law_960 rfl ?_
  refine ev_iconst (v := 2) dL_law_961 (by decide) ?_
  refine ev_iadd dL_law_962 ?_
  rw [show nI i + (2 : Int32) = nI (i + 2) from nI_add i 2]
  refine ev_sld dL_law_963 (ix_n (by omega)) (gd (show i + 2 < (gX g).length by omega)) ?_
  refine ev_aload_n dL_law_964 rfl ?_
  refine ev_iload_n dL_law_965 rfl ?_
  refine ev_iconst (v := 3) dL_law_966 (by decide) ?_
  refine ev_iadd dL_law_967 ?_
  rw [show nI i + (3 : Int32) = nI (i + 3) from nI_add i 3]
  refine ev_sld dL_law_968 (ix_n (by omega)) (gd (show i + 3 < (gX g).length by omega)) ?_
  refine k_v hm (by decide) dL_law_969 cbX12_cell (mt6 184 rfl rfl) (mt6 185 rfl rfl) (mt6 186 rfl rfl) (ci := 12) rfl hb rfl rfl (Nat.le_of_ble_eq_true rfl) (fun v μ1 hq => ?_)
  obtain ⟨rfl, hI2, hz2⟩ := hq
  simp only [Option.toList, List.cons_append, List.nil_append]
  refine ev_icmp_eq (tgt := 1126) dL_law_972 (by decide) (fun _ => ?_) (fun h972 => absurd (rfl) h972)
  exact go _ hI2 (by rw [hz2]; exact hz.2.1) (by rw [hz2]; exact hz.2.2)
theorem lc_copy (hi : i + 6 ≤ (gX g).length) (hL : (gX g).length ≤ 3072) (hI : Inv a μ) (go : ∀ μ' : Mm, Inv a μ' → μ'.2.1 ≤ μ.2.1 + 7 → μ'.2.2 ≤ μ.2.2 + 200 → Ev g 70 mL_law 1126 (lawL g a i) [] μ' Q) : Ev g 70 mL_law 977 (lawL g a i) [] μ Q := by
  obtain ⟨fs, ha⟩ := hI.ob
  refine ev_aload_n dL_law_977 rfl ?_
  refine ev_aload_n dL_law_978 rfl ?_
  refine ev_iload_n dL_law_979 rfl ?_
  refine ev_iconst (v := 1) dL_law_980 (by decide) ?_
  refine ev_iadd dL_law_981 ?_
  rw [show nI i + (1 : Int32) = nI (i + 1) from nI_add i 1]
  refine ev_sld dL_law_982 (ix_n (by omega)) (gd (show i + 1 < (gX g).length by omega)) ?_
  refine ev_aload_n dL_law_983 rfl ?_
  refine ev_iload_n dL_law_984 rfl ?_
  refine ev_iconst (v := 2) dL_law_985 (by decide) ?_
  refine ev_iadd dL_law_986 ?_
  rw [show nI i + (2 : Int32) = nI (i + 2) from nI_add i 2]
  refine ev_sld dL_law_987 (ix_n (by omega)) (gd (show i + 2 < (gX g).length by omega)) ?_
  refine ev_aload_n dL_law_988 rfl ?_
  refine ev_iload_n dL_law_989 rfl ?_
  refine ev_iconst (v := 3) dL_law_990 (by decide) ?_
  refine ev_iadd dL_law_991 ?_
  rw [show nI i + (3 : Int32) = nI (i + 3) from nI_add i 3]
  refine ev_sld dL_law_992 (ix_n (by omega)) (gd (show i + 3 < (gX g).length by omega)) ?_
  refine ev_aload_n dL_law_993 rfl ?_
  refine ev_iload_n dL_law_994 rfl ?_
  refine ev_iconst (v := 4) dL_law_995 (by decide) ?_
  refine ev_iadd dL_law_996 ?_
  rw [show nI i + (4 : Int32) = nI (i + 4) from nI_add i 4]
  refine ev_sld dL_law_997 (ix_n (by omega)) (gd (show i + 4 < (gX g).length by omega)) ?_
  refine ev_aload_n dL_law_998 rfl ?_
  refine ev_iload_n dL_law_999 rfl ?_
  refine ev_iconst (v := 5) dL_law_1000 (by decide) ?_
  refine ev_iadd dL_law_1001 ?_
  rw [show nI i + (5 : Int32) = nI (i + 5) from nI_add i 5]
  refine ev_sld dL_law_1002 (ix_n (by omega)) (gd (show i + 5 < (gX g).length by omega)) ?_
  refine k_v (s_copy hI _ _ _ _ _) (by decide) dL_law_1003 cbX11_copy (mt4 215 rfl rfl) (mt4 216 rfl rfl) (mt4 217 rfl rfl) (ci := 11) rfl ha rfl rfl (Nat.le_of_ble_eq_true rfl) (fun v μ1 hq => ?_)
  obtain ⟨x, rfl, hz, ⟨fs2, hb⟩, hm⟩ := hq
  simp only [Option.toList, List.cons_append, List.nil_append]
  refine ev_aload_n dL_law_1006 rfl ?_
  refine ev_aload_n dL_law_1007 rfl ?_
  refine ev_iload_n dL_law_1008 rfl ?_
  refine ev_iconst (v := 1) dL_law_1009 (by decide) ?_
  refine ev_iadd dL_law_1010 ?_
  rw [show nI i + (1 : Int32) = nI (i + 1) from nI_add i 1]
  refine ev_sld dL_law_1011 (ix_n (by omega)) (gd (show i + 1 < (gX g).length by omega)) ?_
  refine ev_aload_n dL_law_1012 rfl ?_
  refine ev_iload_n dL_law_1013 rfl ?_
  refine ev_iconst (v := 2) dL_law_1014 (by decide) ?_
  refine ev_iadd dL_law_1015 ?_
  rw [show nI i + (2 : Int32) = nI (i + 2) from nI_add i 2]
  refine ev_sld dL_law_1016 (ix_n (by omega)) (gd (show i + 2 < (gX g).length by omega)) ?_
  refine ev_aload_n dL_law_1017 rfl ?_
  refine ev_iload_n dL_law_1018 rfl ?_
  refine ev_iconst (v := 3) dL_law_1019 (by decide) ?_
  refine ev_iadd dL_law_1020 ?_
  rw [show nI i + (3 : Int32) = nI (i + 3) from nI_add i 3]
  refine ev_sld dL_law_1021 (ix_n (by omega)) (gd (show i + 3 < (gX g).length by omega)) ?_
  refine ev_aload_n dL_law_1022 rfl ?_
  refine ev_iload_n dL_law_1023 rfl ?_
  refine ev_iconst (v := 4) dL_law_1024 (by decide) ?_
  refine ev_iadd dL_law_1025 ?_
  rw [show nI i + (4 : Int32) = nI (i + 4) from nI_add i 4]
  refine ev_sld dL_law_1026 (ix_n (by omega)) (gd (show i + 4 < (gX g).length by omega)) ?_
  refine ev_aload_n dL_law_1027 rfl ?_
  refine ev_iload_n dL_law_1028 rfl ?_
  refine ev_iconst (v := 5) dL_law_1029 (by decide) ?_
  refine ev_iadd dL_law_1030 ?_
  rw [show nI i + (5 : Int32) = nI (i + 5) from nI_add i 5]
  refine ev_sld dL_law_1031 (ix_n (by omega)) (gd (show i + 5 < (gX g).length by omega)) ?_
  refine k_v hm (by decide) dL_law_1032 cbX12_copy (mt6 188 rfl rfl) (mt6 189 rfl rfl) (mt6 190 rfl rfl) (ci := 12) rfl hb rfl rfl (Nat.le_of_ble_eq_true rfl) (fun v μ1 hq => ?_)
  obtain ⟨rfl, hI2, hz2⟩ := hq
  simp only [Option.toList, List.cons_append, List.nil_append]
  refine ev_icmp_eq (tgt := 1126) dL_law_1035 (by decide) (fun _ => ?_) (fun h1035 => absurd (rfl) h1035)
  exact go _ hI2 (by rw [hz2]; exact hz.2.1) (by rw [hz2]; exact hz.2.2)
theorem lc_houses (hi : i + 6 ≤ (gX g).length) (hL : (gX g).length ≤ 3072) (hI : Inv a μ) (go : ∀ μ' : Mm, Inv a μ' → μ'.2.1 ≤ μ.2.1 + 7 → μ'.2.2 ≤ μ.2.2 + 200 → Ev g 70 mL_law 1126 (lawL g a i) [] μ' Q) : Ev g 70 mL_law 1040 (lawL g a i) [] μ Q := by
  obtain ⟨fs, ha⟩ := hI.ob
  refine ev_aload_n dL_law_1040 rfl ?_
  refine ev_aload_n dL_law_1041 rfl ?_
  refine ev_iload_n dL_law_1042 rfl ?_
  refine ev_iconst (v := 1) dL_law_1043 (by decide) ?_
  refine ev_iadd dL_law_1044 ?_
  rw [show nI i + (1 : Int32) = nI (i + 1) from nI_add i 1]
  refine ev_sld dL_law_1045 (ix_n (by omega)) (gd (show i + 1 < (gX g).length by omega)) ?_
  refine ev_aload_n dL_law_1046 rfl ?_
  refine ev_iload_n dL_law_1047 rfl ?_
  refine ev_iconst (v := 2) dL_law_1048 (by decide) ?_
  refine ev_iadd dL_law_1049 ?_
  rw [show nI i + (2 : Int32) = nI (i + 2) from nI_add i 2]
  refine ev_sld dL_law_1050 (ix_n (by omega)) (gd (show i + 2 < (gX g).length by omega)) ?_
  refine ev_aload_n dL_law_1051 rfl ?_
  refine ev_iload_n dL_law_1052 rfl ?_
  refine ev_iconst (v := 3) dL_law_1053 (by decide) ?_
  refine ev_iadd dL_law_1054 ?_
  rw [show nI i + (3 : Int32) = nI (i + 3) from nI_add i 3]
  refine ev_sld dL_law_1055 (ix_n (by omega)) (gd (show i + 3 < (gX g).length by omega)) ?_
  refine ev_aload_n dL_law_1056 rfl ?_
  refine ev_iload_n dL_law_1057 rfl ?_
  refine ev_iconst (v := 4) dL_law_1058 (by decide) ?_
  refine ev_iadd dL_law_1059 ?_
  rw [show nI i + (4 : Int32) = nI (i + 4) from nI_add i 4]
  refine ev_sld dL_law_1060 (ix_n (by omega)) (gd (show i + 4 < (gX g).length by omega)) ?_
  refine k_v (s_houses hI _ _ _ _) (by decide) dL_law_1061 cbX11_houses (mt4 219 rfl rfl) (mt4 220 rfl rfl) (mt4 221 rfl rfl) (ci := 11) rfl ha rfl rfl (Nat.le_of_ble_eq_true rfl) (fun v μ1 hq => ?_)
  obtain ⟨x, rfl, hz, ⟨fs2, hb⟩, hm⟩ := hq
  simp only [Option.toList, List.cons_append, List.nil_append]
  refine ev_aload_n dL_law_1064 rfl ?_
  refine ev_aload_n dL_law_1065 rfl ?_
  refine ev_iload_n dL_law_1066 rfl ?_
  refine ev_iconst (v := 1) dL_law_1067 (by decide) ?_
  refine ev_iadd dL_law_1068 ?_
  rw [show nI i + (1 : Int32) = nI (i + 1) from nI_add i 1]
  refine ev_sld dL_law_1069 (ix_n (by omega)) (gd (show i + 1 < (gX g).length by omega)) ?_
  refine ev_aload_n dL_law_1070 rfl ?_
  refine ev_iload_n dL_law_1071 rfl ?_
  refine ev_iconst (v := 2) dL_law_1072 (by decide) ?_
  refine ev_iadd dL_law_1073 ?_
  rw [show nI i + (2 : Int32) = nI (i + 2) from nI_add i 2]
  refine ev_sld dL_law_1074 (ix_n (by omega)) (gd (show i + 2 < (gX g).length by omega)) ?_
  refine ev_aload_n dL_law_1075 rfl ?_
  refine ev_iload_n dL_law_1076 rfl ?_
  refine ev_iconst (v := 3) dL_law_1077 (by decide) ?_
  refine ev_iadd dL_law_1078 ?_
  rw [show nI i + (3 : Int32) = nI (i + 3) from nI_add i 3]
  refine ev_sld dL_law_1079 (ix_n (by omega)) (gd (show i + 3 < (gX g).length by omega)) ?_
  refine ev_aload_n dL_law_1080 rfl ?_
  refine ev_iload_n dL_law_1081 rfl ?_
  refine ev_iconst (v := 4) dL_law_1082 (by decide) ?_
  refine ev_iadd dL_law_1083 ?_
  rw [show nI i + (4 : Int32) = nI (i + 4) from nI_add i 4]
  refine ev_sld dL_law_1084 (ix_n (by omega)) (gd (show i + 4 < (gX g).length by omega)) ?_
  refine k_v hm (by decide) dL_law_1085 cbX12_houses (mt6 196 rfl rfl) (mt6 197 rfl rfl) (mt6 198 rfl rfl) (ci := 12) rfl hb rfl rfl (Nat.le_of_ble_eq_true rfl) (fun v μ1 hq => ?_)
  obtain ⟨rfl, hI2, hz2⟩ := hq
  simp only [Option.toList, List.cons_append, List.nil_append]
  refine ev_icmp_eq (tgt := 1126) dL_law_1088 (by decide) (fun _ => ?_) (fun h1088 => absurd (rfl) h1088)
  exact go _ hI2 (by rw [hz2]; exact hz.2.1) (by rw [hz2]; exact hz.2.2)
theorem lc_taken (hi : i + 6 ≤ (gX g).length) (hL : (gX g).length ≤ 3072) (hI : Inv a μ) (go : ∀ μ' : Mm, Inv a μ' → μ'.2.1 ≤ μ.2.1 + 7 → μ'.2.2 ≤ μ.2.2 + 200 → Ev g 70 mL_law 1126 (lawL g a i) [] μ' Q) : Ev g 70 mL_law 1093 (lawL g a i) [] μ Q := by
  obtain ⟨fs, ha⟩ := hI.ob
  refine ev_aload_n dL_law_1093 rfl ?_
  refine ev_aload_n dL_law_1094 rfl ?_
  refine ev_iload_n dL_law_1095 rfl ?_
  refine ev_iconst (v := 1) dL_law_1096 (by decide) ?_
  refine ev_iadd dL_law_1097 ?_
  rw [show nI i + (1 : Int32) = nI (i + 1) from nI_add i 1]
  refine ev_sld dL_law_1098 (ix_n (by omega)) (gd (show i + 1 < (gX g).length by omega)) ?_
  refine ev_aload_n dL_law_1099 rfl ?_
  refine ev_iload_n dL_law_1100 rfl ?_
  refine ev_iconst (v := 2) dL_law_1101 (by decide) ?_
  refine ev_iadd dL_law_1102 ?_
  rw [show nI i + (2 : Int32) = nI (i + 2) from nI_add i 2]
  refine ev_sld dL_law_1103 (ix_n (by omega)) (gd (show i + 2 < (gX g).length by omega)) ?_
  refine k_v (s_taken hI _ _) (by decide) dL_law_1104 cbX11_taken (mt4 224 rfl rfl) (mt4 225 rfl rfl) (mt4 226 rfl rfl) (ci := 11) rfl ha rfl rfl (Nat.le_of_ble_eq_true rfl) (fun v μ1 hq => ?_)
  obtain ⟨x, rfl, hz, ⟨fs2, hb⟩, hm⟩ := hq
  simp only [Option.toList, List.cons_append, List.nil_append]
  refine ev_aload_n dL_law_1107 rfl ?_
  refine ev_aload_n dL_law_1108 rfl ?_
  refine ev_iload_n dL_law_1109 rfl ?_
  refine ev_iconst (v := 1) dL_law_1110 (by decide) ?_
  refine ev_iadd dL_law_1111 ?_
  rw [show nI i + (1 : Int32) = nI (i + 1) from nI_add i 1]
  refine ev_sld dL_law_1112 (ix_n (by omega)) (gd (show i + 1 < (gX g).length by omega)) ?_
  refine ev_aload_n dL_law_1113 rfl ?_
  refine ev_iload_n dL_law_1114 rfl ?_
  refine ev_iconst (v := 2) dL_law_1115 (by decide) ?_
  refine ev_iadd dL_law_1116 ?_
  rw [show nI i + (2 : Int32) = nI (i + 2) from nI_add i 2]
  refine ev_sld dL_law_1117 (ix_n (by omega)) (gd (show i + 2 < (gX g).length by omega)) ?_
  refine k_v hm (by decide) dL_law_1118 cbX12_taken (mt6 9 rfl rfl) (mt6 10 rfl rfl) (mt6 11 rfl rfl) (ci := 12) rfl hb rfl rfl (Nat.le_of_ble_eq_true rfl) (fun v μ1 hq => ?_)
  obtain ⟨rfl, hI2, hz2⟩ := hq
  simp only [Option.toList, List.cons_append, List.nil_append]
  refine ev_icmp_eq (tgt := 1126) dL_law_1121 (by decide) (fun _ => ?_) (fun h1121 => absurd (rfl) h1121)
  exact go _ hI2 (by rw [hz2]; exact hz.2.1) (by rw [hz2]; exact hz.2.2)
theorem l_law (hL : (gX g).length ≤ 3072) {c0 s0 : Nat} : ∀ (n i : Nat) (μ : Mm), (gX g).length < i + 6 * (n + 1) → i ≤ 3072 → Inv a μ → μ.2.1 ≤ c0 + 7 * i → μ.2.2 ≤ s0 + 200 * i → Ev g 70 mL_law 18 (lawL g a i) [] μ (fun v μ' => v = some (.int 1) ∧ μ'.2.1 ≤ c0 + 30000 ∧ μ'.2.2 ≤ s0 + 700000) := by
  have cmp : ∀ i, i ≤ 3072 → (nI (gX g).length - 6 < nI i ↔ (gX g).length < i + 6) := by
    intro i hi
    have e6 : (6 : Int32).toInt = 6 := by decide
    have eL := nI_i (n := (gX g).length) (by omega)
    rw [Int32.lt_iff_toInt_lt, sub_i (by rw [eL, e6]; omega) (by rw [eL, e6]; omega), eL, e6, nI_i (by omega)]
    omega
  have fin : ∀ (i : Nat) (μ : Mm), i ≤ 3072 → (gX g).length < i + 6 → μ.2.1 ≤ c0 + 7 * i → μ.2.2 ≤ s0 + 200 * i → Ev g 70 mL_law 18 (lawL g a i) [] μ (fun v μ' => v = some (.int 1) ∧ μ'.2.1 ≤ c0 + 30000 ∧ μ'.2.2 ≤ s0 + 700000) := by
    intro i μ hi hx h1 h2
    refine ev_iload_n dL_law_18 rfl ?_
    refine ev_aload_n dL_law_19 rfl ?_
    refine ev_slen dL_law_20 rfl ?_
    refine ev_bipush (v := 6) dL_law_21 (by decide) ?_
    refine ev_isub dL_law_23 ?_
    refine ev_icmp_gt (tgt := 1132) dL_law_24 (by decide) (fun _ => ?_) (fun h24 => absurd (((cmp i hi).mpr hx)) h24)
    refine ev_iconst (v := 1) dL_law_1132 (by decide) ?_
    refine ev_zret dL_law_1133 rfl (by decide) ?_
    exact ⟨rfl, by omega, by omega⟩
  intro n
  induction n with
  | zero => intro i μ h hi hI h1 h2; exact fin i μ hi (by omega) h1 h2
  | succ n ih =>
    intro i μ h hi hI h1 h2
    by_cases hx : (gX g).length < i + 6
    · exact fin i μ hi hx h1 h2
    · have hi6 : i + 6 ≤ (gX g).length := by omega
      have go : ∀ μ' : Mm, Inv a μ' → μ'.2.1 ≤ μ.2.1 + 7 → μ'.2.2 ≤ μ.2.2 + 200 → Ev g 70 mL_law 1126 (lawL g a i) [] μ' (fun v μ' => v = some (.int 1) ∧ μ'.2.1 ≤ c0 + 30000 ∧ μ'.2.2 ≤ s0 + 700000) := by
        intro μ' hI' g1 g2
        refine ev_iinc dL_law_1126 rfl (by decide) ?_
        dsimp only [List.set]
        rw [show nI i + Int32.ofInt 6 = nI (i + 6) from nI_add i 6]
        refine ev_goto (tgt := 18) dL_law_1129 (by decide) ?_
        exact ih (i + 6) μ' (by omega) (by omega) hI' (by omega) (by omega)
      have g0 := go μ hI (by omega) (by omega)
      refine ev_iload_n dL_law_18 rfl ?_
      refine ev_aload_n dL_law_19 rfl ?_
      refine ev_slen dL_law_20 rfl ?_
      refine ev_bipush (v := 6) dL_law_21 (by decide) ?_
      refine ev_isub dL_law_23 ?_
      refine ev_icmp_gt (tgt := 1132) dL_law_24 (by decide) (fun h24 => absurd h24 ((fun q => hx ((cmp i hi).mp q)))) (fun _ => ?_)
      refine ev_aload_n dL_law_27 rfl ?_
      refine ev_iload_n dL_law_28 rfl ?_
      refine ev_sld dL_law_29 (ix_n (by omega)) (gd (show i < (gX g).length by omega)) ?_
      refine ev_bipush (v := 31) dL_law_30 (by decide) ?_
      refine ev_iand dL_law_32 ?_
      by_cases hs33 : ((gX g).getD i 0 &&& 31).toInt < 0 ∨ 30 < ((gX g).getD i 0 &&& 31).toInt
      · refine ev_tout (tgt := 1126) dL_law_33 hs33 (by decide) ?_
        have hn33_0 : ¬ ((gX g).getD i 0 &&& 31) = 0 := fun q => by rw [q] at hs33; revert hs33; decide
        have hn33_1 : ¬ ((gX g).getD i 0 &&& 31) = 1 := fun q => by rw [q] at hs33; revert hs33; decide
        have hn33_2 : ¬ ((gX g).getD i 0 &&& 31) = 2 := fun q => by rw [q] at hs33; revert hs33; decide
        have hn33_3 : ¬ ((gX g).getD i 0 &&& 31) = 3 := fun q => by rw [q] at hs33; revert hs33; decide
        have hn33_4 : ¬ ((gX g).getD i 0 &&& 31) = 4 := fun q => by rw [q] at hs33; revert hs33; decide
        have hn33_5 : ¬ ((gX g).getD i 0 &&& 31) = 5 := fun q => by rw [q] at hs33; revert hs33; decide
        have hn33_6 : ¬ ((gX g).getD i 0 &&& 31) = 6 := fun q => by rw [q] at hs33; revert hs33; decide
        have hn33_7 : ¬ ((gX g).getD i 0 &&& 31) = 7 := fun q => by rw [q] at hs33; revert hs33; decide
        have hn33_8 : ¬ ((gX g).getD i 0 &&& 31) = 8 := fun q => by rw [q] at hs33; revert hs33; decide
        have hn33_9 : ¬ ((gX g).getD i 0 &&& 31) = 9 := fun q => by rw [q] at hs33; revert hs33; decide
        have hn33_10 : ¬ ((gX g).getD i 0 &&& 31) = 10 := fun q => by rw [q] at hs33; revert hs33; decide
        have hn33_11 : ¬ ((gX g).getD i 0 &&& 31) = 11 := fun q => by rw [q] at hs33; revert hs33; decide
        have hn33_12 : ¬ ((gX g).getD i 0 &&& 31) = 12 := fun q => by rw [q] at hs33; revert hs33; decide
        have hn33_13 : ¬ ((gX g).getD i 0 &&& 31) = 13 := fun q => by rw [q] at hs33; revert hs33; decide
        have hn33_14 : ¬ ((gX g).getD i 0 &&& 31) = 14 := fun q => by rw [q] at hs33; revert hs33; decide
        have hn33_15 : ¬ ((gX g).getD i 0 &&& 31) = 15 := fun q => by rw [q] at hs33; revert hs33; decide
        have hn33_16 : ¬ ((gX g).getD i 0 &&& 31) = 16 := fun q => by rw [q] at hs33; revert hs33; decide
        have hn33_17 : ¬ ((gX g).getD i 0 &&& 31) = 17 := fun q => by rw [q] at hs33; revert hs33; decide
        have hn33_18 : ¬ ((gX g).getD i 0 &&& 31) = 18 := fun q => by rw [q] at hs33; revert hs33; decide
        have hn33_19 : ¬ ((gX g).getD i 0 &&& 31) = 19 := fun q => by rw [q] at hs33; revert hs33; decide
        have hn33_20 : ¬ ((gX g).getD i 0 &&& 31) = 20 := fun q => by rw [q] at hs33; revert hs33; decide
        have hn33_21 : ¬ ((gX g).getD i 0 &&& 31) = 21 := fun q => by rw [q] at hs33; revert hs33; decide
        have hn33_22 : ¬ ((gX g).getD i 0 &&& 31) = 22 := fun q => by rw [q] at hs33; revert hs33; decide
        have hn33_23 : ¬ ((gX g).getD i 0 &&& 31) = 23 := fun q => by rw [q] at hs33; revert hs33; decide
        have hn33_24 : ¬ ((gX g).getD i 0 &&& 31) = 24 := fun q => by rw [q] at hs33; revert hs33; decide
        have hn33_25 : ¬ ((gX g).getD i 0 &&& 31) = 25 := fun q => by rw [q] at hs33; revert hs33; decide
        have hn33_26 : ¬ ((gX g).getD i 0 &&& 31) = 26 := fun q => by rw [q] at hs33; revert hs33; decide
        have hn33_27 : ¬ ((gX g).getD i 0 &&& 31) = 27 := fun q => by rw [q] at hs33; revert hs33; decide
        have hn33_28 : ¬ ((gX g).getD i 0 &&& 31) = 28 := fun q => by rw [q] at hs33; revert hs33; decide
        have hn33_29 : ¬ ((gX g).getD i 0 &&& 31) = 29 := fun q => by rw [q] at hs33; revert hs33; decide
        have hn33_30 : ¬ ((gX g).getD i 0 &&& 31) = 30 := fun q => by rw [q] at hs33; revert hs33; decide
        exact g0
      have hs33 : ((gX g).getD i 0 &&& 31).toInt = 0 ∨ ((gX g).getD i 0 &&& 31).toInt = 1 ∨ ((gX g).getD i 0 &&& 31).toInt = 2 ∨ ((gX g).getD i 0 &&& 31).toInt = 3 ∨ ((gX g).getD i 0 &&& 31).toInt = 4 ∨ ((gX g).getD i 0 &&& 31).toInt = 5 ∨ ((gX g).getD i 0 &&& 31).toInt = 6 ∨ ((gX g).getD i 0 &&& 31).toInt = 7 ∨ ((gX g).getD i 0 &&& 31).toInt = 8 ∨ ((gX g).getD i 0 &&& 31).toInt = 9 ∨ ((gX g).getD i 0 &&& 31).toInt = 10 ∨ ((gX g).getD i 0 &&& 31).toInt = 11 ∨ ((gX g).getD i 0 &&& 31).toInt = 12 ∨ ((gX g).getD i 0 &&& 31).toInt = 13 ∨ ((gX g).getD i 0 &&& 31).toInt = 14 ∨ ((gX g).getD i 0 &&& 31).toInt = 15 ∨ ((gX g).getD i 0 &&& 31).toInt = 16 ∨ ((gX g).getD i 0 &&& 31).toInt = 17 ∨ ((gX g).getD i 0 &&& 31).toInt = 18 ∨ ((gX g).getD i 0 &&& 31).toInt = 19 ∨ ((gX g).getD i 0 &&& 31).toInt = 20 ∨ ((gX g).getD i 0 &&& 31).toInt = 21 ∨ ((gX g).getD i 0 &&& 31).toInt = 22 ∨ ((gX g).getD i 0 &&& 31).toInt = 23 ∨ ((gX g).getD i 0 &&& 31).toInt = 24 ∨ ((gX g).getD i 0 &&& 31).toInt = 25 ∨ ((gX g).getD i 0 &&& 31).toInt = 26 ∨ ((gX g).getD i 0 &&& 31).toInt = 27 ∨ ((gX g).getD i 0 &&& 31).toInt = 28 ∨ ((gX g).getD i 0 &&& 31).toInt = 29 ∨ ((gX g).getD i 0 &&& 31).toInt = 30 := by omega
      rcases hs33 with hs33 | hs33 | hs33 | hs33 | hs33 | hs33 | hs33 | hs33 | hs33 | hs33 | hs33 | hs33 | hs33 | hs33 | hs33 | hs33 | hs33 | hs33 | hs33 | hs33 | hs33 | hs33 | hs33 | hs33 | hs33 | hs33 | hs33 | hs33 | hs33 | hs33 | hs33
      · refine ev_tin (off := 139) (tgt := 172) dL_law_33 (by omega) (by omega) (by rw [hs33]; rfl) (by decide) ?_
        have he33 : ((gX g).getD i 0 &&& 31) = 0 := Int32.toInt_inj.mp (hs33.trans (by decide))
        exact lc_house hi6 hL hI go
      · refine ev_tin (off := 182) (tgt := 215) dL_law_33 (by omega) (by omega) (by rw [hs33]; rfl) (by decide) ?_
        have he33 : ((gX g).getD i 0 &&& 31) = 1 := Int32.toInt_inj.mp (hs33.trans (by decide))
        exact lc_set hi6 hL hI go
      · refine ev_tin (off := 225) (tgt := 258) dL_law_33 (by omega) (by omega) (by rw [hs33]; rfl) (by decide) ?_
        have he33 : ((gX g).getD i 0 &&& 31) = 2 := Int32.toInt_inj.mp (hs33.trans (by decide))
        exact lc_bag hi6 hL hI go
      · refine ev_tin (off := 258) (tgt := 291) dL_law_33 (by omega) (by omega) (by rw [hs33]; rfl) (by decide) ?_
        have he33 : ((gX g).getD i 0 &&& 31) = 3 := Int32.toInt_inj.mp (hs33.trans (by decide))
        exact lc_told hi6 hL hI go
      · refine ev_tin (off := 291) (tgt := 324) dL_law_33 (by omega) (by omega) (by rw [hs33]; rfl) (by decide) ?_
        have he33 : ((gX g).getD i 0 &&& 31) = 4 := Int32.toInt_inj.mp (hs33.trans (by decide))
        exact lc_swap hi6 hL hI go
      · refine ev_tin (off := 324) (tgt := 357) dL_law_33 (by omega) (by omega) (by rw [hs33]; rfl) (by decide) ?_
        have he33 : ((gX g).getD i 0 &&& 31) = 5 := Int32.toInt_inj.mp (hs33.trans (by decide))
        exact lc_feed hi6 hL hI go
      · refine ev_tin (off := 347) (tgt := 380) dL_law_33 (by omega) (by omega) (by rw [hs33]; rfl) (by decide) ?_
        have he33 : ((gX g).getD i 0 &&& 31) = 6 := Int32.toInt_inj.mp (hs33.trans (by decide))
        exact lc_text hi6 hL hI go
      · refine ev_tin (off := 360) (tgt := 393) dL_law_33 (by omega) (by omega) (by rw [hs33]; rfl) (by decide) ?_
        have he33 : ((gX g).getD i 0 &&& 31) = 7 := Int32.toInt_inj.mp (hs33.trans (by decide))
        exact lc_force hi6 hL hI go
      · refine ev_tin (off := 383) (tgt := 416) dL_law_33 (by omega) (by omega) (by rw [hs33]; rfl) (by decide) ?_
        have he33 : ((gX g).getD i 0 &&& 31) = 8 := Int32.toInt_inj.mp (hs33.trans (by decide))
        exact lc_at hi6 hL hI go
      · refine ev_tin (off := 416) (tgt := 449) dL_law_33 (by omega) (by omega) (by rw [hs33]; rfl) (by decide) ?_
        have he33 : ((gX g).getD i 0 &&& 31) = 9 := Int32.toInt_inj.mp (hs33.trans (by decide))
        exact lc_round hi6 hL hI go
      · refine ev_tin (off := 439) (tgt := 472) dL_law_33 (by omega) (by omega) (by rw [hs33]; rfl) (by decide) ?_
        have he33 : ((gX g).getD i 0 &&& 31) = 10 := Int32.toInt_inj.mp (hs33.trans (by decide))
        exact lc_shifted hi6 hL hI go
      · refine ev_tin (off := 472) (tgt := 505) dL_law_33 (by omega) (by omega) (by rw [hs33]; rfl) (by decide) ?_
        have he33 : ((gX g).getD i 0 &&& 31) = 11 := Int32.toInt_inj.mp (hs33.trans (by decide))
        exact lc_where hi6 hL hI go
      · refine ev_tin (off := 505) (tgt := 538) dL_law_33 (by omega) (by omega) (by rw [hs33]; rfl) (by decide) ?_
        have he33 : ((gX g).getD i 0 &&& 31) = 12 := Int32.toInt_inj.mp (hs33.trans (by decide))
        exact lc_best hi6 hL hI go
      · refine ev_tin (off := 538) (tgt := 571) dL_law_33 (by omega) (by omega) (by rw [hs33]; rfl) (by decide) ?_
        have he33 : ((gX g).getD i 0 &&& 31) = 13 := Int32.toInt_inj.mp (hs33.trans (by decide))
        exact lc_arrange hi6 hL hI go
      · refine ev_tin (off := 561) (tgt := 594) dL_law_33 (by omega) (by omega) (by rw [hs33]; rfl) (by decide) ?_
        have he33 : ((gX g).getD i 0 &&& 31) = 14 := Int32.toInt_inj.mp (hs33.trans (by decide))
        exact lc_ways hi6 hL hI go
      · refine ev_tin (off := 584) (tgt := 617) dL_law_33 (by omega) (by omega) (by rw [hs33]; rfl) (by decide) ?_
        have he33 : ((gX g).getD i 0 &&& 31) = 15 := Int32.toInt_inj.mp (hs33.trans (by decide))
        exact lc_begin hi6 hL hI go
      · refine ev_tin (off := 597) (tgt := 630) dL_law_33 (by omega) (by omega) (by rw [hs33]; rfl) (by decide) ?_
        have he33 : ((gX g).getD i 0 &&& 31) = 16 := Int32.toInt_inj.mp (hs33.trans (by decide))
        exact lc_heap hi6 hL hI go
      · refine ev_tin (off := 620) (tgt := 653) dL_law_33 (by omega) (by omega) (by rw [hs33]; rfl) (by decide) ?_
        have he33 : ((gX g).getD i 0 &&& 31) = 17 := Int32.toInt_inj.mp (hs33.trans (by decide))
        exact lc_split hi6 hL hI go
      · refine ev_tin (off := 643) (tgt := 676) dL_law_33 (by omega) (by omega) (by rw [hs33]; rfl) (by decide) ?_
        have he33 : ((gX g).getD i 0 &&& 31) = 18 := Int32.toInt_inj.mp (hs33.trans (by decide))
        exact lc_drop hi6 hL hI go
      · refine ev_tin (off := 666) (tgt := 699) dL_law_33 (by omega) (by omega) (by rw [hs33]; rfl) (by decide) ?_
        have he33 : ((gX g).getD i 0 &&& 31) = 19 := Int32.toInt_inj.mp (hs33.trans (by decide))
        exact lc_away hi6 hL hI go
      · refine ev_tin (off := 699) (tgt := 732) dL_law_33 (by omega) (by omega) (by rw [hs33]; rfl) (by decide) ?_
        have he33 : ((gX g).getD i 0 &&& 31) = 20 := Int32.toInt_inj.mp (hs33.trans (by decide))
        exact lc_judge hi6 hL hI go
      · refine ev_tin (off := 722) (tgt := 755) dL_law_33 (by omega) (by omega) (by rw [hs33]; rfl) (by decide) ?_
        have he33 : ((gX g).getD i 0 &&& 31) = 21 := Int32.toInt_inj.mp (hs33.trans (by decide))
        exact lc_thrownBy hi6 hL hI go
      · refine ev_tin (off := 755) (tgt := 788) dL_law_33 (by omega) (by omega) (by rw [hs33]; rfl) (by decide) ?_
        have he33 : ((gX g).getD i 0 &&& 31) = 22 := Int32.toInt_inj.mp (hs33.trans (by decide))
        exact lc_chance hi6 hL hI go
      · refine ev_tin (off := 809) (tgt := 842) dL_law_33 (by omega) (by omega) (by rw [hs33]; rfl) (by decide) ?_
        have he33 : ((gX g).getD i 0 &&& 31) = 23 := Int32.toInt_inj.mp (hs33.trans (by decide))
        exact lc_image hi6 hL hI go
      · refine ev_tin (off := 822) (tgt := 855) dL_law_33 (by omega) (by omega) (by rw [hs33]; rfl) (by decide) ?_
        have he33 : ((gX g).getD i 0 &&& 31) = 24 := Int32.toInt_inj.mp (hs33.trans (by decide))
        exact lc_back hi6 hL hI go
      · refine ev_tin (off := 835) (tgt := 868) dL_law_33 (by omega) (by omega) (by rw [hs33]; rfl) (by decide) ?_
        have he33 : ((gX g).getD i 0 &&& 31) = 25 := Int32.toInt_inj.mp (hs33.trans (by decide))
        exact lc_count hi6 hL hI go
      · refine ev_tin (off := 858) (tgt := 891) dL_law_33 (by omega) (by omega) (by rw [hs33]; rfl) (by decide) ?_
        have he33 : ((gX g).getD i 0 &&& 31) = 26 := Int32.toInt_inj.mp (hs33.trans (by decide))
        exact lc_sheet hi6 hL hI go
      · refine ev_tin (off := 901) (tgt := 934) dL_law_33 (by omega) (by omega) (by rw [hs33]; rfl) (by decide) ?_
        have he33 : ((gX g).getD i 0 &&& 31) = 27 := Int32.toInt_inj.mp (hs33.trans (by decide))
        exact lc_cell hi6 hL hI go
      · refine ev_tin (off := 944) (tgt := 977) dL_law_33 (by omega) (by omega) (by rw [hs33]; rfl) (by decide) ?_
        have he33 : ((gX g).getD i 0 &&& 31) = 28 := Int32.toInt_inj.mp (hs33.trans (by decide))
        exact lc_copy hi6 hL hI go
      · refine ev_tin (off := 1007) (tgt := 1040) dL_law_33 (by omega) (by omega) (by rw [hs33]; rfl) (by decide) ?_
        have he33 : ((gX g).getD i 0 &&& 31) = 29 := Int32.toInt_inj.mp (hs33.trans (by decide))
        exact lc_houses hi6 hL hI go
      · refine ev_tin (off := 1060) (tgt := 1093) dL_law_33 (by omega) (by omega) (by rw [hs33]; rfl) (by decide) ?_
        have he33 : ((gX g).getD i 0 &&& 31) = 30 := Int32.toInt_inj.mp (hs33.trans (by decide))
        exact lc_taken hi6 hL hI go
end LAW
