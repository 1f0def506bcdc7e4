/-! THE LAW'S CASES: a call of the class, the same of the model, the answers are one -/
def lk (C : zCx) (τ : Nat → ClassId) (ι : Nat → Nat) (kc ks i : Nat) : Prop := ∀ S G, CG S G → MG S G → GI G → zR C τ ι 4 kc ks 1061 [(0, .ref 260), (1, .ref 0), (2, .ref 245), (3, .int (nI i))] [] (zcells S)
/-- come -/
theorem lc_0 {C : zCx} {τ : Nat → ClassId} {ι : Nat → Nat} {kc ks L i : Nat} {xs : Nat → Int32} (hC : zOK C τ room_1 RL cL_law 4) (hX : zSc C ι L xs) (hkc : kc ≤ 600000) (hks : ks ≤ 7302250) (hL : L ≤ 3072) (hi : i + 6 ≤ L) {S : zS} {G : zG} (hc : CG S G) (hm : MG S G) (hg : GI G) (kk : lk C τ ι kc ks i) : zR C τ ι 4 kc ks 164 [(0, .ref 260), (1, .ref 0), (2, .ref 245), (3, .int (nI i))] [] (zcells S) := by
  refine zr_aload_n hC dL_law_164 rfl ?_
  refine zr_aload_n hC dL_law_165 rfl ?_
  refine zr_iload_n hC dL_law_166 rfl ?_
  refine zk_iconst hC dL_law_167 (v := nI 1) (by decide +kernel) ?_
  refine zn_iadd hC dL_law_168 (v := nI (i + 1)) (nI_add i 1) ?_
  refine zl_ld hC hX (i := i + 1) (by omega) hL dL_law_169 ?_
  refine zl_callV hC (b := 0) [_] [] dL_law_170 ml_L_13 mtX8_come tX8_come (by decide) hkc hks rfl rfl (by decide) (by decide +kernel) (Nat.le_of_ble_eq_true rfl) rfl ?_
  refine ⟨G, _, rfl, hc, hg, fun S1 hc1 h1 => ?_⟩
  dsimp only [Option.toList, List.nil_append, List.cons_append]
  refine zr_aload_n hC dL_law_173 rfl ?_
  refine zr_aload_n hC dL_law_174 rfl ?_
  refine zr_iload_n hC dL_law_175 rfl ?_
  refine zk_iconst hC dL_law_176 (v := nI 1) (by decide +kernel) ?_
  refine zn_iadd hC dL_law_177 (v := nI (i + 1)) (nI_add i 1) ?_
  refine zl_ld hC hX (i := i + 1) (by omega) hL dL_law_178 ?_
  refine zl_callV hC (b := 245) [_] [_] dL_law_179 ml_L_17 mtX9_come tX9_come (by decide) hkc hks rfl rfl (by decide) (by decide +kernel) (Nat.le_of_ble_eq_true rfl) rfl ?_
  refine ⟨G, _, rfl, hm.fc h1, hg, fun S2 hm2 h2 => ?_⟩
  dsimp only [Option.toList, List.nil_append, List.cons_append]
  refine zr_icmp_eq hC dL_law_182 (tgt := 1061) (by decide) (fun _ => ?_) (fun c => absurd rfl c)
  exact kk S2 _ (hc1.fm (gi_come hg _) h2) hm2 (gi_come hg _)
/-- leave -/
theorem lc_1 {C : zCx} {τ : Nat → ClassId} {ι : Nat → Nat} {kc ks L i : Nat} {xs : Nat → Int32} (hC : zOK C τ room_1 RL cL_law 4) (hX : zSc C ι L xs) (hkc : kc ≤ 600000) (hks : ks ≤ 7302250) (hL : L ≤ 3072) (hi : i + 6 ≤ L) {S : zS} {G : zG} (hc : CG S G) (hm : MG S G) (hg : GI G) (kk : lk C τ ι kc ks i) : zR C τ ι 4 kc ks 187 [(0, .ref 260), (1, .ref 0), (2, .ref 245), (3, .int (nI i))] [] (zcells S) := by
  refine zr_aload_n hC dL_law_187 rfl ?_
  refine zr_aload_n hC dL_law_188 rfl ?_
  refine zr_iload_n hC dL_law_189 rfl ?_
  refine zk_iconst hC dL_law_190 (v := nI 1) (by decide +kernel) ?_
  refine zn_iadd hC dL_law_191 (v := nI (i + 1)) (nI_add i 1) ?_
  refine zl_ld hC hX (i := i + 1) (by omega) hL dL_law_192 ?_
  refine zl_callV hC (b := 0) [_] [] dL_law_193 ml_L_18 mtX8_leave tX8_leave (by decide) hkc hks rfl rfl (by decide) (by decide +kernel) (Nat.le_of_ble_eq_true rfl) rfl ?_
  refine ⟨G, _, rfl, hc, hg, fun S1 hc1 h1 => ?_⟩
  dsimp only [Option.toList, List.nil_append, List.cons_append]
  refine zr_aload_n hC dL_law_196 rfl ?_
  refine zr_aload_n hC dL_law_197 rfl ?_
  refine zr_iload_n hC dL_law_198 rfl ?_
  refine zk_iconst hC dL_law_199 (v := nI 1) (by decide +kernel) ?_
  refine zn_iadd hC dL_law_200 (v := nI (i + 1)) (nI_add i 1) ?_
  refine zl_ld hC hX (i := i + 1) (by omega) hL dL_law_201 ?_
  refine zl_callV hC (b := 245) [_] [_] dL_law_202 ml_L_21 mtX9_leave tX9_leave (by decide) hkc hks rfl rfl (by decide) (by decide +kernel) (Nat.le_of_ble_eq_true rfl) rfl ?_
  refine ⟨G, _, rfl, hm.fc h1, hg, fun S2 hm2 h2 => ?_⟩
  dsimp only [Option.toList, List.nil_append, List.cons_append]
  refine zr_icmp_eq hC dL_law_205 (tgt := 1061) (by decide) (fun _ => ?_) (fun c => absurd rfl c)
  exact kk S2 _ (hc1.fm (gi_leave hg _) h2) hm2 (gi_leave hg _)
/-- batch -/
theorem lc_2 {C : zCx} {τ : Nat → ClassId} {ι : Nat → Nat} {kc ks L i : Nat} {xs : Nat → Int32} (hC : zOK C τ room_1 RL cL_law 4) (hX : zSc C ι L xs) (hkc : kc ≤ 600000) (hks : ks ≤ 7302250) (hL : L ≤ 3072) (hi : i + 6 ≤ L) {S : zS} {G : zG} (hc : CG S G) (hm : MG S G) (hg : GI G) (kk : lk C τ ι kc ks i) : zR C τ ι 4 kc ks 210 [(0, .ref 260), (1, .ref 0), (2, .ref 245), (3, .int (nI i))] [] (zcells S) := by
  refine zr_aload_n hC dL_law_210 rfl ?_
  refine zl_callV hC (b := 0) [] [] dL_law_211 ml_L_22 mtX8_batch tX8_batch (by decide) hkc hks rfl rfl (by decide) (by decide +kernel) (Nat.le_of_ble_eq_true rfl) rfl ?_
  refine ⟨G, rfl, hc, hg, fun S1 hc1 h1 => ?_⟩
  dsimp only [Option.toList, List.nil_append, List.cons_append]
  refine zr_aload_n hC dL_law_214 rfl ?_
  refine zl_callV hC (b := 245) [] [_] dL_law_215 ml_L_26 mtX9_batch tX9_batch (by decide) hkc hks rfl rfl (by decide) (by decide +kernel) (Nat.le_of_ble_eq_true rfl) rfl ?_
  refine ⟨G, rfl, hm.fc h1, hg, fun S2 hm2 h2 => ?_⟩
  dsimp only [Option.toList, List.nil_append, List.cons_append]
  refine zr_icmp_eq hC dL_law_218 (tgt := 1061) (by decide) (fun _ => ?_) (fun c => absurd rfl c)
  exact kk S2 _ (hc1.fm (gi_batch hg) h2) hm2 (gi_batch hg)
/-- late -/
theorem lc_3 {C : zCx} {τ : Nat → ClassId} {ι : Nat → Nat} {kc ks L i : Nat} {xs : Nat → Int32} (hC : zOK C τ room_1 RL cL_law 4) (hX : zSc C ι L xs) (hkc : kc ≤ 600000) (hks : ks ≤ 7302250) (hL : L ≤ 3072) (hi : i + 6 ≤ L) {S : zS} {G : zG} (hc : CG S G) (hm : MG S G) (hg : GI G) (kk : lk C τ ι kc ks i) : zR C τ ι 4 kc ks 223 [(0, .ref 260), (1, .ref 0), (2, .ref 245), (3, .int (nI i))] [] (zcells S) := by
  refine zr_aload_n hC dL_law_223 rfl ?_
  refine zr_aload_n hC dL_law_224 rfl ?_
  refine zr_iload_n hC dL_law_225 rfl ?_
  refine zk_iconst hC dL_law_226 (v := nI 1) (by decide +kernel) ?_
  refine zn_iadd hC dL_law_227 (v := nI (i + 1)) (nI_add i 1) ?_
  refine zl_ld hC hX (i := i + 1) (by omega) hL dL_law_228 ?_
  refine zr_aload_n hC dL_law_229 rfl ?_
  refine zr_iload_n hC dL_law_230 rfl ?_
  refine zk_iconst hC dL_law_231 (v := nI 2) (by decide +kernel) ?_
  refine zn_iadd hC dL_law_232 (v := nI (i + 2)) (nI_add i 2) ?_
  refine zl_ld hC hX (i := i + 2) (by omega) hL dL_law_233 ?_
  refine zl_callV hC (b := 0) [_, _] [] dL_law_234 ml_L_27 mtX8_late tX8_late (by decide) hkc hks rfl rfl (by decide) (by decide +kernel) (Nat.le_of_ble_eq_true rfl) rfl ?_
  refine ⟨G, _, _, rfl, hc, hg, fun S1 hc1 h1 => ?_⟩
  dsimp only [Option.toList, List.nil_append, List.cons_append]
  refine zr_aload_n hC dL_law_237 rfl ?_
  refine zr_aload_n hC dL_law_238 rfl ?_
  refine zr_iload_n hC dL_law_239 rfl ?_
  refine zk_iconst hC dL_law_240 (v := nI 1) (by decide +kernel) ?_
  refine zn_iadd hC dL_law_241 (v := nI (i + 1)) (nI_add i 1) ?_
  refine zl_ld hC hX (i := i + 1) (by omega) hL dL_law_242 ?_
  refine zr_aload_n hC dL_law_243 rfl ?_
  refine zr_iload_n hC dL_law_244 rfl ?_
  refine zk_iconst hC dL_law_245 (v := nI 2) (by decide +kernel) ?_
  refine zn_iadd hC dL_law_246 (v := nI (i + 2)) (nI_add i 2) ?_
  refine zl_ld hC hX (i := i + 2) (by omega) hL dL_law_247 ?_
  refine zl_callV hC (b := 245) [_, _] [_] dL_law_248 ml_L_31 mtX9_late tX9_late (by decide) hkc hks rfl rfl (by decide) (by decide +kernel) (Nat.le_of_ble_eq_true rfl) rfl ?_
  refine ⟨G, _, _, rfl, hm.fc h1, hg, fun S2 hm2 h2 => ?_⟩
  dsimp only [Option.toList, List.nil_append, List.cons_append]
  refine zr_icmp_eq hC dL_law_251 (tgt := 1061) (by decide) (fun _ => ?_) (fun c => absurd rfl c)
  exact kk S2 _ (hc1.fm (gi_late hg _ _) h2) hm2 (gi_late hg _ _)
/-- lose -/
theorem lc_4 {C : zCx} {τ : Nat → ClassId} {ι : Nat → Nat} {kc ks L i : Nat} {xs : Nat → Int32} (hC : zOK C τ room_1 RL cL_law 4) (hX : zSc C ι L xs) (hkc : kc ≤ 600000) (hks : ks ≤ 7302250) (hL : L ≤ 3072) (hi : i + 6 ≤ L) {S : zS} {G : zG} (hc : CG S G) (hm : MG S G) (hg : GI G) (kk : lk C τ ι kc ks i) : zR C τ ι 4 kc ks 256 [(0, .ref 260), (1, .ref 0), (2, .ref 245), (3, .int (nI i))] [] (zcells S) := by
  refine zr_aload_n hC dL_law_256 rfl ?_
  refine zr_aload_n hC dL_law_257 rfl ?_
  refine zr_iload_n hC dL_law_258 rfl ?_
  refine zk_iconst hC dL_law_259 (v := nI 1) (by decide +kernel) ?_
  refine zn_iadd hC dL_law_260 (v := nI (i + 1)) (nI_add i 1) ?_
  refine zl_ld hC hX (i := i + 1) (by omega) hL dL_law_261 ?_
  refine zr_aload_n hC dL_law_262 rfl ?_
  refine zr_iload_n hC dL_law_263 rfl ?_
  refine zk_iconst hC dL_law_264 (v := nI 2) (by decide +kernel) ?_
  refine zn_iadd hC dL_law_265 (v := nI (i + 2)) (nI_add i 2) ?_
  refine zl_ld hC hX (i := i + 2) (by omega) hL dL_law_266 ?_
  refine zl_callV hC (b := 0) [_, _] [] dL_law_267 ml_L_32 mtX8_lose tX8_lose (by decide) hkc hks rfl rfl (by decide) (by decide +kernel) (Nat.le_of_ble_eq_true rfl) rfl ?_
  refine ⟨G, _, _, rfl, hc, hg, fun S1 hc1 h1 => ?_⟩
  dsimp only [Option.toList, List.nil_append, List.cons_append]
  refine zr_aload_n hC dL_law_270 rfl ?_
  refine zr_aload_n hC dL_law_271 rfl ?_
  refine zr_iload_n hC dL_law_272 rfl ?_
  refine zk_iconst hC dL_law_273 (v := nI 1) (by decide +kernel) ?_
  refine zn_iadd hC dL_law_274 (v := nI (i + 1)) (nI_add i 1) ?_
  refine zl_ld hC hX (i := i + 1) (by omega) hL dL_law_275 ?_
  refine zr_aload_n hC dL_law_276 rfl ?_
  refine zr_iload_n hC dL_law_277 rfl ?_
  refine zk_iconst hC dL_law_278 (v := nI 2) (by decide +kernel) ?_
  refine zn_iadd hC dL_law_279 (v := nI (i + 2)) (nI_add i 2) ?_
  refine zl_ld hC hX (i := i + 2) (by omega) hL dL_law_280 ?_
  refine zl_callV hC (b := 245) [_, _] [_] dL_law_281 ml_L_35 mtX9_lose tX9_lose (by decide) hkc hks rfl rfl (by decide) (by decide +kernel) (Nat.le_of_ble_eq_true rfl) rfl ?_
  refine ⟨G, _, _, rfl, hm.fc h1, hg, fun S2 hm2 h2 => ?_⟩
  dsimp only [Option.toList, List.nil_append, List.cons_append]
  refine zr_icmp_eq hC dL_law_284 (tgt := 1061) (by decide) (fun _ => ?_) (fun c => absurd rfl c)
  exact kk S2 _ (hc1.fm (gi_lose hg _ _) h2) hm2 (gi_lose hg _ _)
/-- mend -/
theorem lc_5 {C : zCx} {τ : Nat → ClassId} {ι : Nat → Nat} {kc ks L i : Nat} {xs : Nat → Int32} (hC : zOK C τ room_1 RL cL_law 4) (hX : zSc C ι L xs) (hkc : kc ≤ 600000) (hks : ks ≤ 7302250) (hL : L ≤ 3072) (hi : i + 6 ≤ L) {S : zS} {G : zG} (hc : CG S G) (hm : MG S G) (hg : GI G) (kk : lk C τ ι kc ks i) : zR C τ ι 4 kc ks 289 [(0, .ref 260), (1, .ref 0), (2, .ref 245), (3, .int (nI i))] [] (zcells S) := by
  refine zr_aload_n hC dL_law_289 rfl ?_
  refine zr_aload_n hC dL_law_290 rfl ?_
  refine zr_iload_n hC dL_law_291 rfl ?_
  refine zk_iconst hC dL_law_292 (v := nI 1) (by decide +kernel) ?_
  refine zn_iadd hC dL_law_293 (v := nI (i + 1)) (nI_add i 1) ?_
  refine zl_ld hC hX (i := i + 1) (by omega) hL dL_law_294 ?_
  refine zl_callV hC (b := 0) [_] [] dL_law_295 ml_L_36 mtX8_mend tX8_mend (by decide) hkc hks rfl rfl (by decide) (by decide +kernel) (Nat.le_of_ble_eq_true rfl) rfl ?_
  refine ⟨G, _, rfl, hc, hg, fun S1 hc1 h1 => ?_⟩
  dsimp only [Option.toList, List.nil_append, List.cons_append]
  refine zr_aload_n hC dL_law_298 rfl ?_
  refine zr_aload_n hC dL_law_299 rfl ?_
  refine zr_iload_n hC dL_law_300 rfl ?_
  refine zk_iconst hC dL_law_301 (v := nI 1) (by decide +kernel) ?_
  refine zn_iadd hC dL_law_302 (v := nI (i + 1)) (nI_add i 1) ?_
  refine zl_ld hC hX (i := i + 1) (by omega) hL dL_law_303 ?_
  refine zl_callV hC (b := 245) [_] [_] dL_law_304 ml_L_39 mtX9_mend tX9_mend (by decide) hkc hks rfl rfl (by decide) (by decide +kernel) (Nat.le_of_ble_eq_true rfl) rfl ?_
  refine ⟨G, _, rfl, hm.fc h1, hg, fun S2 hm2 h2 => ?_⟩
  dsimp only [Option.toList, List.nil_append, List.cons_append]
  refine zr_icmp_eq hC dL_law_307 (tgt := 1061) (by decide) (fun _ => ?_) (fun c => absurd rfl c)
  exact kk S2 _ (hc1.fm (gi_mend hg _) h2) hm2 (gi_mend hg _)
/-- begin -/
theorem lc_6 {C : zCx} {τ : Nat → ClassId} {ι : Nat → Nat} {kc ks L i : Nat} {xs : Nat → Int32} (hC : zOK C τ room_1 RL cL_law 4) (hX : zSc C ι L xs) (hkc : kc ≤ 600000) (hks : ks ≤ 7302250) (hL : L ≤ 3072) (hi : i + 6 ≤ L) {S : zS} {G : zG} (hc : CG S G) (hm : MG S G) (hg : GI G) (kk : lk C τ ι kc ks i) : zR C τ ι 4 kc ks 312 [(0, .ref 260), (1, .ref 0), (2, .ref 245), (3, .int (nI i))] [] (zcells S) := by
  refine zr_aload_n hC dL_law_312 rfl ?_
  refine zl_callV hC (b := 0) [] [] dL_law_313 ml_L_40 mtX8_begin tX8_begin (by decide) hkc hks rfl rfl (by decide) (by decide +kernel) (Nat.le_of_ble_eq_true rfl) rfl ?_
  refine ⟨G, rfl, hc, hg, fun S1 hc1 h1 => ?_⟩
  dsimp only [Option.toList, List.nil_append, List.cons_append]
  refine zr_aload_n hC dL_law_316 rfl ?_
  refine zl_callV hC (b := 245) [] [_] dL_law_317 ml_L_43 mtX9_begin tX9_begin (by decide) hkc hks rfl rfl (by decide) (by decide +kernel) (Nat.le_of_ble_eq_true rfl) rfl ?_
  refine ⟨G, rfl, hm.fc h1, hg, fun S2 hm2 h2 => ?_⟩
  dsimp only [Option.toList, List.nil_append, List.cons_append]
  refine zr_icmp_eq hC dL_law_320 (tgt := 1061) (by decide) (fun _ => ?_) (fun c => absurd rfl c)
  exact kk S2 _ (hc1.fm (gi_begin hg) h2) hm2 (gi_begin hg)
/-- member -/
theorem lc_7 {C : zCx} {τ : Nat → ClassId} {ι : Nat → Nat} {kc ks L i : Nat} {xs : Nat → Int32} (hC : zOK C τ room_1 RL cL_law 4) (hX : zSc C ι L xs) (hkc : kc ≤ 600000) (hks : ks ≤ 7302250) (hL : L ≤ 3072) (hi : i + 6 ≤ L) {S : zS} {G : zG} (hc : CG S G) (hm : MG S G) (hg : GI G) (kk : lk C τ ι kc ks i) : zR C τ ι 4 kc ks 325 [(0, .ref 260), (1, .ref 0), (2, .ref 245), (3, .int (nI i))] [] (zcells S) := by
  refine zr_aload_n hC dL_law_325 rfl ?_
  refine zr_aload_n hC dL_law_326 rfl ?_
  refine zr_iload_n hC dL_law_327 rfl ?_
  refine zk_iconst hC dL_law_328 (v := nI 1) (by decide +kernel) ?_
  refine zn_iadd hC dL_law_329 (v := nI (i + 1)) (nI_add i 1) ?_
  refine zl_ld hC hX (i := i + 1) (by omega) hL dL_law_330 ?_
  refine zr_aload_n hC dL_law_331 rfl ?_
  refine zr_iload_n hC dL_law_332 rfl ?_
  refine zk_iconst hC dL_law_333 (v := nI 2) (by decide +kernel) ?_
  refine zn_iadd hC dL_law_334 (v := nI (i + 2)) (nI_add i 2) ?_
  refine zl_ld hC hX (i := i + 2) (by omega) hL dL_law_335 ?_
  refine zl_callV hC (b := 0) [_, _] [] dL_law_336 ml_L_44 mtX8_member tX8_member (by decide) hkc hks rfl rfl (by decide) (by decide +kernel) (Nat.le_of_ble_eq_true rfl) rfl ?_
  refine ⟨G, _, _, rfl, hc, hg, fun S1 hc1 h1 => ?_⟩
  dsimp only [Option.toList, List.nil_append, List.cons_append]
  refine zr_aload_n hC dL_law_339 rfl ?_
  refine zr_aload_n hC dL_law_340 rfl ?_
  refine zr_iload_n hC dL_law_341 rfl ?_
  refine zk_iconst hC dL_law_342 (v := nI 1) (by decide +kernel) ?_
  refine zn_iadd hC dL_law_343 (v := nI (i + 1)) (nI_add i 1) ?_
  refine zl_ld hC hX (i := i + 1) (by omega) hL dL_law_344 ?_
  refine zr_aload_n hC dL_law_345 rfl ?_
  refine zr_iload_n hC dL_law_346 rfl ?_
  refine zk_iconst hC dL_law_347 (v := nI 2) (by decide +kernel) ?_
  refine zn_iadd hC dL_law_348 (v := nI (i + 2)) (nI_add i 2) ?_
  refine zl_ld hC hX (i := i + 2) (by omega) hL dL_law_349 ?_
  refine zl_callV hC (b := 245) [_, _] [_] dL_law_350 ml_L_47 mtX9_member tX9_member (by decide) hkc hks rfl rfl (by decide) (by decide +kernel) (Nat.le_of_ble_eq_true rfl) rfl ?_
  refine ⟨G, _, _, rfl, hm.fc h1, hg, fun S2 hm2 h2 => ?_⟩
  dsimp only [Option.toList, List.nil_append, List.cons_append]
  refine zr_icmp_eq hC dL_law_353 (tgt := 1061) (by decide) (fun _ => ?_) (fun c => absurd rfl c)
  exact kk S2 G (hc1.fm hg h2) hm2 hg
/-- node -/
theorem lc_8 {C : zCx} {τ : Nat → ClassId} {ι : Nat → Nat} {kc ks L i : Nat} {xs : Nat → Int32} (hC : zOK C τ room_1 RL cL_law 4) (hX : zSc C ι L xs) (hkc : kc ≤ 600000) (hks : ks ≤ 7302250) (hL : L ≤ 3072) (hi : i + 6 ≤ L) {S : zS} {G : zG} (hc : CG S G) (hm : MG S G) (hg : GI G) (kk : lk C τ ι kc ks i) : zR C τ ι 4 kc ks 358 [(0, .ref 260), (1, .ref 0), (2, .ref 245), (3, .int (nI i))] [] (zcells S) := by
  refine zr_aload_n hC dL_law_358 rfl ?_
  refine zr_aload_n hC dL_law_359 rfl ?_
  refine zr_iload_n hC dL_law_360 rfl ?_
  refine zk_iconst hC dL_law_361 (v := nI 1) (by decide +kernel) ?_
  refine zn_iadd hC dL_law_362 (v := nI (i + 1)) (nI_add i 1) ?_
  refine zl_ld hC hX (i := i + 1) (by omega) hL dL_law_363 ?_
  refine zr_aload_n hC dL_law_364 rfl ?_
  refine zr_iload_n hC dL_law_365 rfl ?_
  refine zk_iconst hC dL_law_366 (v := nI 2) (by decide +kernel) ?_
  refine zn_iadd hC dL_law_367 (v := nI (i + 2)) (nI_add i 2) ?_
  refine zl_ld hC hX (i := i + 2) (by omega) hL dL_law_368 ?_
  refine zl_callV hC (b := 0) [_, _] [] dL_law_369 ml_L_48 mtX8_node tX8_node (by decide) hkc hks rfl rfl (by decide) (by decide +kernel) (Nat.le_of_ble_eq_true rfl) rfl ?_
  refine ⟨G, _, _, rfl, hc, hg, fun S1 hc1 h1 => ?_⟩
  dsimp only [Option.toList, List.nil_append, List.cons_append]
  refine zr_aload_n hC dL_law_372 rfl ?_
  refine zr_aload_n hC dL_law_373 rfl ?_
  refine zr_iload_n hC dL_law_374 rfl ?_
  refine zk_iconst hC dL_law_375 (v := nI 1) (by decide +kernel) ?_
  refine zn_iadd hC dL_law_376 (v := nI (i + 1)) (nI_add i 1) ?_
  refine zl_ld hC hX (i := i + 1) (by omega) hL dL_law_377 ?_
  refine zr_aload_n hC dL_law_378 rfl ?_
  refine zr_iload_n hC dL_law_379 rfl ?_
  refine zk_iconst hC dL_law_380 (v := nI 2) (by decide +kernel) ?_
  refine zn_iadd hC dL_law_381 (v := nI (i + 2)) (nI_add i 2) ?_
  refine zl_ld hC hX (i := i + 2) (by omega) hL dL_law_382 ?_
  refine zl_callV hC (b := 245) [_, _] [_] dL_law_383 ml_L_51 mtX9_node tX9_node (by decide) hkc hks rfl rfl (by decide) (by decide +kernel) (Nat.le_of_ble_eq_true rfl) rfl ?_
  refine ⟨G, _, _, rfl, hm.fc h1, hg, fun S2 hm2 h2 => ?_⟩
  dsimp only [Option.toList, List.nil_append, List.cons_append]
  refine zr_icmp_eq hC dL_law_386 (tgt := 1061) (by decide) (fun _ => ?_) (fun c => absurd rfl c)
  exact kk S2 G (hc1.fm hg h2) hm2 hg
/-- key -/
theorem lc_9 {C : zCx} {τ : Nat → ClassId} {ι : Nat → Nat} {kc ks L i : Nat} {xs : Nat → Int32} (hC : zOK C τ room_1 RL cL_law 4) (hX : zSc C ι L xs) (hkc : kc ≤ 600000) (hks : ks ≤ 7302250) (hL : L ≤ 3072) (hi : i + 6 ≤ L) {S : zS} {G : zG} (hc : CG S G) (hm : MG S G) (hg : GI G) (kk : lk C τ ι kc ks i) : zR C τ ι 4 kc ks 391 [(0, .ref 260), (1, .ref 0), (2, .ref 245), (3, .int (nI i))] [] (zcells S) := by
  refine zr_aload_n hC dL_law_391 rfl ?_
  refine zr_aload_n hC dL_law_392 rfl ?_
  refine zr_iload_n hC dL_law_393 rfl ?_
  refine zk_iconst hC dL_law_394 (v := nI 1) (by decide +kernel) ?_
  refine zn_iadd hC dL_law_395 (v := nI (i + 1)) (nI_add i 1) ?_
  refine zl_ld hC hX (i := i + 1) (by omega) hL dL_law_396 ?_
  refine zr_aload_n hC dL_law_397 rfl ?_
  refine zr_iload_n hC dL_law_398 rfl ?_
  refine zk_iconst hC dL_law_399 (v := nI 2) (by decide +kernel) ?_
  refine zn_iadd hC dL_law_400 (v := nI (i + 2)) (nI_add i 2) ?_
  refine zl_ld hC hX (i := i + 2) (by omega) hL dL_law_401 ?_
  refine zl_callV hC (b := 0) [_, _] [] dL_law_402 ml_L_52 mtX8_key tX8_key (by decide) hkc hks rfl rfl (by decide) (by decide +kernel) (Nat.le_of_ble_eq_true rfl) rfl ?_
  refine ⟨G, _, _, rfl, hc, hg, fun S1 hc1 h1 => ?_⟩
  dsimp only [Option.toList, List.nil_append, List.cons_append]
  refine zr_aload_n hC dL_law_405 rfl ?_
  refine zr_aload_n hC dL_law_406 rfl ?_
  refine zr_iload_n hC dL_law_407 rfl ?_
  refine zk_iconst hC dL_law_408 (v := nI 1) (by decide +kernel) ?_
  refine zn_iadd hC dL_law_409 (v := nI (i + 1)) (nI_add i 1) ?_
  refine zl_ld hC hX (i := i + 1) (by omega) hL dL_law_410 ?_
  refine zr_aload_n hC dL_law_411 rfl ?_
  refine zr_iload_n hC dL_law_412 rfl ?_
  refine zk_iconst hC dL_law_413 (v := nI 2) (by decide +kernel) ?_
  refine zn_iadd hC dL_law_414 (v := nI (i + 2)) (nI_add i 2) ?_
  refine zl_ld hC hX (i := i + 2) (by omega) hL dL_law_415 ?_
  refine zl_callV hC (b := 245) [_, _] [_] dL_law_416 ml_L_55 mtX9_key tX9_key (by decide) hkc hks rfl rfl (by decide) (by decide +kernel) (Nat.le_of_ble_eq_true rfl) rfl ?_
  refine ⟨G, _, _, rfl, hm.fc h1, hg, fun S2 hm2 h2 => ?_⟩
  dsimp only [Option.toList, List.nil_append, List.cons_append]
  refine zr_icmp_eq hC dL_law_419 (tgt := 1061) (by decide) (fun _ => ?_) (fun c => absurd rfl c)
  exact kk S2 G (hc1.fm hg h2) hm2 hg
/-- letter -/
theorem lc_10 {C : zCx} {τ : Nat → ClassId} {ι : Nat → Nat} {kc ks L i : Nat} {xs : Nat → Int32} (hC : zOK C τ room_1 RL cL_law 4) (hX : zSc C ι L xs) (hkc : kc ≤ 600000) (hks : ks ≤ 7302250) (hL : L ≤ 3072) (hi : i + 6 ≤ L) {S : zS} {G : zG} (hc : CG S G) (hm : MG S G) (hg : GI G) (kk : lk C τ ι kc ks i) : zR C τ ι 4 kc ks 424 [(0, .ref 260), (1, .ref 0), (2, .ref 245), (3, .int (nI i))] [] (zcells S) := by
  refine zr_aload_n hC dL_law_424 rfl ?_
  refine zr_aload_n hC dL_law_425 rfl ?_
  refine zr_iload_n hC dL_law_426 rfl ?_
  refine zk_iconst hC dL_law_427 (v := nI 1) (by decide +kernel) ?_
  refine zn_iadd hC dL_law_428 (v := nI (i + 1)) (nI_add i 1) ?_
  refine zl_ld hC hX (i := i + 1) (by omega) hL dL_law_429 ?_
  refine zr_aload_n hC dL_law_430 rfl ?_
  refine zr_iload_n hC dL_law_431 rfl ?_
  refine zk_iconst hC dL_law_432 (v := nI 2) (by decide +kernel) ?_
  refine zn_iadd hC dL_law_433 (v := nI (i + 2)) (nI_add i 2) ?_
  refine zl_ld hC hX (i := i + 2) (by omega) hL dL_law_434 ?_
  refine zl_callV hC (b := 0) [_, _] [] dL_law_435 ml_L_56 mtX8_letter tX8_letter (by decide) hkc hks rfl rfl (by decide) (by decide +kernel) (Nat.le_of_ble_eq_true rfl) rfl ?_
  refine ⟨G, _, _, rfl, hc, hg, fun S1 hc1 h1 => ?_⟩
  dsimp only [Option.toList, List.nil_append, List.cons_append]
  refine zr_aload_n hC dL_law_438 rfl ?_
  refine zr_aload_n hC dL_law_439 rfl ?_
  refine zr_iload_n hC dL_law_440 rfl ?_
  refine zk_iconst hC dL_law_441 (v := nI 1) (by decide +kernel) ?_
  refine zn_iadd hC dL_law_442 (v := nI (i + 1)) (nI_add i 1) ?_
  refine zl_ld hC hX (i := i + 1) (by omega) hL dL_law_443 ?_
  refine zr_aload_n hC dL_law_444 rfl ?_
  refine zr_iload_n hC dL_law_445 rfl ?_
  refine zk_iconst hC dL_law_446 (v := nI 2) (by decide +kernel) ?_
  refine zn_iadd hC dL_law_447 (v := nI (i + 2)) (nI_add i 2) ?_
  refine zl_ld hC hX (i := i + 2) (by omega) hL dL_law_448 ?_
  refine zl_callV hC (b := 245) [_, _] [_] dL_law_449 ml_L_59 mtX9_letter tX9_letter (by decide) hkc hks rfl rfl (by decide) (by decide +kernel) (Nat.le_of_ble_eq_true rfl) rfl ?_
  refine ⟨G, _, _, rfl, hm.fc h1, hg, fun S2 hm2 h2 => ?_⟩
  dsimp only [Option.toList, List.nil_append, List.cons_append]
  refine zr_icmp_eq hC dL_law_452 (tgt := 1061) (by decide) (fun _ => ?_) (fun c => absurd rfl c)
  exact kk S2 G (hc1.fm hg h2) hm2 hg
/-- count -/
theorem lc_11 {C : zCx} {τ : Nat → ClassId} {ι : Nat → Nat} {kc ks L i : Nat} {xs : Nat → Int32} (hC : zOK C τ room_1 RL cL_law 4) (hX : zSc C ι L xs) (hkc : kc ≤ 600000) (hks : ks ≤ 7302250) (hL : L ≤ 3072) (hi : i + 6 ≤ L) {S : zS} {G : zG} (hc : CG S G) (hm : MG S G) (hg : GI G) (kk : lk C τ ι kc ks i) : zR C τ ι 4 kc ks 457 [(0, .ref 260), (1, .ref 0), (2, .ref 245), (3, .int (nI i))] [] (zcells S) := by
  refine zr_aload_n hC dL_law_457 rfl ?_
  refine zr_aload_n hC dL_law_458 rfl ?_
  refine zr_iload_n hC dL_law_459 rfl ?_
  refine zk_iconst hC dL_law_460 (v := nI 1) (by decide +kernel) ?_
  refine zn_iadd hC dL_law_461 (v := nI (i + 1)) (nI_add i 1) ?_
  refine zl_ld hC hX (i := i + 1) (by omega) hL dL_law_462 ?_
  refine zl_callV hC (b := 0) [_] [] dL_law_463 ml_L_60 mtX8_count tX8_count (by decide) hkc hks rfl rfl (by decide) (by decide +kernel) (Nat.le_of_ble_eq_true rfl) rfl ?_
  refine ⟨G, _, rfl, hc, hg, fun S1 hc1 h1 => ?_⟩
  dsimp only [Option.toList, List.nil_append, List.cons_append]
  refine zr_aload_n hC dL_law_466 rfl ?_
  refine zr_aload_n hC dL_law_467 rfl ?_
  refine zr_iload_n hC dL_law_468 rfl ?_
  refine zk_iconst hC dL_law_469 (v := nI 1) (by decide +kernel) ?_
  refine zn_iadd hC dL_law_470 (v := nI (i + 1)) (nI_add i 1) ?_
  refine zl_ld hC hX (i := i + 1) (by omega) hL dL_law_471 ?_
  refine zl_callV hC (b := 245) [_] [_] dL_law_472 ml_L_63 mtX9_count tX9_count (by decide) hkc hks rfl rfl (by decide) (by decide +kernel) (Nat.le_of_ble_eq_true rfl) rfl ?_
  refine ⟨G, _, rfl, hm.fc h1, hg, fun S2 hm2 h2 => ?_⟩
  dsimp only [Option.toList, List.nil_append, List.cons_append]
  refine zr_icmp_eq hC dL_law_475 (tgt := 1061) (by decide) (fun _ => ?_) (fun c => absurd rfl c)
  exact kk S2 G (hc1.fm hg h2) hm2 hg
/-- why -/
theorem lc_12 {C : zCx} {τ : Nat → ClassId} {ι : Nat → Nat} {kc ks L i : Nat} {xs : Nat → Int32} (hC : zOK C τ room_1 RL cL_law 4) (hX : zSc C ι L xs) (hkc : kc ≤ 600000) (hks : ks ≤ 7302250) (hL : L ≤ 3072) (hi : i + 6 ≤ L) {S : zS} {G : zG} (hc : CG S G) (hm : MG S G) (hg : GI G) (kk : lk C τ ι kc ks i) : zR C τ ι 4 kc ks 480 [(0, .ref 260), (1, .ref 0), (2, .ref 245), (3, .int (nI i))] [] (zcells S) := by
  refine zr_aload_n hC dL_law_480 rfl ?_
  refine zr_aload_n hC dL_law_481 rfl ?_
  refine zr_iload_n hC dL_law_482 rfl ?_
  refine zk_iconst hC dL_law_483 (v := nI 1) (by decide +kernel) ?_
  refine zn_iadd hC dL_law_484 (v := nI (i + 1)) (nI_add i 1) ?_
  refine zl_ld hC hX (i := i + 1) (by omega) hL dL_law_485 ?_
  refine zr_aload_n hC dL_law_486 rfl ?_
  refine zr_iload_n hC dL_law_487 rfl ?_
  refine zk_iconst hC dL_law_488 (v := nI 2) (by decide +kernel) ?_
  refine zn_iadd hC dL_law_489 (v := nI (i + 2)) (nI_add i 2) ?_
  refine zl_ld hC hX (i := i + 2) (by omega) hL dL_law_490 ?_
  refine zl_callV hC (b := 0) [_, _] [] dL_law_491 ml_L_64 mtX8_why tX8_why (by decide) hkc hks rfl rfl (by decide) (by decide +kernel) (Nat.le_of_ble_eq_true rfl) rfl ?_
  refine ⟨G, _, _, rfl, hc, hg, fun S1 hc1 h1 => ?_⟩
  dsimp only [Option.toList, List.nil_append, List.cons_append]
  refine zr_aload_n hC dL_law_494 rfl ?_
  refine zr_aload_n hC dL_law_495 rfl ?_
  refine zr_iload_n hC dL_law_496 rfl ?_
  refine zk_iconst hC dL_law_497 (v := nI 1) (by decide +kernel) ?_
  refine zn_iadd hC dL_law_498 (v := nI (i + 1)) (nI_add i 1) ?_
  refine zl_ld hC hX (i := i + 1) (by omega) hL dL_law_499 ?_
  refine zr_aload_n hC dL_law_500 rfl ?_
  refine zr_iload_n hC dL_law_501 rfl ?_
  refine zk_iconst hC dL_law_502 (v := nI 2) (by decide +kernel) ?_
  refine zn_iadd hC dL_law_503 (v := nI (i + 2)) (nI_add i 2) ?_
  refine zl_ld hC hX (i := i + 2) (by omega) hL dL_law_504 ?_
  refine zl_callV hC (b := 245) [_, _] [_] dL_law_505 ml_L_67 mtX9_why tX9_why (by decide) hkc hks rfl rfl (by decide) (by decide +kernel) (Nat.le_of_ble_eq_true rfl) rfl ?_
  refine ⟨G, _, _, rfl, hm.fc h1, hg, fun S2 hm2 h2 => ?_⟩
  dsimp only [Option.toList, List.nil_append, List.cons_append]
  refine zr_icmp_eq hC dL_law_508 (tgt := 1061) (by decide) (fun _ => ?_) (fun c => absurd rfl c)
  exact kk S2 G (hc1.fm hg h2) hm2 hg
/-- opens -/
theorem lc_13 {C : zCx} {τ : Nat → ClassId} {ι : Nat → Nat} {kc ks L i : Nat} {xs : Nat → Int32} (hC : zOK C τ room_1 RL cL_law 4) (hX : zSc C ι L xs) (hkc : kc ≤ 600000) (hks : ks ≤ 7302250) (hL : L ≤ 3072) (hi : i + 6 ≤ L) {S : zS} {G : zG} (hc : CG S G) (hm : MG S G) (hg : GI G) (kk : lk C τ ι kc ks i) : zR C τ ι 4 kc ks 513 [(0, .ref 260), (1, .ref 0), (2, .ref 245), (3, .int (nI i))] [] (zcells S) := by
  refine zr_aload_n hC dL_law_513 rfl ?_
  refine zr_aload_n hC dL_law_514 rfl ?_
  refine zr_iload_n hC dL_law_515 rfl ?_
  refine zk_iconst hC dL_law_516 (v := nI 1) (by decide +kernel) ?_
  refine zn_iadd hC dL_law_517 (v := nI (i + 1)) (nI_add i 1) ?_
  refine zl_ld hC hX (i := i + 1) (by omega) hL dL_law_518 ?_
  refine zr_aload_n hC dL_law_519 rfl ?_
  refine zr_iload_n hC dL_law_520 rfl ?_
  refine zk_iconst hC dL_law_521 (v := nI 2) (by decide +kernel) ?_
  refine zn_iadd hC dL_law_522 (v := nI (i + 2)) (nI_add i 2) ?_
  refine zl_ld hC hX (i := i + 2) (by omega) hL dL_law_523 ?_
  refine zl_callV hC (b := 0) [_, _] [] dL_law_524 ml_L_68 mtX8_opens tX8_opens (by decide) hkc hks rfl rfl (by decide) (by decide +kernel) (Nat.le_of_ble_eq_true rfl) rfl ?_
  refine ⟨G, _, _, rfl, hc, hg, fun S1 hc1 h1 => ?_⟩
  dsimp only [Option.toList, List.nil_append, List.cons_append]
  refine zr_aload_n hC dL_law_527 rfl ?_
  refine zr_aload_n hC dL_law_528 rfl ?_
  refine zr_iload_n hC dL_law_529 rfl ?_
  refine zk_iconst hC dL_law_530 (v := nI 1) (by decide +kernel) ?_
  refine zn_iadd hC dL_law_531 (v := nI (i + 1)) (nI_add i 1) ?_
  refine zl_ld hC hX (i := i + 1) (by omega) hL dL_law_532 ?_
  refine zr_aload_n hC dL_law_533 rfl ?_
  refine zr_iload_n hC dL_law_534 rfl ?_
  refine zk_iconst hC dL_law_535 (v := nI 2) (by decide +kernel) ?_
  refine zn_iadd hC dL_law_536 (v := nI (i + 2)) (nI_add i 2) ?_
  refine zl_ld hC hX (i := i + 2) (by omega) hL dL_law_537 ?_
  refine zl_callV hC (b := 245) [_, _] [_] dL_law_538 ml_L_71 mtX9_opens tX9_opens (by decide) hkc hks rfl rfl (by decide) (by decide +kernel) (Nat.le_of_ble_eq_true rfl) rfl ?_
  refine ⟨G, _, _, rfl, hm.fc h1, hg, fun S2 hm2 h2 => ?_⟩
  dsimp only [Option.toList, List.nil_append, List.cons_append]
  refine zr_icmp_eq hC dL_law_541 (tgt := 1061) (by decide) (fun _ => ?_) (fun c => absurd rfl c)
  exact kk S2 G (hc1.fm hg h2) hm2 hg
/-- due -/
theorem lc_14 {C : zCx} {τ : Nat → ClassId} {ι : Nat → Nat} {kc ks L i : Nat} {xs : Nat → Int32} (hC : zOK C τ room_1 RL cL_law 4) (hX : zSc C ι L xs) (hkc : kc ≤ 600000) (hks : ks ≤ 7302250) (hL : L ≤ 3072) (hi : i + 6 ≤ L) {S : zS} {G : zG} (hc : CG S G) (hm : MG S G) (hg : GI G) (kk : lk C τ ι kc ks i) : zR C τ ι 4 kc ks 546 [(0, .ref 260), (1, .ref 0), (2, .ref 245), (3, .int (nI i))] [] (zcells S) := by
  refine zr_aload_n hC dL_law_546 rfl ?_
  refine zr_aload_n hC dL_law_547 rfl ?_
  refine zr_iload_n hC dL_law_548 rfl ?_
  refine zk_iconst hC dL_law_549 (v := nI 1) (by decide +kernel) ?_
  refine zn_iadd hC dL_law_550 (v := nI (i + 1)) (nI_add i 1) ?_
  refine zl_ld hC hX (i := i + 1) (by omega) hL dL_law_551 ?_
  refine zl_callV hC (b := 0) [_] [] dL_law_552 ml_L_72 mtX8_due tX8_due (by decide) hkc hks rfl rfl (by decide) (by decide +kernel) (Nat.le_of_ble_eq_true rfl) rfl ?_
  refine ⟨G, _, rfl, hc, hg, fun S1 hc1 h1 => ?_⟩
  dsimp only [Option.toList, List.nil_append, List.cons_append]
  refine zr_aload_n hC dL_law_555 rfl ?_
  refine zr_aload_n hC dL_law_556 rfl ?_
  refine zr_iload_n hC dL_law_557 rfl ?_
  refine zk_iconst hC dL_law_558 (v := nI 1) (by decide +kernel) ?_
  refine zn_iadd hC dL_law_559 (v := nI (i + 1)) (nI_add i 1) ?_
  refine zl_ld hC hX (i := i + 1) (by omega) hL dL_law_560 ?_
  refine zl_callV hC (b := 245) [_] [_] dL_law_561 ml_L_75 mtX9_due tX9_due (by decide) hkc hks rfl rfl (by decide) (by decide +kernel) (Nat.le_of_ble_eq_true rfl) rfl ?_
  refine ⟨G, _, rfl, hm.fc h1, hg, fun S2 hm2 h2 => ?_⟩
  dsimp only [Option.toList, List.nil_append, List.cons_append]
  refine zr_icmp_eq hC dL_law_564 (tgt := 1061) (by decide) (fun _ => ?_) (fun c => absurd rfl c)
  exact kk S2 G (hc1.fm hg h2) hm2 hg
