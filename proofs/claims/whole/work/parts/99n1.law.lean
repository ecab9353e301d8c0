/-! THE LAW, 2: cases 0, 1, 2, 3 -/
theorem dL_law_176 : decode cL_law 176 = .ok (.aload_n 1, 1) := by decide +kernel
theorem dL_law_177 : decode cL_law 177 = .ok (.aload_n 0, 1) := by decide +kernel
theorem dL_law_178 : decode cL_law 178 = .ok (.iload 4, 2) := by decide +kernel
theorem dL_law_180 : decode cL_law 180 = .ok (.iconst 1, 1) := by decide +kernel
theorem dL_law_181 : decode cL_law 181 = .ok (.iadd, 1) := by decide +kernel
theorem dL_law_182 : decode cL_law 182 = .ok (.iaload, 1) := by decide +kernel
theorem dL_law_183 : decode cL_law 183 = .ok (.aload_n 0, 1) := by decide +kernel
theorem dL_law_184 : decode cL_law 184 = .ok (.iload 4, 2) := by decide +kernel
theorem dL_law_186 : decode cL_law 186 = .ok (.iconst 2, 1) := by decide +kernel
theorem dL_law_187 : decode cL_law 187 = .ok (.iadd, 1) := by decide +kernel
theorem dL_law_188 : decode cL_law 188 = .ok (.iaload, 1) := by decide +kernel
theorem dL_law_189 : decode cL_law 189 = .ok (.aload_n 0, 1) := by decide +kernel
theorem dL_law_190 : decode cL_law 190 = .ok (.iload 4, 2) := by decide +kernel
theorem dL_law_192 : decode cL_law 192 = .ok (.iconst 3, 1) := by decide +kernel
theorem dL_law_193 : decode cL_law 193 = .ok (.iadd, 1) := by decide +kernel
theorem dL_law_194 : decode cL_law 194 = .ok (.iaload, 1) := by decide +kernel
theorem dL_law_195 : decode cL_law 195 = .ok (.aload_n 0, 1) := by decide +kernel
theorem dL_law_196 : decode cL_law 196 = .ok (.iload 4, 2) := by decide +kernel
theorem dL_law_198 : decode cL_law 198 = .ok (.iconst 4, 1) := by decide +kernel
theorem dL_law_199 : decode cL_law 199 = .ok (.iadd, 1) := by decide +kernel
theorem dL_law_200 : decode cL_law 200 = .ok (.iaload, 1) := by decide +kernel
theorem dL_law_201 : decode cL_law 201 = .ok (.aload_n 0, 1) := by decide +kernel
theorem dL_law_202 : decode cL_law 202 = .ok (.iload 4, 2) := by decide +kernel
theorem dL_law_204 : decode cL_law 204 = .ok (.iconst 5, 1) := by decide +kernel
theorem dL_law_205 : decode cL_law 205 = .ok (.iadd, 1) := by decide +kernel
theorem dL_law_206 : decode cL_law 206 = .ok (.iaload, 1) := by decide +kernel
theorem dL_law_207 : decode cL_law 207 = .ok (.invokevirtual 21, 3) := by decide +kernel
theorem dL_law_210 : decode cL_law 210 = .ok (.aload_n 2, 1) := by decide +kernel
theorem dL_law_211 : decode cL_law 211 = .ok (.aload_n 0, 1) := by decide +kernel
theorem dL_law_212 : decode cL_law 212 = .ok (.iload 4, 2) := by decide +kernel
theorem dL_law_214 : decode cL_law 214 = .ok (.iconst 1, 1) := by decide +kernel
theorem dL_law_215 : decode cL_law 215 = .ok (.iadd, 1) := by decide +kernel
theorem dL_law_216 : decode cL_law 216 = .ok (.iaload, 1) := by decide +kernel
theorem dL_law_217 : decode cL_law 217 = .ok (.aload_n 0, 1) := by decide +kernel
theorem dL_law_218 : decode cL_law 218 = .ok (.iload 4, 2) := by decide +kernel
theorem dL_law_220 : decode cL_law 220 = .ok (.iconst 2, 1) := by decide +kernel
theorem dL_law_221 : decode cL_law 221 = .ok (.iadd, 1) := by decide +kernel
theorem dL_law_222 : decode cL_law 222 = .ok (.iaload, 1) := by decide +kernel
theorem dL_law_223 : decode cL_law 223 = .ok (.aload_n 0, 1) := by decide +kernel
theorem dL_law_224 : decode cL_law 224 = .ok (.iload 4, 2) := by decide +kernel
theorem dL_law_226 : decode cL_law 226 = .ok (.iconst 3, 1) := by decide +kernel
theorem dL_law_227 : decode cL_law 227 = .ok (.iadd, 1) := by decide +kernel
theorem dL_law_228 : decode cL_law 228 = .ok (.iaload, 1) := by decide +kernel
theorem dL_law_229 : decode cL_law 229 = .ok (.aload_n 0, 1) := by decide +kernel
theorem dL_law_230 : decode cL_law 230 = .ok (.iload 4, 2) := by decide +kernel
theorem dL_law_232 : decode cL_law 232 = .ok (.iconst 4, 1) := by decide +kernel
theorem dL_law_233 : decode cL_law 233 = .ok (.iadd, 1) := by decide +kernel
theorem dL_law_234 : decode cL_law 234 = .ok (.iaload, 1) := by decide +kernel
theorem dL_law_235 : decode cL_law 235 = .ok (.aload_n 0, 1) := by decide +kernel
theorem dL_law_236 : decode cL_law 236 = .ok (.iload 4, 2) := by decide +kernel
theorem dL_law_238 : decode cL_law 238 = .ok (.iconst 5, 1) := by decide +kernel
theorem dL_law_239 : decode cL_law 239 = .ok (.iadd, 1) := by decide +kernel
theorem dL_law_240 : decode cL_law 240 = .ok (.iaload, 1) := by decide +kernel
theorem dL_law_241 : decode cL_law 241 = .ok (.invokevirtual 25, 3) := by decide +kernel
theorem dL_law_244 : decode cL_law 244 = .ok (.if_icmp .eq 858, 3) := by decide +kernel
set_option maxHeartbeats 4000000 in
set_option maxRecDepth 100000 in
theorem lc_0 {E : xE} {u : Nat × Nat} {i : Int} {h : Hp} (hu : u.1 + 1 ≤ 601024 ∧ u.2 + 6 ≤ 7293034) (ib : lwB E i) (inv : lwI h) (kT : ∀ h9 : Hp, lwI h9 → X E mL_law 1312 (601024, 7293034) (u.1 + 1, u.2 + 6) 1102 (lwL i) [] h9 lwQ) : X E mL_law 1312 (601024, 7293034) u 176 (lwL i) [] h lwQ := by
  have hv : u.1 ≤ 601024 ∧ u.2 ≤ 7293034 := ⟨Nat.le_of_succ_le hu.1, Nat.le_trans (Nat.le_add_right _ 6) hu.2⟩
  obtain ⟨hL, c, σ, w, q, r, kk⟩ := inv
  refine x_aload_n (i := 1) (b := 177) dL_law_176 rfl rfl rfl ?_
  refine x_aload_n (i := 0) (b := 178) dL_law_177 rfl rfl rfl ?_
  refine x_iload (i := 4) (b := 180) dL_law_178 rfl rfl ?_
  refine x_iconst (n := 1) (b := 181) dL_law_180 (by decide) rfl ?_
  refine x_iadd (b := 182) dL_law_181 (ib 1 (by decide) (by decide)).1 rfl ?_
  refine x_sld (b := 183) dL_law_182 (ib 1 (by decide) (by decide)).2 rfl ?_
  refine x_aload_n (i := 0) (b := 184) dL_law_183 rfl rfl rfl ?_
  refine x_iload (i := 4) (b := 186) dL_law_184 rfl rfl ?_
  refine x_iconst (n := 2) (b := 187) dL_law_186 (by decide) rfl ?_
  refine x_iadd (b := 188) dL_law_187 (ib 2 (by decide) (by decide)).1 rfl ?_
  refine x_sld (b := 189) dL_law_188 (ib 2 (by decide) (by decide)).2 rfl ?_
  refine x_aload_n (i := 0) (b := 190) dL_law_189 rfl rfl rfl ?_
  refine x_iload (i := 4) (b := 192) dL_law_190 rfl rfl ?_
  refine x_iconst (n := 3) (b := 193) dL_law_192 (by decide) rfl ?_
  refine x_iadd (b := 194) dL_law_193 (ib 3 (by decide) (by decide)).1 rfl ?_
  refine x_sld (b := 195) dL_law_194 (ib 3 (by decide) (by decide)).2 rfl ?_
  refine x_aload_n (i := 0) (b := 196) dL_law_195 rfl rfl rfl ?_
  refine x_iload (i := 4) (b := 198) dL_law_196 rfl rfl ?_
  refine x_iconst (n := 4) (b := 199) dL_law_198 (by decide) rfl ?_
  refine x_iadd (b := 200) dL_law_199 (ib 4 (by decide) (by decide)).1 rfl ?_
  refine x_sld (b := 201) dL_law_200 (ib 4 (by decide) (by decide)).2 rfl ?_
  refine x_aload_n (i := 0) (b := 202) dL_law_201 rfl rfl rfl ?_
  refine x_iload (i := 4) (b := 204) dL_law_202 rfl rfl ?_
  refine x_iconst (n := 5) (b := 205) dL_law_204 (by decide) rfl ?_
  refine x_iadd (b := 206) dL_law_205 (ib 5 (by decide) (by decide)).1 rfl ?_
  refine x_sld (b := 207) dL_law_206 (ib 5 (by decide) (by decide)).2 rfl ?_
  obtain ⟨a, σ2, w2, ⟨v1, h1, e1, a1, ⟨c2, q2⟩, fx⟩, kR⟩ := @agr_feed (wsc E.1 (i + 1).toNat) (wsc E.1 (i + 2).toNat) (wsc E.1 (i + 3).toNat) (wsc E.1 (i + 4).toNat) (wsc E.1 (i + 5).toNat) h c σ w q
  refine x_callV (as := [xi (wsc E.1 (i + 1).toNat), xi (wsc E.1 (i + 2).toNat), xi (wsc E.1 (i + 3).toNat), xi (wsc E.1 (i + 4).toNat), xi (wsc E.1 (i + 5).toNat)]) (rest := []) (b := 210) (c_X11_feed 1309 (wsc E.1 (i + 1).toNat) (wsc E.1 (i + 2).toNat) (wsc E.1 (i + 3).toNat) (wsc E.1 (i + 4).toNat) (wsc E.1 (i + 5).toNat) h _ hL e1) dL_law_207 cw_L_21 ⟨_, _, rfl, Nat.le_of_ble_eq_true rfl⟩ rfl rfl (Nat.le_of_ble_eq_true rfl) ⟨hv.1, hv.2⟩ rfl (fun rv hh hp _ => ?_)
  obtain ⟨rfl, rfl, hL⟩ := hp
  refine x_aload_n (i := 2) (b := 211) dL_law_210 rfl rfl rfl ?_
  refine x_aload_n (i := 0) (b := 212) dL_law_211 rfl rfl rfl ?_
  refine x_iload (i := 4) (b := 214) dL_law_212 rfl rfl ?_
  refine x_iconst (n := 1) (b := 215) dL_law_214 (by decide) rfl ?_
  refine x_iadd (b := 216) dL_law_215 (ib 1 (by decide) (by decide)).1 rfl ?_
  refine x_sld (b := 217) dL_law_216 (ib 1 (by decide) (by decide)).2 rfl ?_
  refine x_aload_n (i := 0) (b := 218) dL_law_217 rfl rfl rfl ?_
  refine x_iload (i := 4) (b := 220) dL_law_218 rfl rfl ?_
  refine x_iconst (n := 2) (b := 221) dL_law_220 (by decide) rfl ?_
  refine x_iadd (b := 222) dL_law_221 (ib 2 (by decide) (by decide)).1 rfl ?_
  refine x_sld (b := 223) dL_law_222 (ib 2 (by decide) (by decide)).2 rfl ?_
  refine x_aload_n (i := 0) (b := 224) dL_law_223 rfl rfl rfl ?_
  refine x_iload (i := 4) (b := 226) dL_law_224 rfl rfl ?_
  refine x_iconst (n := 3) (b := 227) dL_law_226 (by decide) rfl ?_
  refine x_iadd (b := 228) dL_law_227 (ib 3 (by decide) (by decide)).1 rfl ?_
  refine x_sld (b := 229) dL_law_228 (ib 3 (by decide) (by decide)).2 rfl ?_
  refine x_aload_n (i := 0) (b := 230) dL_law_229 rfl rfl rfl ?_
  refine x_iload (i := 4) (b := 232) dL_law_230 rfl rfl ?_
  refine x_iconst (n := 4) (b := 233) dL_law_232 (by decide) rfl ?_
  refine x_iadd (b := 234) dL_law_233 (ib 4 (by decide) (by decide)).1 rfl ?_
  refine x_sld (b := 235) dL_law_234 (ib 4 (by decide) (by decide)).2 rfl ?_
  refine x_aload_n (i := 0) (b := 236) dL_law_235 rfl rfl rfl ?_
  refine x_iload (i := 4) (b := 238) dL_law_236 rfl rfl ?_
  refine x_iconst (n := 5) (b := 239) dL_law_238 (by decide) rfl ?_
  refine x_iadd (b := 240) dL_law_239 (ib 5 (by decide) (by decide)).1 rfl ?_
  refine x_sld (b := 241) dL_law_240 (ib 5 (by decide) (by decide)).2 rfl ?_
  obtain ⟨v2, h2, e2, a2, r2, f2⟩ := kR h1 (IR_cl w fx r)
  refine x_callV (as := [xi (wsc E.1 (i + 1).toNat), xi (wsc E.1 (i + 2).toNat), xi (wsc E.1 (i + 3).toNat), xi (wsc E.1 (i + 4).toNat), xi (wsc E.1 (i + 5).toNat)]) (rest := [xi v1]) (b := 244) (c_X12_feed 1310 (wsc E.1 (i + 1).toNat) (wsc E.1 (i + 2).toNat) (wsc E.1 (i + 3).toNat) (wsc E.1 (i + 4).toNat) (wsc E.1 (i + 5).toNat) h1 _ hL e2) dL_law_241 cw_L_25 ⟨_, _, rfl, Nat.le_of_ble_eq_true rfl⟩ rfl rfl (Nat.le_of_ble_eq_true rfl) ⟨hv.1, hv.2⟩ rfl (fun rv hh hp _ => ?_)
  obtain ⟨rfl, rfl, hL⟩ := hp
  refine x_icmp_eq (tgt := 1102) (b := 247) dL_law_244 (by decide) rfl (fun _ => ?_) (fun hc => absurd (a1.trans a2.symm) hc)
  exact x_wd (Nat.le_succ u.1) (Nat.le_add_right u.2 6) (kT h2 (lw_nx w2 q2 fx r2 f2 kk hL))
theorem dL_law_249 : decode cL_law 249 = .ok (.aload_n 1, 1) := by decide +kernel
theorem dL_law_250 : decode cL_law 250 = .ok (.aload_n 0, 1) := by decide +kernel
theorem dL_law_251 : decode cL_law 251 = .ok (.iload 4, 2) := by decide +kernel
theorem dL_law_253 : decode cL_law 253 = .ok (.iconst 1, 1) := by decide +kernel
theorem dL_law_254 : decode cL_law 254 = .ok (.iadd, 1) := by decide +kernel
theorem dL_law_255 : decode cL_law 255 = .ok (.iaload, 1) := by decide +kernel
theorem dL_law_256 : decode cL_law 256 = .ok (.invokevirtual 26, 3) := by decide +kernel
theorem dL_law_259 : decode cL_law 259 = .ok (.aload_n 2, 1) := by decide +kernel
theorem dL_law_260 : decode cL_law 260 = .ok (.aload_n 0, 1) := by decide +kernel
theorem dL_law_261 : decode cL_law 261 = .ok (.iload 4, 2) := by decide +kernel
theorem dL_law_263 : decode cL_law 263 = .ok (.iconst 1, 1) := by decide +kernel
theorem dL_law_264 : decode cL_law 264 = .ok (.iadd, 1) := by decide +kernel
theorem dL_law_265 : decode cL_law 265 = .ok (.iaload, 1) := by decide +kernel
theorem dL_law_266 : decode cL_law 266 = .ok (.invokevirtual 30, 3) := by decide +kernel
theorem dL_law_269 : decode cL_law 269 = .ok (.if_icmp .eq 833, 3) := by decide +kernel
set_option maxHeartbeats 4000000 in
set_option maxRecDepth 100000 in
theorem lc_1 {E : xE} {u : Nat × Nat} {i : Int} {h : Hp} (hu : u.1 + 1 ≤ 601024 ∧ u.2 + 6 ≤ 7293034) (ib : lwB E i) (inv : lwI h) (kT : ∀ h9 : Hp, lwI h9 → X E mL_law 1312 (601024, 7293034) (u.1 + 1, u.2 + 6) 1102 (lwL i) [] h9 lwQ) : X E mL_law 1312 (601024, 7293034) u 249 (lwL i) [] h lwQ := by
  have hv : u.1 ≤ 601024 ∧ u.2 ≤ 7293034 := ⟨Nat.le_of_succ_le hu.1, Nat.le_trans (Nat.le_add_right _ 6) hu.2⟩
  obtain ⟨hL, c, σ, w, q, r, kk⟩ := inv
  refine x_aload_n (i := 1) (b := 250) dL_law_249 rfl rfl rfl ?_
  refine x_aload_n (i := 0) (b := 251) dL_law_250 rfl rfl rfl ?_
  refine x_iload (i := 4) (b := 253) dL_law_251 rfl rfl ?_
  refine x_iconst (n := 1) (b := 254) dL_law_253 (by decide) rfl ?_
  refine x_iadd (b := 255) dL_law_254 (ib 1 (by decide) (by decide)).1 rfl ?_
  refine x_sld (b := 256) dL_law_255 (ib 1 (by decide) (by decide)).2 rfl ?_
  obtain ⟨a, σ2, w2, ⟨v1, h1, e1, a1, ⟨c2, q2⟩, fx⟩, kR⟩ := @agr_text (wsc E.1 (i + 1).toNat) h c σ w q kk
  refine x_callV (as := [xi (wsc E.1 (i + 1).toNat)]) (rest := []) (b := 259) (c_X11_text 1303 (wsc E.1 (i + 1).toNat) h _ hL e1) dL_law_256 cw_L_26 ⟨_, _, rfl, Nat.le_of_ble_eq_true rfl⟩ rfl rfl (Nat.le_of_ble_eq_true rfl) ⟨hv.1, hv.2⟩ rfl (fun rv hh hp _ => ?_)
  obtain ⟨rfl, rfl, hL⟩ := hp
  refine x_aload_n (i := 2) (b := 260) dL_law_259 rfl rfl rfl ?_
  refine x_aload_n (i := 0) (b := 261) dL_law_260 rfl rfl rfl ?_
  refine x_iload (i := 4) (b := 263) dL_law_261 rfl rfl ?_
  refine x_iconst (n := 1) (b := 264) dL_law_263 (by decide) rfl ?_
  refine x_iadd (b := 265) dL_law_264 (ib 1 (by decide) (by decide)).1 rfl ?_
  refine x_sld (b := 266) dL_law_265 (ib 1 (by decide) (by decide)).2 rfl ?_
  obtain ⟨v2, h2, e2, a2, r2, f2⟩ := kR h1 (IR_cl w fx r)
  refine x_callV (as := [xi (wsc E.1 (i + 1).toNat)]) (rest := [xi v1]) (b := 269) (c_X12_text 301 (wsc E.1 (i + 1).toNat) h1 _ hL e2) dL_law_266 cw_L_30 ⟨_, _, rfl, Nat.le_of_ble_eq_true rfl⟩ rfl rfl (Nat.le_of_ble_eq_true rfl) ⟨hv.1, hv.2⟩ rfl (fun rv hh hp _ => ?_)
  obtain ⟨rfl, rfl, hL⟩ := hp
  refine x_icmp_eq (tgt := 1102) (b := 272) dL_law_269 (by decide) rfl (fun _ => ?_) (fun hc => absurd (a1.trans a2.symm) hc)
  exact x_wd (Nat.le_succ u.1) (Nat.le_add_right u.2 6) (kT h2 (lw_nx w2 q2 fx r2 f2 kk hL))
theorem dL_law_274 : decode cL_law 274 = .ok (.aload_n 1, 1) := by decide +kernel
theorem dL_law_275 : decode cL_law 275 = .ok (.aload_n 0, 1) := by decide +kernel
theorem dL_law_276 : decode cL_law 276 = .ok (.iload 4, 2) := by decide +kernel
theorem dL_law_278 : decode cL_law 278 = .ok (.iconst 1, 1) := by decide +kernel
theorem dL_law_279 : decode cL_law 279 = .ok (.iadd, 1) := by decide +kernel
theorem dL_law_280 : decode cL_law 280 = .ok (.iaload, 1) := by decide +kernel
theorem dL_law_281 : decode cL_law 281 = .ok (.invokevirtual 31, 3) := by decide +kernel
theorem dL_law_284 : decode cL_law 284 = .ok (.aload_n 2, 1) := by decide +kernel
theorem dL_law_285 : decode cL_law 285 = .ok (.aload_n 0, 1) := by decide +kernel
theorem dL_law_286 : decode cL_law 286 = .ok (.iload 4, 2) := by decide +kernel
theorem dL_law_288 : decode cL_law 288 = .ok (.iconst 1, 1) := by decide +kernel
theorem dL_law_289 : decode cL_law 289 = .ok (.iadd, 1) := by decide +kernel
theorem dL_law_290 : decode cL_law 290 = .ok (.iaload, 1) := by decide +kernel
theorem dL_law_291 : decode cL_law 291 = .ok (.invokevirtual 34, 3) := by decide +kernel
theorem dL_law_294 : decode cL_law 294 = .ok (.if_icmp .eq 808, 3) := by decide +kernel
set_option maxHeartbeats 4000000 in
set_option maxRecDepth 100000 in
theorem lc_2 {E : xE} {u : Nat × Nat} {i : Int} {h : Hp} (hu : u.1 + 1 ≤ 601024 ∧ u.2 + 6 ≤ 7293034) (ib : lwB E i) (inv : lwI h) (kT : ∀ h9 : Hp, lwI h9 → X E mL_law 1312 (601024, 7293034) (u.1 + 1, u.2 + 6) 1102 (lwL i) [] h9 lwQ) : X E mL_law 1312 (601024, 7293034) u 274 (lwL i) [] h lwQ := by
  have hv : u.1 ≤ 601024 ∧ u.2 ≤ 7293034 := ⟨Nat.le_of_succ_le hu.1, Nat.le_trans (Nat.le_add_right _ 6) hu.2⟩
  obtain ⟨hL, c, σ, w, q, r, kk⟩ := inv
  refine x_aload_n (i := 1) (b := 275) dL_law_274 rfl rfl rfl ?_
  refine x_aload_n (i := 0) (b := 276) dL_law_275 rfl rfl rfl ?_
  refine x_iload (i := 4) (b := 278) dL_law_276 rfl rfl ?_
  refine x_iconst (n := 1) (b := 279) dL_law_278 (by decide) rfl ?_
  refine x_iadd (b := 280) dL_law_279 (ib 1 (by decide) (by decide)).1 rfl ?_
  refine x_sld (b := 281) dL_law_280 (ib 1 (by decide) (by decide)).2 rfl ?_
  obtain ⟨a, σ2, w2, ⟨v1, h1, e1, a1, ⟨c2, q2⟩, fx⟩, kR⟩ := @agr_fault (wsc E.1 (i + 1).toNat) h c σ w q
  refine x_callV (as := [xi (wsc E.1 (i + 1).toNat)]) (rest := []) (b := 284) (c_X11_fault 1310 (wsc E.1 (i + 1).toNat) h _ hL e1) dL_law_281 cw_L_31 ⟨_, _, rfl, Nat.le_of_ble_eq_true rfl⟩ rfl rfl (Nat.le_of_ble_eq_true rfl) ⟨hv.1, hv.2⟩ rfl (fun rv hh hp _ => ?_)
  obtain ⟨rfl, rfl, hL⟩ := hp
  refine x_aload_n (i := 2) (b := 285) dL_law_284 rfl rfl rfl ?_
  refine x_aload_n (i := 0) (b := 286) dL_law_285 rfl rfl rfl ?_
  refine x_iload (i := 4) (b := 288) dL_law_286 rfl rfl ?_
  refine x_iconst (n := 1) (b := 289) dL_law_288 (by decide) rfl ?_
  refine x_iadd (b := 290) dL_law_289 (ib 1 (by decide) (by decide)).1 rfl ?_
  refine x_sld (b := 291) dL_law_290 (ib 1 (by decide) (by decide)).2 rfl ?_
  obtain ⟨v2, h2, e2, a2, r2, f2⟩ := kR h1 (IR_cl w fx r)
  refine x_callV (as := [xi (wsc E.1 (i + 1).toNat)]) (rest := [xi v1]) (b := 294) (c_X12_fault 1310 (wsc E.1 (i + 1).toNat) h1 _ hL e2) dL_law_291 cw_L_34 ⟨_, _, rfl, Nat.le_of_ble_eq_true rfl⟩ rfl rfl (Nat.le_of_ble_eq_true rfl) ⟨hv.1, hv.2⟩ rfl (fun rv hh hp _ => ?_)
  obtain ⟨rfl, rfl, hL⟩ := hp
  refine x_icmp_eq (tgt := 1102) (b := 297) dL_law_294 (by decide) rfl (fun _ => ?_) (fun hc => absurd (a1.trans a2.symm) hc)
  exact x_wd (Nat.le_succ u.1) (Nat.le_add_right u.2 6) (kT h2 (lw_nx w2 q2 fx r2 f2 kk hL))
theorem dL_law_299 : decode cL_law 299 = .ok (.aload_n 1, 1) := by decide +kernel
theorem dL_law_300 : decode cL_law 300 = .ok (.aload_n 0, 1) := by decide +kernel
theorem dL_law_301 : decode cL_law 301 = .ok (.iload 4, 2) := by decide +kernel
theorem dL_law_303 : decode cL_law 303 = .ok (.iconst 1, 1) := by decide +kernel
theorem dL_law_304 : decode cL_law 304 = .ok (.iadd, 1) := by decide +kernel
theorem dL_law_305 : decode cL_law 305 = .ok (.iaload, 1) := by decide +kernel
theorem dL_law_306 : decode cL_law 306 = .ok (.aload_n 0, 1) := by decide +kernel
theorem dL_law_307 : decode cL_law 307 = .ok (.iload 4, 2) := by decide +kernel
theorem dL_law_309 : decode cL_law 309 = .ok (.iconst 2, 1) := by decide +kernel
theorem dL_law_310 : decode cL_law 310 = .ok (.iadd, 1) := by decide +kernel
theorem dL_law_311 : decode cL_law 311 = .ok (.iaload, 1) := by decide +kernel
theorem dL_law_312 : decode cL_law 312 = .ok (.invokevirtual 35, 3) := by decide +kernel
theorem dL_law_315 : decode cL_law 315 = .ok (.aload_n 2, 1) := by decide +kernel
theorem dL_law_316 : decode cL_law 316 = .ok (.aload_n 0, 1) := by decide +kernel
theorem dL_law_317 : decode cL_law 317 = .ok (.iload 4, 2) := by decide +kernel
theorem dL_law_319 : decode cL_law 319 = .ok (.iconst 1, 1) := by decide +kernel
theorem dL_law_320 : decode cL_law 320 = .ok (.iadd, 1) := by decide +kernel
theorem dL_law_321 : decode cL_law 321 = .ok (.iaload, 1) := by decide +kernel
theorem dL_law_322 : decode cL_law 322 = .ok (.aload_n 0, 1) := by decide +kernel
theorem dL_law_323 : decode cL_law 323 = .ok (.iload 4, 2) := by decide +kernel
theorem dL_law_325 : decode cL_law 325 = .ok (.iconst 2, 1) := by decide +kernel
theorem dL_law_326 : decode cL_law 326 = .ok (.iadd, 1) := by decide +kernel
theorem dL_law_327 : decode cL_law 327 = .ok (.iaload, 1) := by decide +kernel
theorem dL_law_328 : decode cL_law 328 = .ok (.invokevirtual 38, 3) := by decide +kernel
theorem dL_law_331 : decode cL_law 331 = .ok (.if_icmp .eq 771, 3) := by decide +kernel
set_option maxHeartbeats 4000000 in
set_option maxRecDepth 100000 in
theorem lc_3 {E : xE} {u : Nat × Nat} {i : Int} {h : Hp} (hu : u.1 + 1 ≤ 601024 ∧ u.2 + 6 ≤ 7293034) (ib : lwB E i) (inv : lwI h) (kT : ∀ h9 : Hp, lwI h9 → X E mL_law 1312 (601024, 7293034) (u.1 + 1, u.2 + 6) 1102 (lwL i) [] h9 lwQ) : X E mL_law 1312 (601024, 7293034) u 299 (lwL i) [] h lwQ := by
  have hv : u.1 ≤ 601024 ∧ u.2 ≤ 7293034 := ⟨Nat.le_of_succ_le hu.1, Nat.le_trans (Nat.le_add_right _ 6) hu.2⟩
  obtain ⟨hL, c, σ, w, q, r, kk⟩ := inv
  refine x_aload_n (i := 1) (b := 300) dL_law_299 rfl rfl rfl ?_
  refine x_aload_n (i := 0) (b := 301) dL_law_300 rfl rfl rfl ?_
  refine x_iload (i := 4) (b := 303) dL_law_301 rfl rfl ?_
  refine x_iconst (n := 1) (b := 304) dL_law_303 (by decide) rfl ?_
  refine x_iadd (b := 305) dL_law_304 (ib 1 (by decide) (by decide)).1 rfl ?_
  refine x_sld (b := 306) dL_law_305 (ib 1 (by decide) (by decide)).2 rfl ?_
  refine x_aload_n (i := 0) (b := 307) dL_law_306 rfl rfl rfl ?_
  refine x_iload (i := 4) (b := 309) dL_law_307 rfl rfl ?_
  refine x_iconst (n := 2) (b := 310) dL_law_309 (by decide) rfl ?_
  refine x_iadd (b := 311) dL_law_310 (ib 2 (by decide) (by decide)).1 rfl ?_
  refine x_sld (b := 312) dL_law_311 (ib 2 (by decide) (by decide)).2 rfl ?_
  obtain ⟨a, σ2, w2, ⟨v1, h1, e1, a1, ⟨c2, q2⟩, fx⟩, kR⟩ := @agr_named (wsc E.1 (i + 1).toNat) (wsc E.1 (i + 2).toNat) h c σ w q
  refine x_callV (as := [xi (wsc E.1 (i + 1).toNat), xi (wsc E.1 (i + 2).toNat)]) (rest := []) (b := 315) (c_X11_named 1308 (wsc E.1 (i + 1).toNat) (wsc E.1 (i + 2).toNat) h _ hL e1) dL_law_312 cw_L_35 ⟨_, _, rfl, Nat.le_of_ble_eq_true rfl⟩ rfl rfl (Nat.le_of_ble_eq_true rfl) ⟨hv.1, hv.2⟩ rfl (fun rv hh hp _ => ?_)
  obtain ⟨rfl, rfl, hL⟩ := hp
  refine x_aload_n (i := 2) (b := 316) dL_law_315 rfl rfl rfl ?_
  refine x_aload_n (i := 0) (b := 317) dL_law_316 rfl rfl rfl ?_
  refine x_iload (i := 4) (b := 319) dL_law_317 rfl rfl ?_
  refine x_iconst (n := 1) (b := 320) dL_law_319 (by decide) rfl ?_
  refine x_iadd (b := 321) dL_law_320 (ib 1 (by decide) (by decide)).1 rfl ?_
  refine x_sld (b := 322) dL_law_321 (ib 1 (by decide) (by decide)).2 rfl ?_
  refine x_aload_n (i := 0) (b := 323) dL_law_322 rfl rfl rfl ?_
  refine x_iload (i := 4) (b := 325) dL_law_323 rfl rfl ?_
  refine x_iconst (n := 2) (b := 326) dL_law_325 (by decide) rfl ?_
  refine x_iadd (b := 327) dL_law_326 (ib 2 (by decide) (by decide)).1 rfl ?_
  refine x_sld (b := 328) dL_law_327 (ib 2 (by decide) (by decide)).2 rfl ?_
  obtain ⟨v2, h2, e2, a2, r2, f2⟩ := kR h1 (IR_cl w fx r)
  refine x_callV (as := [xi (wsc E.1 (i + 1).toNat), xi (wsc E.1 (i + 2).toNat)]) (rest := [xi v1]) (b := 331) (c_X12_named 1309 (wsc E.1 (i + 1).toNat) (wsc E.1 (i + 2).toNat) h1 _ hL e2) dL_law_328 cw_L_38 ⟨_, _, rfl, Nat.le_of_ble_eq_true rfl⟩ rfl rfl (Nat.le_of_ble_eq_true rfl) ⟨hv.1, hv.2⟩ rfl (fun rv hh hp _ => ?_)
  obtain ⟨rfl, rfl, hL⟩ := hp
  refine x_icmp_eq (tgt := 1102) (b := 334) dL_law_331 (by decide) rfl (fun _ => ?_) (fun hc => absurd (a1.trans a2.symm) hc)
  exact x_wd (Nat.le_succ u.1) (Nat.le_add_right u.2 6) (kT h2 (lw_nx w2 q2 fx r2 f2 kk hL))
