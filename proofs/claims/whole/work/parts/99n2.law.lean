/-! THE LAW, 3: cases 4, 5, 6, 7, 8 -/
theorem dL_law_336 : decode cL_law 336 = .ok (.aload_n 1, 1) := by decide +kernel
theorem dL_law_337 : decode cL_law 337 = .ok (.aload_n 0, 1) := by decide +kernel
theorem dL_law_338 : decode cL_law 338 = .ok (.iload 4, 2) := by decide +kernel
theorem dL_law_340 : decode cL_law 340 = .ok (.iconst 1, 1) := by decide +kernel
theorem dL_law_341 : decode cL_law 341 = .ok (.iadd, 1) := by decide +kernel
theorem dL_law_342 : decode cL_law 342 = .ok (.iaload, 1) := by decide +kernel
theorem dL_law_343 : decode cL_law 343 = .ok (.aload_n 0, 1) := by decide +kernel
theorem dL_law_344 : decode cL_law 344 = .ok (.iload 4, 2) := by decide +kernel
theorem dL_law_346 : decode cL_law 346 = .ok (.iconst 2, 1) := by decide +kernel
theorem dL_law_347 : decode cL_law 347 = .ok (.iadd, 1) := by decide +kernel
theorem dL_law_348 : decode cL_law 348 = .ok (.iaload, 1) := by decide +kernel
theorem dL_law_349 : decode cL_law 349 = .ok (.aload_n 3, 1) := by decide +kernel
theorem dL_law_350 : decode cL_law 350 = .ok (.invokestatic 39, 3) := by decide +kernel
theorem dL_law_353 : decode cL_law 353 = .ok (.istore 5, 2) := by decide +kernel
theorem dL_law_355 : decode cL_law 355 = .ok (.aload_n 2, 1) := by decide +kernel
theorem dL_law_356 : decode cL_law 356 = .ok (.aload_n 0, 1) := by decide +kernel
theorem dL_law_357 : decode cL_law 357 = .ok (.iload 4, 2) := by decide +kernel
theorem dL_law_359 : decode cL_law 359 = .ok (.iconst 1, 1) := by decide +kernel
theorem dL_law_360 : decode cL_law 360 = .ok (.iadd, 1) := by decide +kernel
theorem dL_law_361 : decode cL_law 361 = .ok (.iaload, 1) := by decide +kernel
theorem dL_law_362 : decode cL_law 362 = .ok (.aload_n 0, 1) := by decide +kernel
theorem dL_law_363 : decode cL_law 363 = .ok (.iload 4, 2) := by decide +kernel
theorem dL_law_365 : decode cL_law 365 = .ok (.iconst 2, 1) := by decide +kernel
theorem dL_law_366 : decode cL_law 366 = .ok (.iadd, 1) := by decide +kernel
theorem dL_law_367 : decode cL_law 367 = .ok (.iaload, 1) := by decide +kernel
theorem dL_law_368 : decode cL_law 368 = .ok (.invokevirtual 44, 3) := by decide +kernel
theorem dL_law_371 : decode cL_law 371 = .ok (.istore 6, 2) := by decide +kernel
theorem dL_law_373 : decode cL_law 373 = .ok (.aload_n 2, 1) := by decide +kernel
theorem dL_law_374 : decode cL_law 374 = .ok (.invokevirtual 45, 3) := by decide +kernel
theorem dL_law_377 : decode cL_law 377 = .ok (.iload 5, 2) := by decide +kernel
theorem dL_law_379 : decode cL_law 379 = .ok (.if_icmp .eq 5, 3) := by decide +kernel
theorem dL_law_384 : decode cL_law 384 = .ok (.iload 5, 2) := by decide +kernel
theorem dL_law_386 : decode cL_law 386 = .ok (.ifCond .ne 15, 3) := by decide +kernel
theorem dL_law_389 : decode cL_law 389 = .ok (.aload_n 3, 1) := by decide +kernel
theorem dL_law_390 : decode cL_law 390 = .ok (.iconst 0, 1) := by decide +kernel
theorem dL_law_391 : decode cL_law 391 = .ok (.laload, 1) := by decide +kernel
theorem dL_law_392 : decode cL_law 392 = .ok (.iload 6, 2) := by decide +kernel
theorem dL_law_394 : decode cL_law 394 = .ok (.i2l, 1) := by decide +kernel
theorem dL_law_395 : decode cL_law 395 = .ok (.lcmp, 1) := by decide +kernel
theorem dL_law_396 : decode cL_law 396 = .ok (.ifCond .eq 5, 3) := by decide +kernel
theorem dL_law_401 : decode cL_law 401 = .ok (.goto 701, 3) := by decide +kernel
set_option maxHeartbeats 4000000 in
set_option maxRecDepth 100000 in
theorem lc_4 {E : xE} {u : Nat × Nat} {i : Int} {h : Hp} (hl : E.2.1.stackTraces = false) (hu : u.1 + 1 ≤ 601024 ∧ u.2 + 6 ≤ 7293034) (ib : lwB E i) (inv : lwI h) (kT : ∀ h9 : Hp, lwI h9 → X E mL_law 1312 (601024, 7293034) (u.1 + 1, u.2 + 6) 1102 (lwL i) [] h9 lwQ) : X E mL_law 1312 (601024, 7293034) u 336 (lwL i) [] h lwQ := by
  have inv2 := inv
  obtain ⟨hL, c, σ, w, q, r, kk⟩ := inv
  refine x_aload_n (i := 1) (b := 337) dL_law_336 rfl rfl rfl ?_
  refine x_aload_n (i := 0) (b := 338) dL_law_337 rfl rfl rfl ?_
  refine x_iload (i := 4) (b := 340) dL_law_338 rfl rfl ?_
  refine x_iconst (n := 1) (b := 341) dL_law_340 (by decide) rfl ?_
  refine x_iadd (b := 342) dL_law_341 (ib 1 (by decide) (by decide)).1 rfl ?_
  refine x_sld (b := 343) dL_law_342 (ib 1 (by decide) (by decide)).2 rfl ?_
  refine x_aload_n (i := 0) (b := 344) dL_law_343 rfl rfl rfl ?_
  refine x_iload (i := 4) (b := 346) dL_law_344 rfl rfl ?_
  refine x_iconst (n := 2) (b := 347) dL_law_346 (by decide) rfl ?_
  refine x_iadd (b := 348) dL_law_347 (ib 2 (by decide) (by decide)).1 rfl ?_
  refine x_sld (b := 349) dL_law_348 (ib 2 (by decide) (by decide)).2 rfl ?_
  refine x_aload_n (i := 3) (b := 350) dL_law_349 rfl rfl rfl ?_
  refine x_callLk (as := [xr 11 0, xi (wsc E.1 (i + 1).toNat), xi (wsc E.1 (i + 2).toNat), xr 114 0]) (rest := []) (b := 353) (fun wf hv => lk_met (d := 1302) hl hL w q wf hv) rfl dL_law_350 rfl rfl (Nat.le_of_ble_eq_true rfl) hu rfl (fun rv hh hp => ?_)
  have hv := hu
  rcases hp with ⟨t, rfl, rfl⟩ | ⟨t, rfl, n, rfl⟩
  · have inv3 := lw_s (r := 114) (v := lkV (sC σ) (sV σ 0) (wsc E.1 (i + 1).toNat) (wsc E.1 (i + 2).toNat)) (by decide) inv2
    have r3 : IR (sI h 114 0 0 (lkV (sC σ) (sV σ 0) (wsc E.1 (i + 1).toNat) (wsc E.1 (i + 2).toNat))) σ := IR_x w (fun r2 i2 k2 z => gI_nr (by omega)) r
    refine x_istore (i := 5) (b := 355) (ls2 := [some (xr 913 0), some (xr 11 0), some (xr 12 0), some (xr 114 0), some (xi i), some (xi (0)), none]) dL_law_353 (Nat.le_of_ble_eq_true rfl) rfl rfl ?_
    refine x_aload_n (i := 2) (b := 356) dL_law_355 rfl rfl rfl ?_
    refine x_aload_n (i := 0) (b := 357) dL_law_356 rfl rfl rfl ?_
    refine x_iload (i := 4) (b := 359) dL_law_357 rfl rfl ?_
    refine x_iconst (n := 1) (b := 360) dL_law_359 (by decide) rfl ?_
    refine x_iadd (b := 361) dL_law_360 (ib 1 (by decide) (by decide)).1 rfl ?_
    refine x_sld (b := 362) dL_law_361 (ib 1 (by decide) (by decide)).2 rfl ?_
    refine x_aload_n (i := 0) (b := 363) dL_law_362 rfl rfl rfl ?_
    refine x_iload (i := 4) (b := 365) dL_law_363 rfl rfl ?_
    refine x_iconst (n := 2) (b := 366) dL_law_365 (by decide) rfl ?_
    refine x_iadd (b := 367) dL_law_366 (ib 2 (by decide) (by decide)).1 rfl ?_
    refine x_sld (b := 368) dL_law_367 (ib 2 (by decide) (by decide)).2 rfl ?_
    obtain ⟨v2, h2, e2, b1, b2, r2, f2⟩ := lk_R (x1 := wsc E.1 (i + 1).toNat) (x2 := wsc E.1 (i + 2).toNat) w r3
    refine x_callV (as := [xi (wsc E.1 (i + 1).toNat), xi (wsc E.1 (i + 2).toNat)]) (rest := []) (b := 371) (c_X12_look 1308 (wsc E.1 (i + 1).toNat) (wsc E.1 (i + 2).toNat) (sI h 114 0 0 (lkV (sC σ) (sV σ 0) (wsc E.1 (i + 1).toNat) (wsc E.1 (i + 2).toNat))) _ hL e2) dL_law_368 cw_L_44 ⟨_, _, rfl, Nat.le_of_ble_eq_true rfl⟩ rfl rfl (Nat.le_of_ble_eq_true rfl) ⟨hv.1, hv.2⟩ rfl (fun rv hh hp _ => ?_)
    obtain ⟨rfl, rfl, hL⟩ := hp
    refine x_istore (i := 6) (b := 373) (ls2 := [some (xr 913 0), some (xr 11 0), some (xr 12 0), some (xr 114 0), some (xi i), some (xi (0)), some (xi v2)]) dL_law_371 (Nat.le_of_ble_eq_true rfl) rfl rfl ?_
    refine x_aload_n (i := 2) (b := 374) dL_law_373 rfl rfl rfl ?_
    refine x_callV (as := []) (rest := []) (b := 377) (c_X12_thrown 1310 h2 _ hL th_e) dL_law_374 cw_L_45 ⟨_, _, rfl, Nat.le_of_ble_eq_true rfl⟩ rfl rfl (Nat.le_of_ble_eq_true rfl) ⟨hv.1, hv.2⟩ rfl (fun rv hh hp _ => ?_)
    obtain ⟨rfl, rfl, hL⟩ := hp
    refine x_iload (i := 5) (b := 379) dL_law_377 rfl rfl ?_
    refine x_icmp_eq (tgt := 384) (b := 382) dL_law_379 (by decide) rfl (fun _ => ?_) (fun hc => absurd (b2.trans t) hc)
    obtain ⟨hL3, c3, σ3, w3, q3, r4, k3⟩ := inv3
    have fin : lwI h2 := ⟨hL, c, σ, w, IC_re f2 (IC_x (fun r2 i2 k2 z => gI_nr (by omega)) rfl q), r2, fun k k1 => (f2.1 47 0 k (by unfold ReW; omega)).trans (k3 k k1)⟩
    refine x_iload (i := 5) (b := 386) dL_law_384 rfl rfl ?_
    refine x_if_ne (tgt := 401) (b := 389) dL_law_386 (by decide) rfl (fun hc => absurd rfl hc) (fun _ => ?_)
    have e14 : gI h2 114 0 0 = lkV (sC σ) (sV σ 0) (wsc E.1 (i + 1).toNat) (wsc E.1 (i + 2).toNat) := (f2.1 114 0 0 (by unfold ReW; omega)).trans gI_eq
    refine x_aload_n (i := 3) (b := 390) dL_law_389 rfl rfl rfl ?_
    refine x_iconst (n := 0) (b := 391) dL_law_390 (by decide) rfl ?_
    refine x_lald (b := 392) ak_114 dL_law_391 (by decide) e14 rfl ?_
    refine x_iload (i := 6) (b := 394) dL_law_392 rfl rfl ?_
    refine x_i2l (b := 395) dL_law_394 rfl ?_
    refine x_lcmp (b := 396) dL_law_395 rfl ?_
    refine x_if_eq (tgt := 401) (b := 399) dL_law_396 (by decide) rfl (fun _ => ?_) (fun hc => absurd (lc_eq0.mpr (b1 t).symm) hc)
    refine x_goto (tgt := 1102) dL_law_401 (by decide) ?_
    exact x_dp (ls2 := lwL i) ⟨rfl, rfl, rfl, rfl, rfl, trivial⟩ (kT h2 fin)
  · have inv3 := lw_s (r := 999) (v := n) (by decide) inv2
    have r3 : IR (sI h 999 0 0 n) σ := IR_x w (fun r2 i2 k2 z => gI_nr (by omega)) r
    refine x_istore (i := 5) (b := 355) (ls2 := [some (xr 913 0), some (xr 11 0), some (xr 12 0), some (xr 114 0), some (xi i), some (xi (lkT (sC σ) (wsc E.1 (i + 1).toNat) (wsc E.1 (i + 2).toNat))), none]) dL_law_353 (Nat.le_of_ble_eq_true rfl) rfl rfl ?_
    refine x_aload_n (i := 2) (b := 356) dL_law_355 rfl rfl rfl ?_
    refine x_aload_n (i := 0) (b := 357) dL_law_356 rfl rfl rfl ?_
    refine x_iload (i := 4) (b := 359) dL_law_357 rfl rfl ?_
    refine x_iconst (n := 1) (b := 360) dL_law_359 (by decide) rfl ?_
    refine x_iadd (b := 361) dL_law_360 (ib 1 (by decide) (by decide)).1 rfl ?_
    refine x_sld (b := 362) dL_law_361 (ib 1 (by decide) (by decide)).2 rfl ?_
    refine x_aload_n (i := 0) (b := 363) dL_law_362 rfl rfl rfl ?_
    refine x_iload (i := 4) (b := 365) dL_law_363 rfl rfl ?_
    refine x_iconst (n := 2) (b := 366) dL_law_365 (by decide) rfl ?_
    refine x_iadd (b := 367) dL_law_366 (ib 2 (by decide) (by decide)).1 rfl ?_
    refine x_sld (b := 368) dL_law_367 (ib 2 (by decide) (by decide)).2 rfl ?_
    obtain ⟨v2, h2, e2, b1, b2, r2, f2⟩ := lk_R (x1 := wsc E.1 (i + 1).toNat) (x2 := wsc E.1 (i + 2).toNat) w r3
    refine x_callV (as := [xi (wsc E.1 (i + 1).toNat), xi (wsc E.1 (i + 2).toNat)]) (rest := []) (b := 371) (c_X12_look 1308 (wsc E.1 (i + 1).toNat) (wsc E.1 (i + 2).toNat) (sI h 999 0 0 n) _ hL e2) dL_law_368 cw_L_44 ⟨_, _, rfl, Nat.le_of_ble_eq_true rfl⟩ rfl rfl (Nat.le_of_ble_eq_true rfl) ⟨hv.1, hv.2⟩ rfl (fun rv hh hp _ => ?_)
    obtain ⟨rfl, rfl, hL⟩ := hp
    refine x_istore (i := 6) (b := 373) (ls2 := [some (xr 913 0), some (xr 11 0), some (xr 12 0), some (xr 114 0), some (xi i), some (xi (lkT (sC σ) (wsc E.1 (i + 1).toNat) (wsc E.1 (i + 2).toNat))), some (xi v2)]) dL_law_371 (Nat.le_of_ble_eq_true rfl) rfl rfl ?_
    refine x_aload_n (i := 2) (b := 374) dL_law_373 rfl rfl rfl ?_
    refine x_callV (as := []) (rest := []) (b := 377) (c_X12_thrown 1310 h2 _ hL th_e) dL_law_374 cw_L_45 ⟨_, _, rfl, Nat.le_of_ble_eq_true rfl⟩ rfl rfl (Nat.le_of_ble_eq_true rfl) ⟨hv.1, hv.2⟩ rfl (fun rv hh hp _ => ?_)
    obtain ⟨rfl, rfl, hL⟩ := hp
    refine x_iload (i := 5) (b := 379) dL_law_377 rfl rfl ?_
    refine x_icmp_eq (tgt := 384) (b := 382) dL_law_379 (by decide) rfl (fun _ => ?_) (fun hc => absurd (b2) hc)
    obtain ⟨hL3, c3, σ3, w3, q3, r4, k3⟩ := inv3
    have fin : lwI h2 := ⟨hL, c, σ, w, IC_re f2 (IC_x (fun r2 i2 k2 z => gI_nr (by omega)) rfl q), r2, fun k k1 => (f2.1 47 0 k (by unfold ReW; omega)).trans (k3 k k1)⟩
    refine x_iload (i := 5) (b := 386) dL_law_384 rfl rfl ?_
    refine x_if_ne (tgt := 401) (b := 389) dL_law_386 (by decide) rfl (fun _ => ?_) (fun hc => absurd hc t)
    refine x_goto (tgt := 1102) dL_law_401 (by decide) ?_
    exact x_dp (ls2 := lwL i) ⟨rfl, rfl, rfl, rfl, rfl, trivial⟩ (kT h2 fin)
theorem dL_law_404 : decode cL_law 404 = .ok (.aload_n 1, 1) := by decide +kernel
theorem dL_law_405 : decode cL_law 405 = .ok (.aload_n 0, 1) := by decide +kernel
theorem dL_law_406 : decode cL_law 406 = .ok (.iload 4, 2) := by decide +kernel
theorem dL_law_408 : decode cL_law 408 = .ok (.iconst 1, 1) := by decide +kernel
theorem dL_law_409 : decode cL_law 409 = .ok (.iadd, 1) := by decide +kernel
theorem dL_law_410 : decode cL_law 410 = .ok (.iaload, 1) := by decide +kernel
theorem dL_law_411 : decode cL_law 411 = .ok (.invokevirtual 49, 3) := by decide +kernel
theorem dL_law_414 : decode cL_law 414 = .ok (.aload_n 2, 1) := by decide +kernel
theorem dL_law_415 : decode cL_law 415 = .ok (.aload_n 0, 1) := by decide +kernel
theorem dL_law_416 : decode cL_law 416 = .ok (.iload 4, 2) := by decide +kernel
theorem dL_law_418 : decode cL_law 418 = .ok (.iconst 1, 1) := by decide +kernel
theorem dL_law_419 : decode cL_law 419 = .ok (.iadd, 1) := by decide +kernel
theorem dL_law_420 : decode cL_law 420 = .ok (.iaload, 1) := by decide +kernel
theorem dL_law_421 : decode cL_law 421 = .ok (.invokevirtual 52, 3) := by decide +kernel
theorem dL_law_424 : decode cL_law 424 = .ok (.if_icmp .eq 678, 3) := by decide +kernel
set_option maxHeartbeats 4000000 in
set_option maxRecDepth 100000 in
theorem lc_5 {E : xE} {u : Nat × Nat} {i : Int} {h : Hp} (hu : u.1 + 1 ≤ 601024 ∧ u.2 + 6 ≤ 7293034) (ib : lwB E i) (inv : lwI h) (kT : ∀ h9 : Hp, lwI h9 → X E mL_law 1312 (601024, 7293034) (u.1 + 1, u.2 + 6) 1102 (lwL i) [] h9 lwQ) : X E mL_law 1312 (601024, 7293034) u 404 (lwL i) [] h lwQ := by
  have hv : u.1 ≤ 601024 ∧ u.2 ≤ 7293034 := ⟨Nat.le_of_succ_le hu.1, Nat.le_trans (Nat.le_add_right _ 6) hu.2⟩
  obtain ⟨hL, c, σ, w, q, r, kk⟩ := inv
  refine x_aload_n (i := 1) (b := 405) dL_law_404 rfl rfl rfl ?_
  refine x_aload_n (i := 0) (b := 406) dL_law_405 rfl rfl rfl ?_
  refine x_iload (i := 4) (b := 408) dL_law_406 rfl rfl ?_
  refine x_iconst (n := 1) (b := 409) dL_law_408 (by decide) rfl ?_
  refine x_iadd (b := 410) dL_law_409 (ib 1 (by decide) (by decide)).1 rfl ?_
  refine x_sld (b := 411) dL_law_410 (ib 1 (by decide) (by decide)).2 rfl ?_
  obtain ⟨a, σ2, w2, ⟨v1, h1, e1, a1, ⟨c2, q2⟩, fx⟩, kR⟩ := @agr_ship (wsc E.1 (i + 1).toNat) h c σ w q
  refine x_callV (as := [xi (wsc E.1 (i + 1).toNat)]) (rest := []) (b := 414) (c_X11_ship 1310 (wsc E.1 (i + 1).toNat) h _ hL e1) dL_law_411 cw_L_49 ⟨_, _, rfl, Nat.le_of_ble_eq_true rfl⟩ rfl rfl (Nat.le_of_ble_eq_true rfl) ⟨hv.1, hv.2⟩ rfl (fun rv hh hp _ => ?_)
  obtain ⟨rfl, rfl, hL⟩ := hp
  refine x_aload_n (i := 2) (b := 415) dL_law_414 rfl rfl rfl ?_
  refine x_aload_n (i := 0) (b := 416) dL_law_415 rfl rfl rfl ?_
  refine x_iload (i := 4) (b := 418) dL_law_416 rfl rfl ?_
  refine x_iconst (n := 1) (b := 419) dL_law_418 (by decide) rfl ?_
  refine x_iadd (b := 420) dL_law_419 (ib 1 (by decide) (by decide)).1 rfl ?_
  refine x_sld (b := 421) dL_law_420 (ib 1 (by decide) (by decide)).2 rfl ?_
  obtain ⟨v2, h2, e2, a2, r2, f2⟩ := kR h1 (IR_cl w fx r)
  refine x_callV (as := [xi (wsc E.1 (i + 1).toNat)]) (rest := [xi v1]) (b := 424) (c_X12_ship 1310 (wsc E.1 (i + 1).toNat) h1 _ hL e2) dL_law_421 cw_L_52 ⟨_, _, rfl, Nat.le_of_ble_eq_true rfl⟩ rfl rfl (Nat.le_of_ble_eq_true rfl) ⟨hv.1, hv.2⟩ rfl (fun rv hh hp _ => ?_)
  obtain ⟨rfl, rfl, hL⟩ := hp
  refine x_icmp_eq (tgt := 1102) (b := 427) dL_law_424 (by decide) rfl (fun _ => ?_) (fun hc => absurd (a1.trans a2.symm) hc)
  exact x_wd (Nat.le_succ u.1) (Nat.le_add_right u.2 6) (kT h2 (lw_nx w2 q2 fx r2 f2 kk hL))
theorem dL_law_429 : decode cL_law 429 = .ok (.aload_n 1, 1) := by decide +kernel
theorem dL_law_430 : decode cL_law 430 = .ok (.aload_n 0, 1) := by decide +kernel
theorem dL_law_431 : decode cL_law 431 = .ok (.iload 4, 2) := by decide +kernel
theorem dL_law_433 : decode cL_law 433 = .ok (.iconst 1, 1) := by decide +kernel
theorem dL_law_434 : decode cL_law 434 = .ok (.iadd, 1) := by decide +kernel
theorem dL_law_435 : decode cL_law 435 = .ok (.iaload, 1) := by decide +kernel
theorem dL_law_436 : decode cL_law 436 = .ok (.aload_n 0, 1) := by decide +kernel
theorem dL_law_437 : decode cL_law 437 = .ok (.iload 4, 2) := by decide +kernel
theorem dL_law_439 : decode cL_law 439 = .ok (.iconst 2, 1) := by decide +kernel
theorem dL_law_440 : decode cL_law 440 = .ok (.iadd, 1) := by decide +kernel
theorem dL_law_441 : decode cL_law 441 = .ok (.iaload, 1) := by decide +kernel
theorem dL_law_442 : decode cL_law 442 = .ok (.invokevirtual 53, 3) := by decide +kernel
theorem dL_law_445 : decode cL_law 445 = .ok (.aload_n 2, 1) := by decide +kernel
theorem dL_law_446 : decode cL_law 446 = .ok (.aload_n 0, 1) := by decide +kernel
theorem dL_law_447 : decode cL_law 447 = .ok (.iload 4, 2) := by decide +kernel
theorem dL_law_449 : decode cL_law 449 = .ok (.iconst 1, 1) := by decide +kernel
theorem dL_law_450 : decode cL_law 450 = .ok (.iadd, 1) := by decide +kernel
theorem dL_law_451 : decode cL_law 451 = .ok (.iaload, 1) := by decide +kernel
theorem dL_law_452 : decode cL_law 452 = .ok (.aload_n 0, 1) := by decide +kernel
theorem dL_law_453 : decode cL_law 453 = .ok (.iload 4, 2) := by decide +kernel
theorem dL_law_455 : decode cL_law 455 = .ok (.iconst 2, 1) := by decide +kernel
theorem dL_law_456 : decode cL_law 456 = .ok (.iadd, 1) := by decide +kernel
theorem dL_law_457 : decode cL_law 457 = .ok (.iaload, 1) := by decide +kernel
theorem dL_law_458 : decode cL_law 458 = .ok (.invokevirtual 56, 3) := by decide +kernel
theorem dL_law_461 : decode cL_law 461 = .ok (.if_icmp .eq 641, 3) := by decide +kernel
set_option maxHeartbeats 4000000 in
set_option maxRecDepth 100000 in
theorem lc_6 {E : xE} {u : Nat × Nat} {i : Int} {h : Hp} (hu : u.1 + 1 ≤ 601024 ∧ u.2 + 6 ≤ 7293034) (ib : lwB E i) (inv : lwI h) (kT : ∀ h9 : Hp, lwI h9 → X E mL_law 1312 (601024, 7293034) (u.1 + 1, u.2 + 6) 1102 (lwL i) [] h9 lwQ) : X E mL_law 1312 (601024, 7293034) u 429 (lwL i) [] h lwQ := by
  have hv : u.1 ≤ 601024 ∧ u.2 ≤ 7293034 := ⟨Nat.le_of_succ_le hu.1, Nat.le_trans (Nat.le_add_right _ 6) hu.2⟩
  obtain ⟨hL, c, σ, w, q, r, kk⟩ := inv
  refine x_aload_n (i := 1) (b := 430) dL_law_429 rfl rfl rfl ?_
  refine x_aload_n (i := 0) (b := 431) dL_law_430 rfl rfl rfl ?_
  refine x_iload (i := 4) (b := 433) dL_law_431 rfl rfl ?_
  refine x_iconst (n := 1) (b := 434) dL_law_433 (by decide) rfl ?_
  refine x_iadd (b := 435) dL_law_434 (ib 1 (by decide) (by decide)).1 rfl ?_
  refine x_sld (b := 436) dL_law_435 (ib 1 (by decide) (by decide)).2 rfl ?_
  refine x_aload_n (i := 0) (b := 437) dL_law_436 rfl rfl rfl ?_
  refine x_iload (i := 4) (b := 439) dL_law_437 rfl rfl ?_
  refine x_iconst (n := 2) (b := 440) dL_law_439 (by decide) rfl ?_
  refine x_iadd (b := 441) dL_law_440 (ib 2 (by decide) (by decide)).1 rfl ?_
  refine x_sld (b := 442) dL_law_441 (ib 2 (by decide) (by decide)).2 rfl ?_
  obtain ⟨a, σ2, w2, ⟨v1, h1, e1, a1, ⟨c2, q2⟩, fx⟩, kR⟩ := @agr_far (wsc E.1 (i + 1).toNat) (wsc E.1 (i + 2).toNat) h c σ w q
  refine x_callV (as := [xi (wsc E.1 (i + 1).toNat), xi (wsc E.1 (i + 2).toNat)]) (rest := []) (b := 445) (c_X11_far 1306 (wsc E.1 (i + 1).toNat) (wsc E.1 (i + 2).toNat) h _ hL e1) dL_law_442 cw_L_53 ⟨_, _, rfl, Nat.le_of_ble_eq_true rfl⟩ rfl rfl (Nat.le_of_ble_eq_true rfl) ⟨hv.1, hv.2⟩ rfl (fun rv hh hp _ => ?_)
  obtain ⟨rfl, rfl, hL⟩ := hp
  refine x_aload_n (i := 2) (b := 446) dL_law_445 rfl rfl rfl ?_
  refine x_aload_n (i := 0) (b := 447) dL_law_446 rfl rfl rfl ?_
  refine x_iload (i := 4) (b := 449) dL_law_447 rfl rfl ?_
  refine x_iconst (n := 1) (b := 450) dL_law_449 (by decide) rfl ?_
  refine x_iadd (b := 451) dL_law_450 (ib 1 (by decide) (by decide)).1 rfl ?_
  refine x_sld (b := 452) dL_law_451 (ib 1 (by decide) (by decide)).2 rfl ?_
  refine x_aload_n (i := 0) (b := 453) dL_law_452 rfl rfl rfl ?_
  refine x_iload (i := 4) (b := 455) dL_law_453 rfl rfl ?_
  refine x_iconst (n := 2) (b := 456) dL_law_455 (by decide) rfl ?_
  refine x_iadd (b := 457) dL_law_456 (ib 2 (by decide) (by decide)).1 rfl ?_
  refine x_sld (b := 458) dL_law_457 (ib 2 (by decide) (by decide)).2 rfl ?_
  obtain ⟨v2, h2, e2, a2, r2, f2⟩ := kR h1 (IR_cl w fx r)
  refine x_callV (as := [xi (wsc E.1 (i + 1).toNat), xi (wsc E.1 (i + 2).toNat)]) (rest := [xi v1]) (b := 461) (c_X12_far 1308 (wsc E.1 (i + 1).toNat) (wsc E.1 (i + 2).toNat) h1 _ hL e2) dL_law_458 cw_L_56 ⟨_, _, rfl, Nat.le_of_ble_eq_true rfl⟩ rfl rfl (Nat.le_of_ble_eq_true rfl) ⟨hv.1, hv.2⟩ rfl (fun rv hh hp _ => ?_)
  obtain ⟨rfl, rfl, hL⟩ := hp
  refine x_icmp_eq (tgt := 1102) (b := 464) dL_law_461 (by decide) rfl (fun _ => ?_) (fun hc => absurd (a1.trans a2.symm) hc)
  exact x_wd (Nat.le_succ u.1) (Nat.le_add_right u.2 6) (kT h2 (lw_nx w2 q2 fx r2 f2 kk hL))
theorem dL_law_466 : decode cL_law 466 = .ok (.aload_n 1, 1) := by decide +kernel
theorem dL_law_467 : decode cL_law 467 = .ok (.aload_n 0, 1) := by decide +kernel
theorem dL_law_468 : decode cL_law 468 = .ok (.iload 4, 2) := by decide +kernel
theorem dL_law_470 : decode cL_law 470 = .ok (.iconst 1, 1) := by decide +kernel
theorem dL_law_471 : decode cL_law 471 = .ok (.iadd, 1) := by decide +kernel
theorem dL_law_472 : decode cL_law 472 = .ok (.iaload, 1) := by decide +kernel
theorem dL_law_473 : decode cL_law 473 = .ok (.invokevirtual 57, 3) := by decide +kernel
theorem dL_law_476 : decode cL_law 476 = .ok (.aload_n 2, 1) := by decide +kernel
theorem dL_law_477 : decode cL_law 477 = .ok (.aload_n 0, 1) := by decide +kernel
theorem dL_law_478 : decode cL_law 478 = .ok (.iload 4, 2) := by decide +kernel
theorem dL_law_480 : decode cL_law 480 = .ok (.iconst 1, 1) := by decide +kernel
theorem dL_law_481 : decode cL_law 481 = .ok (.iadd, 1) := by decide +kernel
theorem dL_law_482 : decode cL_law 482 = .ok (.iaload, 1) := by decide +kernel
theorem dL_law_483 : decode cL_law 483 = .ok (.invokevirtual 60, 3) := by decide +kernel
theorem dL_law_486 : decode cL_law 486 = .ok (.if_icmp .eq 616, 3) := by decide +kernel
set_option maxHeartbeats 4000000 in
set_option maxRecDepth 100000 in
theorem lc_7 {E : xE} {u : Nat × Nat} {i : Int} {h : Hp} (hu : u.1 + 1 ≤ 601024 ∧ u.2 + 6 ≤ 7293034) (ib : lwB E i) (inv : lwI h) (kT : ∀ h9 : Hp, lwI h9 → X E mL_law 1312 (601024, 7293034) (u.1 + 1, u.2 + 6) 1102 (lwL i) [] h9 lwQ) : X E mL_law 1312 (601024, 7293034) u 466 (lwL i) [] h lwQ := by
  have hv : u.1 ≤ 601024 ∧ u.2 ≤ 7293034 := ⟨Nat.le_of_succ_le hu.1, Nat.le_trans (Nat.le_add_right _ 6) hu.2⟩
  obtain ⟨hL, c, σ, w, q, r, kk⟩ := inv
  refine x_aload_n (i := 1) (b := 467) dL_law_466 rfl rfl rfl ?_
  refine x_aload_n (i := 0) (b := 468) dL_law_467 rfl rfl rfl ?_
  refine x_iload (i := 4) (b := 470) dL_law_468 rfl rfl ?_
  refine x_iconst (n := 1) (b := 471) dL_law_470 (by decide) rfl ?_
  refine x_iadd (b := 472) dL_law_471 (ib 1 (by decide) (by decide)).1 rfl ?_
  refine x_sld (b := 473) dL_law_472 (ib 1 (by decide) (by decide)).2 rfl ?_
  obtain ⟨a, σ2, w2, ⟨v1, h1, e1, a1, ⟨c2, q2⟩, fx⟩, kR⟩ := @agr_land (wsc E.1 (i + 1).toNat) h c σ w q
  refine x_callV (as := [xi (wsc E.1 (i + 1).toNat)]) (rest := []) (b := 476) (c_X11_land 1308 (wsc E.1 (i + 1).toNat) h _ hL e1) dL_law_473 cw_L_57 ⟨_, _, rfl, Nat.le_of_ble_eq_true rfl⟩ rfl rfl (Nat.le_of_ble_eq_true rfl) ⟨hv.1, hv.2⟩ rfl (fun rv hh hp _ => ?_)
  obtain ⟨rfl, rfl, hL⟩ := hp
  refine x_aload_n (i := 2) (b := 477) dL_law_476 rfl rfl rfl ?_
  refine x_aload_n (i := 0) (b := 478) dL_law_477 rfl rfl rfl ?_
  refine x_iload (i := 4) (b := 480) dL_law_478 rfl rfl ?_
  refine x_iconst (n := 1) (b := 481) dL_law_480 (by decide) rfl ?_
  refine x_iadd (b := 482) dL_law_481 (ib 1 (by decide) (by decide)).1 rfl ?_
  refine x_sld (b := 483) dL_law_482 (ib 1 (by decide) (by decide)).2 rfl ?_
  obtain ⟨v2, h2, e2, a2, r2, f2⟩ := kR h1 (IR_cl w fx r)
  refine x_callV (as := [xi (wsc E.1 (i + 1).toNat)]) (rest := [xi v1]) (b := 486) (c_X12_land 1308 (wsc E.1 (i + 1).toNat) h1 _ hL e2) dL_law_483 cw_L_60 ⟨_, _, rfl, Nat.le_of_ble_eq_true rfl⟩ rfl rfl (Nat.le_of_ble_eq_true rfl) ⟨hv.1, hv.2⟩ rfl (fun rv hh hp _ => ?_)
  obtain ⟨rfl, rfl, hL⟩ := hp
  refine x_icmp_eq (tgt := 1102) (b := 489) dL_law_486 (by decide) rfl (fun _ => ?_) (fun hc => absurd (a1.trans a2.symm) hc)
  exact x_wd (Nat.le_succ u.1) (Nat.le_add_right u.2 6) (kT h2 (lw_nx w2 q2 fx r2 f2 kk hL))
theorem dL_law_491 : decode cL_law 491 = .ok (.aload_n 1, 1) := by decide +kernel
theorem dL_law_492 : decode cL_law 492 = .ok (.aload_n 0, 1) := by decide +kernel
theorem dL_law_493 : decode cL_law 493 = .ok (.iload 4, 2) := by decide +kernel
theorem dL_law_495 : decode cL_law 495 = .ok (.iconst 1, 1) := by decide +kernel
theorem dL_law_496 : decode cL_law 496 = .ok (.iadd, 1) := by decide +kernel
theorem dL_law_497 : decode cL_law 497 = .ok (.iaload, 1) := by decide +kernel
theorem dL_law_498 : decode cL_law 498 = .ok (.invokevirtual 61, 3) := by decide +kernel
theorem dL_law_501 : decode cL_law 501 = .ok (.aload_n 2, 1) := by decide +kernel
theorem dL_law_502 : decode cL_law 502 = .ok (.aload_n 0, 1) := by decide +kernel
theorem dL_law_503 : decode cL_law 503 = .ok (.iload 4, 2) := by decide +kernel
theorem dL_law_505 : decode cL_law 505 = .ok (.iconst 1, 1) := by decide +kernel
theorem dL_law_506 : decode cL_law 506 = .ok (.iadd, 1) := by decide +kernel
theorem dL_law_507 : decode cL_law 507 = .ok (.iaload, 1) := by decide +kernel
theorem dL_law_508 : decode cL_law 508 = .ok (.invokevirtual 64, 3) := by decide +kernel
theorem dL_law_511 : decode cL_law 511 = .ok (.if_icmp .eq 591, 3) := by decide +kernel
set_option maxHeartbeats 4000000 in
set_option maxRecDepth 100000 in
theorem lc_8 {E : xE} {u : Nat × Nat} {i : Int} {h : Hp} (hu : u.1 + 1 ≤ 601024 ∧ u.2 + 6 ≤ 7293034) (ib : lwB E i) (inv : lwI h) (kT : ∀ h9 : Hp, lwI h9 → X E mL_law 1312 (601024, 7293034) (u.1 + 1, u.2 + 6) 1102 (lwL i) [] h9 lwQ) : X E mL_law 1312 (601024, 7293034) u 491 (lwL i) [] h lwQ := by
  have hv : u.1 ≤ 601024 ∧ u.2 ≤ 7293034 := ⟨Nat.le_of_succ_le hu.1, Nat.le_trans (Nat.le_add_right _ 6) hu.2⟩
  obtain ⟨hL, c, σ, w, q, r, kk⟩ := inv
  refine x_aload_n (i := 1) (b := 492) dL_law_491 rfl rfl rfl ?_
  refine x_aload_n (i := 0) (b := 493) dL_law_492 rfl rfl rfl ?_
  refine x_iload (i := 4) (b := 495) dL_law_493 rfl rfl ?_
  refine x_iconst (n := 1) (b := 496) dL_law_495 (by decide) rfl ?_
  refine x_iadd (b := 497) dL_law_496 (ib 1 (by decide) (by decide)).1 rfl ?_
  refine x_sld (b := 498) dL_law_497 (ib 1 (by decide) (by decide)).2 rfl ?_
  obtain ⟨a, σ2, w2, ⟨v1, h1, e1, a1, ⟨c2, q2⟩, fx⟩, kR⟩ := @agr_wish (wsc E.1 (i + 1).toNat) h c σ w q
  refine x_callV (as := [xi (wsc E.1 (i + 1).toNat)]) (rest := []) (b := 501) (c_X11_wish 1306 (wsc E.1 (i + 1).toNat) h _ hL e1) dL_law_498 cw_L_61 ⟨_, _, rfl, Nat.le_of_ble_eq_true rfl⟩ rfl rfl (Nat.le_of_ble_eq_true rfl) ⟨hv.1, hv.2⟩ rfl (fun rv hh hp _ => ?_)
  obtain ⟨rfl, rfl, hL⟩ := hp
  refine x_aload_n (i := 2) (b := 502) dL_law_501 rfl rfl rfl ?_
  refine x_aload_n (i := 0) (b := 503) dL_law_502 rfl rfl rfl ?_
  refine x_iload (i := 4) (b := 505) dL_law_503 rfl rfl ?_
  refine x_iconst (n := 1) (b := 506) dL_law_505 (by decide) rfl ?_
  refine x_iadd (b := 507) dL_law_506 (ib 1 (by decide) (by decide)).1 rfl ?_
  refine x_sld (b := 508) dL_law_507 (ib 1 (by decide) (by decide)).2 rfl ?_
  obtain ⟨v2, h2, e2, a2, r2, f2⟩ := kR h1 (IR_cl w fx r)
  refine x_callV (as := [xi (wsc E.1 (i + 1).toNat)]) (rest := [xi v1]) (b := 511) (c_X12_wish 1304 (wsc E.1 (i + 1).toNat) h1 _ hL e2) dL_law_508 cw_L_64 ⟨_, _, rfl, Nat.le_of_ble_eq_true rfl⟩ rfl rfl (Nat.le_of_ble_eq_true rfl) ⟨hv.1, hv.2⟩ rfl (fun rv hh hp _ => ?_)
  obtain ⟨rfl, rfl, hL⟩ := hp
  refine x_icmp_eq (tgt := 1102) (b := 514) dL_law_511 (by decide) rfl (fun _ => ?_) (fun hc => absurd (a1.trans a2.symm) hc)
  exact x_wd (Nat.le_succ u.1) (Nat.le_add_right u.2 6) (kT h2 (lw_nx w2 q2 fx r2 f2 kk hL))
