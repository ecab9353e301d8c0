/-! THE LAW, 4: cases 9, 10, 11, 12, 13, 14 -/
theorem dL_law_516 : decode cL_law 516 = .ok (.aload_n 1, 1) := by decide +kernel
theorem dL_law_517 : decode cL_law 517 = .ok (.aload_n 0, 1) := by decide +kernel
theorem dL_law_518 : decode cL_law 518 = .ok (.iload 4, 2) := by decide +kernel
theorem dL_law_520 : decode cL_law 520 = .ok (.iconst 1, 1) := by decide +kernel
theorem dL_law_521 : decode cL_law 521 = .ok (.iadd, 1) := by decide +kernel
theorem dL_law_522 : decode cL_law 522 = .ok (.iaload, 1) := by decide +kernel
theorem dL_law_523 : decode cL_law 523 = .ok (.aload_n 0, 1) := by decide +kernel
theorem dL_law_524 : decode cL_law 524 = .ok (.iload 4, 2) := by decide +kernel
theorem dL_law_526 : decode cL_law 526 = .ok (.iconst 2, 1) := by decide +kernel
theorem dL_law_527 : decode cL_law 527 = .ok (.iadd, 1) := by decide +kernel
theorem dL_law_528 : decode cL_law 528 = .ok (.iaload, 1) := by decide +kernel
theorem dL_law_529 : decode cL_law 529 = .ok (.aload_n 0, 1) := by decide +kernel
theorem dL_law_530 : decode cL_law 530 = .ok (.iload 4, 2) := by decide +kernel
theorem dL_law_532 : decode cL_law 532 = .ok (.iconst 3, 1) := by decide +kernel
theorem dL_law_533 : decode cL_law 533 = .ok (.iadd, 1) := by decide +kernel
theorem dL_law_534 : decode cL_law 534 = .ok (.iaload, 1) := by decide +kernel
theorem dL_law_535 : decode cL_law 535 = .ok (.invokevirtual 65, 3) := by decide +kernel
theorem dL_law_538 : decode cL_law 538 = .ok (.aload_n 2, 1) := by decide +kernel
theorem dL_law_539 : decode cL_law 539 = .ok (.aload_n 0, 1) := by decide +kernel
theorem dL_law_540 : decode cL_law 540 = .ok (.iload 4, 2) := by decide +kernel
theorem dL_law_542 : decode cL_law 542 = .ok (.iconst 1, 1) := by decide +kernel
theorem dL_law_543 : decode cL_law 543 = .ok (.iadd, 1) := by decide +kernel
theorem dL_law_544 : decode cL_law 544 = .ok (.iaload, 1) := by decide +kernel
theorem dL_law_545 : decode cL_law 545 = .ok (.aload_n 0, 1) := by decide +kernel
theorem dL_law_546 : decode cL_law 546 = .ok (.iload 4, 2) := by decide +kernel
theorem dL_law_548 : decode cL_law 548 = .ok (.iconst 2, 1) := by decide +kernel
theorem dL_law_549 : decode cL_law 549 = .ok (.iadd, 1) := by decide +kernel
theorem dL_law_550 : decode cL_law 550 = .ok (.iaload, 1) := by decide +kernel
theorem dL_law_551 : decode cL_law 551 = .ok (.aload_n 0, 1) := by decide +kernel
theorem dL_law_552 : decode cL_law 552 = .ok (.iload 4, 2) := by decide +kernel
theorem dL_law_554 : decode cL_law 554 = .ok (.iconst 3, 1) := by decide +kernel
theorem dL_law_555 : decode cL_law 555 = .ok (.iadd, 1) := by decide +kernel
theorem dL_law_556 : decode cL_law 556 = .ok (.iaload, 1) := by decide +kernel
theorem dL_law_557 : decode cL_law 557 = .ok (.invokevirtual 69, 3) := by decide +kernel
theorem dL_law_560 : decode cL_law 560 = .ok (.lcmp, 1) := by decide +kernel
theorem dL_law_561 : decode cL_law 561 = .ok (.ifCond .eq 541, 3) := by decide +kernel
set_option maxHeartbeats 4000000 in
set_option maxRecDepth 100000 in
theorem lc_9 {E : xE} {u : Nat × Nat} {i : Int} {h : Hp} (hu : u.1 + 1 ≤ 601024 ∧ u.2 + 6 ≤ 7293034) (ib : lwB E i) (inv : lwI h) (kT : ∀ h9 : Hp, lwI h9 → X E mL_law 1312 (601024, 7293034) (u.1 + 1, u.2 + 6) 1102 (lwL i) [] h9 lwQ) : X E mL_law 1312 (601024, 7293034) u 516 (lwL i) [] h lwQ := by
  have hv : u.1 ≤ 601024 ∧ u.2 ≤ 7293034 := ⟨Nat.le_of_succ_le hu.1, Nat.le_trans (Nat.le_add_right _ 6) hu.2⟩
  obtain ⟨hL, c, σ, w, q, r, kk⟩ := inv
  refine x_aload_n (i := 1) (b := 517) dL_law_516 rfl rfl rfl ?_
  refine x_aload_n (i := 0) (b := 518) dL_law_517 rfl rfl rfl ?_
  refine x_iload (i := 4) (b := 520) dL_law_518 rfl rfl ?_
  refine x_iconst (n := 1) (b := 521) dL_law_520 (by decide) rfl ?_
  refine x_iadd (b := 522) dL_law_521 (ib 1 (by decide) (by decide)).1 rfl ?_
  refine x_sld (b := 523) dL_law_522 (ib 1 (by decide) (by decide)).2 rfl ?_
  refine x_aload_n (i := 0) (b := 524) dL_law_523 rfl rfl rfl ?_
  refine x_iload (i := 4) (b := 526) dL_law_524 rfl rfl ?_
  refine x_iconst (n := 2) (b := 527) dL_law_526 (by decide) rfl ?_
  refine x_iadd (b := 528) dL_law_527 (ib 2 (by decide) (by decide)).1 rfl ?_
  refine x_sld (b := 529) dL_law_528 (ib 2 (by decide) (by decide)).2 rfl ?_
  refine x_aload_n (i := 0) (b := 530) dL_law_529 rfl rfl rfl ?_
  refine x_iload (i := 4) (b := 532) dL_law_530 rfl rfl ?_
  refine x_iconst (n := 3) (b := 533) dL_law_532 (by decide) rfl ?_
  refine x_iadd (b := 534) dL_law_533 (ib 3 (by decide) (by decide)).1 rfl ?_
  refine x_sld (b := 535) dL_law_534 (ib 3 (by decide) (by decide)).2 rfl ?_
  obtain ⟨a, σ2, w2, ⟨v1, h1, e1, a1, ⟨c2, q2⟩, fx⟩, kR⟩ := @agr_law (wsc E.1 (i + 1).toNat) (wsc E.1 (i + 2).toNat) (wsc E.1 (i + 3).toNat) h c σ w q
  refine x_callV (as := [xi (wsc E.1 (i + 1).toNat), xi (wsc E.1 (i + 2).toNat), xi (wsc E.1 (i + 3).toNat)]) (rest := []) (b := 538) (c_X11_law 1307 (wsc E.1 (i + 1).toNat) (wsc E.1 (i + 2).toNat) (wsc E.1 (i + 3).toNat) h _ hL e1) dL_law_535 cw_L_65 ⟨_, _, rfl, Nat.le_of_ble_eq_true rfl⟩ rfl rfl (Nat.le_of_ble_eq_true rfl) ⟨hv.1, hv.2⟩ rfl (fun rv hh hp _ => ?_)
  obtain ⟨rfl, rfl, hL⟩ := hp
  refine x_aload_n (i := 2) (b := 539) dL_law_538 rfl rfl rfl ?_
  refine x_aload_n (i := 0) (b := 540) dL_law_539 rfl rfl rfl ?_
  refine x_iload (i := 4) (b := 542) dL_law_540 rfl rfl ?_
  refine x_iconst (n := 1) (b := 543) dL_law_542 (by decide) rfl ?_
  refine x_iadd (b := 544) dL_law_543 (ib 1 (by decide) (by decide)).1 rfl ?_
  refine x_sld (b := 545) dL_law_544 (ib 1 (by decide) (by decide)).2 rfl ?_
  refine x_aload_n (i := 0) (b := 546) dL_law_545 rfl rfl rfl ?_
  refine x_iload (i := 4) (b := 548) dL_law_546 rfl rfl ?_
  refine x_iconst (n := 2) (b := 549) dL_law_548 (by decide) rfl ?_
  refine x_iadd (b := 550) dL_law_549 (ib 2 (by decide) (by decide)).1 rfl ?_
  refine x_sld (b := 551) dL_law_550 (ib 2 (by decide) (by decide)).2 rfl ?_
  refine x_aload_n (i := 0) (b := 552) dL_law_551 rfl rfl rfl ?_
  refine x_iload (i := 4) (b := 554) dL_law_552 rfl rfl ?_
  refine x_iconst (n := 3) (b := 555) dL_law_554 (by decide) rfl ?_
  refine x_iadd (b := 556) dL_law_555 (ib 3 (by decide) (by decide)).1 rfl ?_
  refine x_sld (b := 557) dL_law_556 (ib 3 (by decide) (by decide)).2 rfl ?_
  obtain ⟨v2, h2, e2, a2, r2, f2⟩ := kR h1 (IR_cl w fx r)
  refine x_callV (as := [xi (wsc E.1 (i + 1).toNat), xi (wsc E.1 (i + 2).toNat), xi (wsc E.1 (i + 3).toNat)]) (rest := [xl v1]) (b := 560) (c_X12_law 1306 (wsc E.1 (i + 1).toNat) (wsc E.1 (i + 2).toNat) (wsc E.1 (i + 3).toNat) h1 _ hL e2) dL_law_557 cw_L_69 ⟨_, _, rfl, Nat.le_of_ble_eq_true rfl⟩ rfl rfl (Nat.le_of_ble_eq_true rfl) ⟨hv.1, hv.2⟩ rfl (fun rv hh hp _ => ?_)
  obtain ⟨rfl, rfl, hL⟩ := hp
  refine x_lcmp (b := 561) dL_law_560 rfl ?_
  refine x_if_eq (tgt := 1102) (b := 564) dL_law_561 (by decide) rfl (fun _ => ?_) (fun hc => absurd (lc_eq0.mpr (a1.trans a2.symm)) hc)
  exact x_wd (Nat.le_succ u.1) (Nat.le_add_right u.2 6) (kT h2 (lw_nx w2 q2 fx r2 f2 kk hL))
theorem dL_law_566 : decode cL_law 566 = .ok (.aload_n 1, 1) := by decide +kernel
theorem dL_law_567 : decode cL_law 567 = .ok (.aload_n 0, 1) := by decide +kernel
theorem dL_law_568 : decode cL_law 568 = .ok (.iload 4, 2) := by decide +kernel
theorem dL_law_570 : decode cL_law 570 = .ok (.iconst 1, 1) := by decide +kernel
theorem dL_law_571 : decode cL_law 571 = .ok (.iadd, 1) := by decide +kernel
theorem dL_law_572 : decode cL_law 572 = .ok (.iaload, 1) := by decide +kernel
theorem dL_law_573 : decode cL_law 573 = .ok (.invokevirtual 70, 3) := by decide +kernel
theorem dL_law_576 : decode cL_law 576 = .ok (.aload_n 2, 1) := by decide +kernel
theorem dL_law_577 : decode cL_law 577 = .ok (.aload_n 0, 1) := by decide +kernel
theorem dL_law_578 : decode cL_law 578 = .ok (.iload 4, 2) := by decide +kernel
theorem dL_law_580 : decode cL_law 580 = .ok (.iconst 1, 1) := by decide +kernel
theorem dL_law_581 : decode cL_law 581 = .ok (.iadd, 1) := by decide +kernel
theorem dL_law_582 : decode cL_law 582 = .ok (.iaload, 1) := by decide +kernel
theorem dL_law_583 : decode cL_law 583 = .ok (.invokevirtual 73, 3) := by decide +kernel
theorem dL_law_586 : decode cL_law 586 = .ok (.if_icmp .eq 516, 3) := by decide +kernel
set_option maxHeartbeats 4000000 in
set_option maxRecDepth 100000 in
theorem lc_10 {E : xE} {u : Nat × Nat} {i : Int} {h : Hp} (hu : u.1 + 1 ≤ 601024 ∧ u.2 + 6 ≤ 7293034) (ib : lwB E i) (inv : lwI h) (kT : ∀ h9 : Hp, lwI h9 → X E mL_law 1312 (601024, 7293034) (u.1 + 1, u.2 + 6) 1102 (lwL i) [] h9 lwQ) : X E mL_law 1312 (601024, 7293034) u 566 (lwL i) [] h lwQ := by
  have hv : u.1 ≤ 601024 ∧ u.2 ≤ 7293034 := ⟨Nat.le_of_succ_le hu.1, Nat.le_trans (Nat.le_add_right _ 6) hu.2⟩
  obtain ⟨hL, c, σ, w, q, r, kk⟩ := inv
  refine x_aload_n (i := 1) (b := 567) dL_law_566 rfl rfl rfl ?_
  refine x_aload_n (i := 0) (b := 568) dL_law_567 rfl rfl rfl ?_
  refine x_iload (i := 4) (b := 570) dL_law_568 rfl rfl ?_
  refine x_iconst (n := 1) (b := 571) dL_law_570 (by decide) rfl ?_
  refine x_iadd (b := 572) dL_law_571 (ib 1 (by decide) (by decide)).1 rfl ?_
  refine x_sld (b := 573) dL_law_572 (ib 1 (by decide) (by decide)).2 rfl ?_
  obtain ⟨a, σ2, w2, ⟨v1, h1, e1, a1, ⟨c2, q2⟩, fx⟩, kR⟩ := @agr_votes (wsc E.1 (i + 1).toNat) h c σ w q
  refine x_callV (as := [xi (wsc E.1 (i + 1).toNat)]) (rest := []) (b := 576) (c_X11_votes 1305 (wsc E.1 (i + 1).toNat) h _ hL e1) dL_law_573 cw_L_70 ⟨_, _, rfl, Nat.le_of_ble_eq_true rfl⟩ rfl rfl (Nat.le_of_ble_eq_true rfl) ⟨hv.1, hv.2⟩ rfl (fun rv hh hp _ => ?_)
  obtain ⟨rfl, rfl, hL⟩ := hp
  refine x_aload_n (i := 2) (b := 577) dL_law_576 rfl rfl rfl ?_
  refine x_aload_n (i := 0) (b := 578) dL_law_577 rfl rfl rfl ?_
  refine x_iload (i := 4) (b := 580) dL_law_578 rfl rfl ?_
  refine x_iconst (n := 1) (b := 581) dL_law_580 (by decide) rfl ?_
  refine x_iadd (b := 582) dL_law_581 (ib 1 (by decide) (by decide)).1 rfl ?_
  refine x_sld (b := 583) dL_law_582 (ib 1 (by decide) (by decide)).2 rfl ?_
  obtain ⟨v2, h2, e2, a2, r2, f2⟩ := kR h1 (IR_cl w fx r)
  refine x_callV (as := [xi (wsc E.1 (i + 1).toNat)]) (rest := [xi v1]) (b := 586) (c_X12_votes 1304 (wsc E.1 (i + 1).toNat) h1 _ hL e2) dL_law_583 cw_L_73 ⟨_, _, rfl, Nat.le_of_ble_eq_true rfl⟩ rfl rfl (Nat.le_of_ble_eq_true rfl) ⟨hv.1, hv.2⟩ rfl (fun rv hh hp _ => ?_)
  obtain ⟨rfl, rfl, hL⟩ := hp
  refine x_icmp_eq (tgt := 1102) (b := 589) dL_law_586 (by decide) rfl (fun _ => ?_) (fun hc => absurd (a1.trans a2.symm) hc)
  exact x_wd (Nat.le_succ u.1) (Nat.le_add_right u.2 6) (kT h2 (lw_nx w2 q2 fx r2 f2 kk hL))
theorem dL_law_591 : decode cL_law 591 = .ok (.aload_n 1, 1) := by decide +kernel
theorem dL_law_592 : decode cL_law 592 = .ok (.aload_n 0, 1) := by decide +kernel
theorem dL_law_593 : decode cL_law 593 = .ok (.iload 4, 2) := by decide +kernel
theorem dL_law_595 : decode cL_law 595 = .ok (.iconst 1, 1) := by decide +kernel
theorem dL_law_596 : decode cL_law 596 = .ok (.iadd, 1) := by decide +kernel
theorem dL_law_597 : decode cL_law 597 = .ok (.iaload, 1) := by decide +kernel
theorem dL_law_598 : decode cL_law 598 = .ok (.invokevirtual 74, 3) := by decide +kernel
theorem dL_law_601 : decode cL_law 601 = .ok (.aload_n 2, 1) := by decide +kernel
theorem dL_law_602 : decode cL_law 602 = .ok (.aload_n 0, 1) := by decide +kernel
theorem dL_law_603 : decode cL_law 603 = .ok (.iload 4, 2) := by decide +kernel
theorem dL_law_605 : decode cL_law 605 = .ok (.iconst 1, 1) := by decide +kernel
theorem dL_law_606 : decode cL_law 606 = .ok (.iadd, 1) := by decide +kernel
theorem dL_law_607 : decode cL_law 607 = .ok (.iaload, 1) := by decide +kernel
theorem dL_law_608 : decode cL_law 608 = .ok (.invokevirtual 78, 3) := by decide +kernel
theorem dL_law_611 : decode cL_law 611 = .ok (.if_icmp .eq 491, 3) := by decide +kernel
set_option maxHeartbeats 4000000 in
set_option maxRecDepth 100000 in
theorem lc_11 {E : xE} {u : Nat × Nat} {i : Int} {h : Hp} (hu : u.1 + 1 ≤ 601024 ∧ u.2 + 6 ≤ 7293034) (ib : lwB E i) (inv : lwI h) (kT : ∀ h9 : Hp, lwI h9 → X E mL_law 1312 (601024, 7293034) (u.1 + 1, u.2 + 6) 1102 (lwL i) [] h9 lwQ) : X E mL_law 1312 (601024, 7293034) u 591 (lwL i) [] h lwQ := by
  have hv : u.1 ≤ 601024 ∧ u.2 ≤ 7293034 := ⟨Nat.le_of_succ_le hu.1, Nat.le_trans (Nat.le_add_right _ 6) hu.2⟩
  obtain ⟨hL, c, σ, w, q, r, kk⟩ := inv
  refine x_aload_n (i := 1) (b := 592) dL_law_591 rfl rfl rfl ?_
  refine x_aload_n (i := 0) (b := 593) dL_law_592 rfl rfl rfl ?_
  refine x_iload (i := 4) (b := 595) dL_law_593 rfl rfl ?_
  refine x_iconst (n := 1) (b := 596) dL_law_595 (by decide) rfl ?_
  refine x_iadd (b := 597) dL_law_596 (ib 1 (by decide) (by decide)).1 rfl ?_
  refine x_sld (b := 598) dL_law_597 (ib 1 (by decide) (by decide)).2 rfl ?_
  obtain ⟨a, σ2, w2, ⟨v1, h1, e1, a1, ⟨c2, q2⟩, fx⟩, kR⟩ := @agr_fed (wsc E.1 (i + 1).toNat) h c σ w q
  refine x_callV (as := [xi (wsc E.1 (i + 1).toNat)]) (rest := []) (b := 601) (c_X11_fed 1310 (wsc E.1 (i + 1).toNat) h _ hL e1) dL_law_598 cw_L_74 ⟨_, _, rfl, Nat.le_of_ble_eq_true rfl⟩ rfl rfl (Nat.le_of_ble_eq_true rfl) ⟨hv.1, hv.2⟩ rfl (fun rv hh hp _ => ?_)
  obtain ⟨rfl, rfl, hL⟩ := hp
  refine x_aload_n (i := 2) (b := 602) dL_law_601 rfl rfl rfl ?_
  refine x_aload_n (i := 0) (b := 603) dL_law_602 rfl rfl rfl ?_
  refine x_iload (i := 4) (b := 605) dL_law_603 rfl rfl ?_
  refine x_iconst (n := 1) (b := 606) dL_law_605 (by decide) rfl ?_
  refine x_iadd (b := 607) dL_law_606 (ib 1 (by decide) (by decide)).1 rfl ?_
  refine x_sld (b := 608) dL_law_607 (ib 1 (by decide) (by decide)).2 rfl ?_
  obtain ⟨v2, h2, e2, a2, r2, f2⟩ := kR h1 (IR_cl w fx r)
  refine x_callV (as := [xi (wsc E.1 (i + 1).toNat)]) (rest := [xi v1]) (b := 611) (c_X12_fed 1310 (wsc E.1 (i + 1).toNat) h1 _ hL e2) dL_law_608 cw_L_78 ⟨_, _, rfl, Nat.le_of_ble_eq_true rfl⟩ rfl rfl (Nat.le_of_ble_eq_true rfl) ⟨hv.1, hv.2⟩ rfl (fun rv hh hp _ => ?_)
  obtain ⟨rfl, rfl, hL⟩ := hp
  refine x_icmp_eq (tgt := 1102) (b := 614) dL_law_611 (by decide) rfl (fun _ => ?_) (fun hc => absurd (a1.trans a2.symm) hc)
  exact x_wd (Nat.le_succ u.1) (Nat.le_add_right u.2 6) (kT h2 (lw_nx w2 q2 fx r2 f2 kk hL))
theorem dL_law_616 : decode cL_law 616 = .ok (.aload_n 1, 1) := by decide +kernel
theorem dL_law_617 : decode cL_law 617 = .ok (.aload_n 0, 1) := by decide +kernel
theorem dL_law_618 : decode cL_law 618 = .ok (.iload 4, 2) := by decide +kernel
theorem dL_law_620 : decode cL_law 620 = .ok (.iconst 1, 1) := by decide +kernel
theorem dL_law_621 : decode cL_law 621 = .ok (.iadd, 1) := by decide +kernel
theorem dL_law_622 : decode cL_law 622 = .ok (.iaload, 1) := by decide +kernel
theorem dL_law_623 : decode cL_law 623 = .ok (.invokevirtual 79, 3) := by decide +kernel
theorem dL_law_626 : decode cL_law 626 = .ok (.aload_n 2, 1) := by decide +kernel
theorem dL_law_627 : decode cL_law 627 = .ok (.aload_n 0, 1) := by decide +kernel
theorem dL_law_628 : decode cL_law 628 = .ok (.iload 4, 2) := by decide +kernel
theorem dL_law_630 : decode cL_law 630 = .ok (.iconst 1, 1) := by decide +kernel
theorem dL_law_631 : decode cL_law 631 = .ok (.iadd, 1) := by decide +kernel
theorem dL_law_632 : decode cL_law 632 = .ok (.iaload, 1) := by decide +kernel
theorem dL_law_633 : decode cL_law 633 = .ok (.invokevirtual 82, 3) := by decide +kernel
theorem dL_law_636 : decode cL_law 636 = .ok (.if_icmp .eq 466, 3) := by decide +kernel
set_option maxHeartbeats 4000000 in
set_option maxRecDepth 100000 in
theorem lc_12 {E : xE} {u : Nat × Nat} {i : Int} {h : Hp} (hu : u.1 + 1 ≤ 601024 ∧ u.2 + 6 ≤ 7293034) (ib : lwB E i) (inv : lwI h) (kT : ∀ h9 : Hp, lwI h9 → X E mL_law 1312 (601024, 7293034) (u.1 + 1, u.2 + 6) 1102 (lwL i) [] h9 lwQ) : X E mL_law 1312 (601024, 7293034) u 616 (lwL i) [] h lwQ := by
  have hv : u.1 ≤ 601024 ∧ u.2 ≤ 7293034 := ⟨Nat.le_of_succ_le hu.1, Nat.le_trans (Nat.le_add_right _ 6) hu.2⟩
  obtain ⟨hL, c, σ, w, q, r, kk⟩ := inv
  refine x_aload_n (i := 1) (b := 617) dL_law_616 rfl rfl rfl ?_
  refine x_aload_n (i := 0) (b := 618) dL_law_617 rfl rfl rfl ?_
  refine x_iload (i := 4) (b := 620) dL_law_618 rfl rfl ?_
  refine x_iconst (n := 1) (b := 621) dL_law_620 (by decide) rfl ?_
  refine x_iadd (b := 622) dL_law_621 (ib 1 (by decide) (by decide)).1 rfl ?_
  refine x_sld (b := 623) dL_law_622 (ib 1 (by decide) (by decide)).2 rfl ?_
  obtain ⟨a, σ2, w2, ⟨v1, h1, e1, a1, ⟨c2, q2⟩, fx⟩, kR⟩ := @agr_truth (wsc E.1 (i + 1).toNat) h c σ w q
  refine x_callV (as := [xi (wsc E.1 (i + 1).toNat)]) (rest := []) (b := 626) (c_X11_truth 1310 (wsc E.1 (i + 1).toNat) h _ hL e1) dL_law_623 cw_L_79 ⟨_, _, rfl, Nat.le_of_ble_eq_true rfl⟩ rfl rfl (Nat.le_of_ble_eq_true rfl) ⟨hv.1, hv.2⟩ rfl (fun rv hh hp _ => ?_)
  obtain ⟨rfl, rfl, hL⟩ := hp
  refine x_aload_n (i := 2) (b := 627) dL_law_626 rfl rfl rfl ?_
  refine x_aload_n (i := 0) (b := 628) dL_law_627 rfl rfl rfl ?_
  refine x_iload (i := 4) (b := 630) dL_law_628 rfl rfl ?_
  refine x_iconst (n := 1) (b := 631) dL_law_630 (by decide) rfl ?_
  refine x_iadd (b := 632) dL_law_631 (ib 1 (by decide) (by decide)).1 rfl ?_
  refine x_sld (b := 633) dL_law_632 (ib 1 (by decide) (by decide)).2 rfl ?_
  obtain ⟨v2, h2, e2, a2, r2, f2⟩ := kR h1 (IR_cl w fx r)
  refine x_callV (as := [xi (wsc E.1 (i + 1).toNat)]) (rest := [xi v1]) (b := 636) (c_X12_truth 1310 (wsc E.1 (i + 1).toNat) h1 _ hL e2) dL_law_633 cw_L_82 ⟨_, _, rfl, Nat.le_of_ble_eq_true rfl⟩ rfl rfl (Nat.le_of_ble_eq_true rfl) ⟨hv.1, hv.2⟩ rfl (fun rv hh hp _ => ?_)
  obtain ⟨rfl, rfl, hL⟩ := hp
  refine x_icmp_eq (tgt := 1102) (b := 639) dL_law_636 (by decide) rfl (fun _ => ?_) (fun hc => absurd (a1.trans a2.symm) hc)
  exact x_wd (Nat.le_succ u.1) (Nat.le_add_right u.2 6) (kT h2 (lw_nx w2 q2 fx r2 f2 kk hL))
theorem dL_law_641 : decode cL_law 641 = .ok (.aload_n 1, 1) := by decide +kernel
theorem dL_law_642 : decode cL_law 642 = .ok (.aload_n 0, 1) := by decide +kernel
theorem dL_law_643 : decode cL_law 643 = .ok (.iload 4, 2) := by decide +kernel
theorem dL_law_645 : decode cL_law 645 = .ok (.iconst 1, 1) := by decide +kernel
theorem dL_law_646 : decode cL_law 646 = .ok (.iadd, 1) := by decide +kernel
theorem dL_law_647 : decode cL_law 647 = .ok (.iaload, 1) := by decide +kernel
theorem dL_law_648 : decode cL_law 648 = .ok (.invokevirtual 83, 3) := by decide +kernel
theorem dL_law_651 : decode cL_law 651 = .ok (.aload_n 2, 1) := by decide +kernel
theorem dL_law_652 : decode cL_law 652 = .ok (.aload_n 0, 1) := by decide +kernel
theorem dL_law_653 : decode cL_law 653 = .ok (.iload 4, 2) := by decide +kernel
theorem dL_law_655 : decode cL_law 655 = .ok (.iconst 1, 1) := by decide +kernel
theorem dL_law_656 : decode cL_law 656 = .ok (.iadd, 1) := by decide +kernel
theorem dL_law_657 : decode cL_law 657 = .ok (.iaload, 1) := by decide +kernel
theorem dL_law_658 : decode cL_law 658 = .ok (.invokevirtual 86, 3) := by decide +kernel
theorem dL_law_661 : decode cL_law 661 = .ok (.if_icmp .eq 441, 3) := by decide +kernel
set_option maxHeartbeats 4000000 in
set_option maxRecDepth 100000 in
theorem lc_13 {E : xE} {u : Nat × Nat} {i : Int} {h : Hp} (hu : u.1 + 1 ≤ 601024 ∧ u.2 + 6 ≤ 7293034) (ib : lwB E i) (inv : lwI h) (kT : ∀ h9 : Hp, lwI h9 → X E mL_law 1312 (601024, 7293034) (u.1 + 1, u.2 + 6) 1102 (lwL i) [] h9 lwQ) : X E mL_law 1312 (601024, 7293034) u 641 (lwL i) [] h lwQ := by
  have hv : u.1 ≤ 601024 ∧ u.2 ≤ 7293034 := ⟨Nat.le_of_succ_le hu.1, Nat.le_trans (Nat.le_add_right _ 6) hu.2⟩
  obtain ⟨hL, c, σ, w, q, r, kk⟩ := inv
  refine x_aload_n (i := 1) (b := 642) dL_law_641 rfl rfl rfl ?_
  refine x_aload_n (i := 0) (b := 643) dL_law_642 rfl rfl rfl ?_
  refine x_iload (i := 4) (b := 645) dL_law_643 rfl rfl ?_
  refine x_iconst (n := 1) (b := 646) dL_law_645 (by decide) rfl ?_
  refine x_iadd (b := 647) dL_law_646 (ib 1 (by decide) (by decide)).1 rfl ?_
  refine x_sld (b := 648) dL_law_647 (ib 1 (by decide) (by decide)).2 rfl ?_
  obtain ⟨a, σ2, w2, ⟨v1, h1, e1, a1, ⟨c2, q2⟩, fx⟩, kR⟩ := @agr_meals (wsc E.1 (i + 1).toNat) h c σ w q
  refine x_callV (as := [xi (wsc E.1 (i + 1).toNat)]) (rest := []) (b := 651) (c_X11_meals 1303 (wsc E.1 (i + 1).toNat) h _ hL e1) dL_law_648 cw_L_83 ⟨_, _, rfl, Nat.le_of_ble_eq_true rfl⟩ rfl rfl (Nat.le_of_ble_eq_true rfl) ⟨hv.1, hv.2⟩ rfl (fun rv hh hp _ => ?_)
  obtain ⟨rfl, rfl, hL⟩ := hp
  refine x_aload_n (i := 2) (b := 652) dL_law_651 rfl rfl rfl ?_
  refine x_aload_n (i := 0) (b := 653) dL_law_652 rfl rfl rfl ?_
  refine x_iload (i := 4) (b := 655) dL_law_653 rfl rfl ?_
  refine x_iconst (n := 1) (b := 656) dL_law_655 (by decide) rfl ?_
  refine x_iadd (b := 657) dL_law_656 (ib 1 (by decide) (by decide)).1 rfl ?_
  refine x_sld (b := 658) dL_law_657 (ib 1 (by decide) (by decide)).2 rfl ?_
  obtain ⟨v2, h2, e2, a2, r2, f2⟩ := kR h1 (IR_cl w fx r)
  refine x_callV (as := [xi (wsc E.1 (i + 1).toNat)]) (rest := [xi v1]) (b := 661) (c_X12_meals 1303 (wsc E.1 (i + 1).toNat) h1 _ hL e2) dL_law_658 cw_L_86 ⟨_, _, rfl, Nat.le_of_ble_eq_true rfl⟩ rfl rfl (Nat.le_of_ble_eq_true rfl) ⟨hv.1, hv.2⟩ rfl (fun rv hh hp _ => ?_)
  obtain ⟨rfl, rfl, hL⟩ := hp
  refine x_icmp_eq (tgt := 1102) (b := 664) dL_law_661 (by decide) rfl (fun _ => ?_) (fun hc => absurd (a1.trans a2.symm) hc)
  exact x_wd (Nat.le_succ u.1) (Nat.le_add_right u.2 6) (kT h2 (lw_nx w2 q2 fx r2 f2 kk hL))
theorem dL_law_666 : decode cL_law 666 = .ok (.aload_n 1, 1) := by decide +kernel
theorem dL_law_667 : decode cL_law 667 = .ok (.aload_n 0, 1) := by decide +kernel
theorem dL_law_668 : decode cL_law 668 = .ok (.iload 4, 2) := by decide +kernel
theorem dL_law_670 : decode cL_law 670 = .ok (.iconst 1, 1) := by decide +kernel
theorem dL_law_671 : decode cL_law 671 = .ok (.iadd, 1) := by decide +kernel
theorem dL_law_672 : decode cL_law 672 = .ok (.iaload, 1) := by decide +kernel
theorem dL_law_673 : decode cL_law 673 = .ok (.aload_n 0, 1) := by decide +kernel
theorem dL_law_674 : decode cL_law 674 = .ok (.iload 4, 2) := by decide +kernel
theorem dL_law_676 : decode cL_law 676 = .ok (.iconst 2, 1) := by decide +kernel
theorem dL_law_677 : decode cL_law 677 = .ok (.iadd, 1) := by decide +kernel
theorem dL_law_678 : decode cL_law 678 = .ok (.iaload, 1) := by decide +kernel
theorem dL_law_679 : decode cL_law 679 = .ok (.invokevirtual 87, 3) := by decide +kernel
theorem dL_law_682 : decode cL_law 682 = .ok (.aload_n 2, 1) := by decide +kernel
theorem dL_law_683 : decode cL_law 683 = .ok (.aload_n 0, 1) := by decide +kernel
theorem dL_law_684 : decode cL_law 684 = .ok (.iload 4, 2) := by decide +kernel
theorem dL_law_686 : decode cL_law 686 = .ok (.iconst 1, 1) := by decide +kernel
theorem dL_law_687 : decode cL_law 687 = .ok (.iadd, 1) := by decide +kernel
theorem dL_law_688 : decode cL_law 688 = .ok (.iaload, 1) := by decide +kernel
theorem dL_law_689 : decode cL_law 689 = .ok (.aload_n 0, 1) := by decide +kernel
theorem dL_law_690 : decode cL_law 690 = .ok (.iload 4, 2) := by decide +kernel
theorem dL_law_692 : decode cL_law 692 = .ok (.iconst 2, 1) := by decide +kernel
theorem dL_law_693 : decode cL_law 693 = .ok (.iadd, 1) := by decide +kernel
theorem dL_law_694 : decode cL_law 694 = .ok (.iaload, 1) := by decide +kernel
theorem dL_law_695 : decode cL_law 695 = .ok (.invokevirtual 90, 3) := by decide +kernel
theorem dL_law_698 : decode cL_law 698 = .ok (.if_icmp .eq 404, 3) := by decide +kernel
set_option maxHeartbeats 4000000 in
set_option maxRecDepth 100000 in
theorem lc_14 {E : xE} {u : Nat × Nat} {i : Int} {h : Hp} (hu : u.1 + 1 ≤ 601024 ∧ u.2 + 6 ≤ 7293034) (ib : lwB E i) (inv : lwI h) (kT : ∀ h9 : Hp, lwI h9 → X E mL_law 1312 (601024, 7293034) (u.1 + 1, u.2 + 6) 1102 (lwL i) [] h9 lwQ) : X E mL_law 1312 (601024, 7293034) u 666 (lwL i) [] h lwQ := by
  have hv : u.1 ≤ 601024 ∧ u.2 ≤ 7293034 := ⟨Nat.le_of_succ_le hu.1, Nat.le_trans (Nat.le_add_right _ 6) hu.2⟩
  obtain ⟨hL, c, σ, w, q, r, kk⟩ := inv
  refine x_aload_n (i := 1) (b := 667) dL_law_666 rfl rfl rfl ?_
  refine x_aload_n (i := 0) (b := 668) dL_law_667 rfl rfl rfl ?_
  refine x_iload (i := 4) (b := 670) dL_law_668 rfl rfl ?_
  refine x_iconst (n := 1) (b := 671) dL_law_670 (by decide) rfl ?_
  refine x_iadd (b := 672) dL_law_671 (ib 1 (by decide) (by decide)).1 rfl ?_
  refine x_sld (b := 673) dL_law_672 (ib 1 (by decide) (by decide)).2 rfl ?_
  refine x_aload_n (i := 0) (b := 674) dL_law_673 rfl rfl rfl ?_
  refine x_iload (i := 4) (b := 676) dL_law_674 rfl rfl ?_
  refine x_iconst (n := 2) (b := 677) dL_law_676 (by decide) rfl ?_
  refine x_iadd (b := 678) dL_law_677 (ib 2 (by decide) (by decide)).1 rfl ?_
  refine x_sld (b := 679) dL_law_678 (ib 2 (by decide) (by decide)).2 rfl ?_
  obtain ⟨a, σ2, w2, ⟨v1, h1, e1, a1, ⟨c2, q2⟩, fx⟩, kR⟩ := @agr_log (wsc E.1 (i + 1).toNat) (wsc E.1 (i + 2).toNat) h c σ w q
  refine x_callV (as := [xi (wsc E.1 (i + 1).toNat), xi (wsc E.1 (i + 2).toNat)]) (rest := []) (b := 682) (c_X11_log 1309 (wsc E.1 (i + 1).toNat) (wsc E.1 (i + 2).toNat) h _ hL e1) dL_law_679 cw_L_87 ⟨_, _, rfl, Nat.le_of_ble_eq_true rfl⟩ rfl rfl (Nat.le_of_ble_eq_true rfl) ⟨hv.1, hv.2⟩ rfl (fun rv hh hp _ => ?_)
  obtain ⟨rfl, rfl, hL⟩ := hp
  refine x_aload_n (i := 2) (b := 683) dL_law_682 rfl rfl rfl ?_
  refine x_aload_n (i := 0) (b := 684) dL_law_683 rfl rfl rfl ?_
  refine x_iload (i := 4) (b := 686) dL_law_684 rfl rfl ?_
  refine x_iconst (n := 1) (b := 687) dL_law_686 (by decide) rfl ?_
  refine x_iadd (b := 688) dL_law_687 (ib 1 (by decide) (by decide)).1 rfl ?_
  refine x_sld (b := 689) dL_law_688 (ib 1 (by decide) (by decide)).2 rfl ?_
  refine x_aload_n (i := 0) (b := 690) dL_law_689 rfl rfl rfl ?_
  refine x_iload (i := 4) (b := 692) dL_law_690 rfl rfl ?_
  refine x_iconst (n := 2) (b := 693) dL_law_692 (by decide) rfl ?_
  refine x_iadd (b := 694) dL_law_693 (ib 2 (by decide) (by decide)).1 rfl ?_
  refine x_sld (b := 695) dL_law_694 (ib 2 (by decide) (by decide)).2 rfl ?_
  obtain ⟨v2, h2, e2, a2, r2, f2⟩ := kR h1 (IR_cl w fx r)
  refine x_callV (as := [xi (wsc E.1 (i + 1).toNat), xi (wsc E.1 (i + 2).toNat)]) (rest := [xi v1]) (b := 698) (c_X12_log 1310 (wsc E.1 (i + 1).toNat) (wsc E.1 (i + 2).toNat) h1 _ hL e2) dL_law_695 cw_L_90 ⟨_, _, rfl, Nat.le_of_ble_eq_true rfl⟩ rfl rfl (Nat.le_of_ble_eq_true rfl) ⟨hv.1, hv.2⟩ rfl (fun rv hh hp _ => ?_)
  obtain ⟨rfl, rfl, hL⟩ := hp
  refine x_icmp_eq (tgt := 1102) (b := 701) dL_law_698 (by decide) rfl (fun _ => ?_) (fun hc => absurd (a1.trans a2.symm) hc)
  exact x_wd (Nat.le_succ u.1) (Nat.le_add_right u.2 6) (kT h2 (lw_nx w2 q2 fx r2 f2 kk hL))
