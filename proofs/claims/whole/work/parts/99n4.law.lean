/-! THE LAW, 5: cases 15, 16, 17, 18, 19, 20 -/
theorem dL_law_703 : decode cL_law 703 = .ok (.aload_n 1, 1) := by decide +kernel
theorem dL_law_704 : decode cL_law 704 = .ok (.aload_n 0, 1) := by decide +kernel
theorem dL_law_705 : decode cL_law 705 = .ok (.iload 4, 2) := by decide +kernel
theorem dL_law_707 : decode cL_law 707 = .ok (.iconst 1, 1) := by decide +kernel
theorem dL_law_708 : decode cL_law 708 = .ok (.iadd, 1) := by decide +kernel
theorem dL_law_709 : decode cL_law 709 = .ok (.iaload, 1) := by decide +kernel
theorem dL_law_710 : decode cL_law 710 = .ok (.aload_n 0, 1) := by decide +kernel
theorem dL_law_711 : decode cL_law 711 = .ok (.iload 4, 2) := by decide +kernel
theorem dL_law_713 : decode cL_law 713 = .ok (.iconst 2, 1) := by decide +kernel
theorem dL_law_714 : decode cL_law 714 = .ok (.iadd, 1) := by decide +kernel
theorem dL_law_715 : decode cL_law 715 = .ok (.iaload, 1) := by decide +kernel
theorem dL_law_716 : decode cL_law 716 = .ok (.invokevirtual 91, 3) := by decide +kernel
theorem dL_law_719 : decode cL_law 719 = .ok (.aload_n 2, 1) := by decide +kernel
theorem dL_law_720 : decode cL_law 720 = .ok (.aload_n 0, 1) := by decide +kernel
theorem dL_law_721 : decode cL_law 721 = .ok (.iload 4, 2) := by decide +kernel
theorem dL_law_723 : decode cL_law 723 = .ok (.iconst 1, 1) := by decide +kernel
theorem dL_law_724 : decode cL_law 724 = .ok (.iadd, 1) := by decide +kernel
theorem dL_law_725 : decode cL_law 725 = .ok (.iaload, 1) := by decide +kernel
theorem dL_law_726 : decode cL_law 726 = .ok (.aload_n 0, 1) := by decide +kernel
theorem dL_law_727 : decode cL_law 727 = .ok (.iload 4, 2) := by decide +kernel
theorem dL_law_729 : decode cL_law 729 = .ok (.iconst 2, 1) := by decide +kernel
theorem dL_law_730 : decode cL_law 730 = .ok (.iadd, 1) := by decide +kernel
theorem dL_law_731 : decode cL_law 731 = .ok (.iaload, 1) := by decide +kernel
theorem dL_law_732 : decode cL_law 732 = .ok (.invokevirtual 94, 3) := by decide +kernel
theorem dL_law_735 : decode cL_law 735 = .ok (.if_icmp .eq 367, 3) := by decide +kernel
set_option maxHeartbeats 4000000 in
set_option maxRecDepth 100000 in
theorem lc_15 {E : xE} {u : Nat × Nat} {i : Int} {h : Hp} (hu : u.1 + 1 ≤ 601024 ∧ u.2 + 6 ≤ 7293034) (ib : lwB E i) (inv : lwI h) (kT : ∀ h9 : Hp, lwI h9 → X E mL_law 1312 (601024, 7293034) (u.1 + 1, u.2 + 6) 1102 (lwL i) [] h9 lwQ) : X E mL_law 1312 (601024, 7293034) u 703 (lwL i) [] h lwQ := by
  have hv : u.1 ≤ 601024 ∧ u.2 ≤ 7293034 := ⟨Nat.le_of_succ_le hu.1, Nat.le_trans (Nat.le_add_right _ 6) hu.2⟩
  obtain ⟨hL, c, σ, w, q, r, kk⟩ := inv
  refine x_aload_n (i := 1) (b := 704) dL_law_703 rfl rfl rfl ?_
  refine x_aload_n (i := 0) (b := 705) dL_law_704 rfl rfl rfl ?_
  refine x_iload (i := 4) (b := 707) dL_law_705 rfl rfl ?_
  refine x_iconst (n := 1) (b := 708) dL_law_707 (by decide) rfl ?_
  refine x_iadd (b := 709) dL_law_708 (ib 1 (by decide) (by decide)).1 rfl ?_
  refine x_sld (b := 710) dL_law_709 (ib 1 (by decide) (by decide)).2 rfl ?_
  refine x_aload_n (i := 0) (b := 711) dL_law_710 rfl rfl rfl ?_
  refine x_iload (i := 4) (b := 713) dL_law_711 rfl rfl ?_
  refine x_iconst (n := 2) (b := 714) dL_law_713 (by decide) rfl ?_
  refine x_iadd (b := 715) dL_law_714 (ib 2 (by decide) (by decide)).1 rfl ?_
  refine x_sld (b := 716) dL_law_715 (ib 2 (by decide) (by decide)).2 rfl ?_
  obtain ⟨a, σ2, w2, ⟨v1, h1, e1, a1, ⟨c2, q2⟩, fx⟩, kR⟩ := @agr_plan (wsc E.1 (i + 1).toNat) (wsc E.1 (i + 2).toNat) h c σ w q
  refine x_callV (as := [xi (wsc E.1 (i + 1).toNat), xi (wsc E.1 (i + 2).toNat)]) (rest := []) (b := 719) (c_X11_plan 304 (wsc E.1 (i + 1).toNat) (wsc E.1 (i + 2).toNat) h _ hL e1) dL_law_716 cw_L_91 ⟨_, _, rfl, Nat.le_of_ble_eq_true rfl⟩ rfl rfl (Nat.le_of_ble_eq_true rfl) ⟨hv.1, hv.2⟩ rfl (fun rv hh hp _ => ?_)
  obtain ⟨rfl, rfl, hL⟩ := hp
  refine x_aload_n (i := 2) (b := 720) dL_law_719 rfl rfl rfl ?_
  refine x_aload_n (i := 0) (b := 721) dL_law_720 rfl rfl rfl ?_
  refine x_iload (i := 4) (b := 723) dL_law_721 rfl rfl ?_
  refine x_iconst (n := 1) (b := 724) dL_law_723 (by decide) rfl ?_
  refine x_iadd (b := 725) dL_law_724 (ib 1 (by decide) (by decide)).1 rfl ?_
  refine x_sld (b := 726) dL_law_725 (ib 1 (by decide) (by decide)).2 rfl ?_
  refine x_aload_n (i := 0) (b := 727) dL_law_726 rfl rfl rfl ?_
  refine x_iload (i := 4) (b := 729) dL_law_727 rfl rfl ?_
  refine x_iconst (n := 2) (b := 730) dL_law_729 (by decide) rfl ?_
  refine x_iadd (b := 731) dL_law_730 (ib 2 (by decide) (by decide)).1 rfl ?_
  refine x_sld (b := 732) dL_law_731 (ib 2 (by decide) (by decide)).2 rfl ?_
  obtain ⟨v2, h2, e2, a2, r2, f2⟩ := kR h1 (IR_cl w fx r)
  refine x_callV (as := [xi (wsc E.1 (i + 1).toNat), xi (wsc E.1 (i + 2).toNat)]) (rest := [xi v1]) (b := 735) (c_X12_plan 303 (wsc E.1 (i + 1).toNat) (wsc E.1 (i + 2).toNat) h1 _ hL e2) dL_law_732 cw_L_94 ⟨_, _, rfl, Nat.le_of_ble_eq_true rfl⟩ rfl rfl (Nat.le_of_ble_eq_true rfl) ⟨hv.1, hv.2⟩ rfl (fun rv hh hp _ => ?_)
  obtain ⟨rfl, rfl, hL⟩ := hp
  refine x_icmp_eq (tgt := 1102) (b := 738) dL_law_735 (by decide) rfl (fun _ => ?_) (fun hc => absurd (a1.trans a2.symm) hc)
  exact x_wd (Nat.le_succ u.1) (Nat.le_add_right u.2 6) (kT h2 (lw_nx w2 q2 fx r2 f2 kk hL))
theorem dL_law_740 : decode cL_law 740 = .ok (.aload_n 1, 1) := by decide +kernel
theorem dL_law_741 : decode cL_law 741 = .ok (.aload_n 0, 1) := by decide +kernel
theorem dL_law_742 : decode cL_law 742 = .ok (.iload 4, 2) := by decide +kernel
theorem dL_law_744 : decode cL_law 744 = .ok (.iconst 1, 1) := by decide +kernel
theorem dL_law_745 : decode cL_law 745 = .ok (.iadd, 1) := by decide +kernel
theorem dL_law_746 : decode cL_law 746 = .ok (.iaload, 1) := by decide +kernel
theorem dL_law_747 : decode cL_law 747 = .ok (.aload_n 0, 1) := by decide +kernel
theorem dL_law_748 : decode cL_law 748 = .ok (.iload 4, 2) := by decide +kernel
theorem dL_law_750 : decode cL_law 750 = .ok (.iconst 2, 1) := by decide +kernel
theorem dL_law_751 : decode cL_law 751 = .ok (.iadd, 1) := by decide +kernel
theorem dL_law_752 : decode cL_law 752 = .ok (.iaload, 1) := by decide +kernel
theorem dL_law_753 : decode cL_law 753 = .ok (.invokevirtual 95, 3) := by decide +kernel
theorem dL_law_756 : decode cL_law 756 = .ok (.aload_n 2, 1) := by decide +kernel
theorem dL_law_757 : decode cL_law 757 = .ok (.aload_n 0, 1) := by decide +kernel
theorem dL_law_758 : decode cL_law 758 = .ok (.iload 4, 2) := by decide +kernel
theorem dL_law_760 : decode cL_law 760 = .ok (.iconst 1, 1) := by decide +kernel
theorem dL_law_761 : decode cL_law 761 = .ok (.iadd, 1) := by decide +kernel
theorem dL_law_762 : decode cL_law 762 = .ok (.iaload, 1) := by decide +kernel
theorem dL_law_763 : decode cL_law 763 = .ok (.aload_n 0, 1) := by decide +kernel
theorem dL_law_764 : decode cL_law 764 = .ok (.iload 4, 2) := by decide +kernel
theorem dL_law_766 : decode cL_law 766 = .ok (.iconst 2, 1) := by decide +kernel
theorem dL_law_767 : decode cL_law 767 = .ok (.iadd, 1) := by decide +kernel
theorem dL_law_768 : decode cL_law 768 = .ok (.iaload, 1) := by decide +kernel
theorem dL_law_769 : decode cL_law 769 = .ok (.invokevirtual 98, 3) := by decide +kernel
theorem dL_law_772 : decode cL_law 772 = .ok (.if_icmp .eq 330, 3) := by decide +kernel
set_option maxHeartbeats 4000000 in
set_option maxRecDepth 100000 in
theorem lc_16 {E : xE} {u : Nat × Nat} {i : Int} {h : Hp} (hu : u.1 + 1 ≤ 601024 ∧ u.2 + 6 ≤ 7293034) (ib : lwB E i) (inv : lwI h) (kT : ∀ h9 : Hp, lwI h9 → X E mL_law 1312 (601024, 7293034) (u.1 + 1, u.2 + 6) 1102 (lwL i) [] h9 lwQ) : X E mL_law 1312 (601024, 7293034) u 740 (lwL i) [] h lwQ := by
  have hv : u.1 ≤ 601024 ∧ u.2 ≤ 7293034 := ⟨Nat.le_of_succ_le hu.1, Nat.le_trans (Nat.le_add_right _ 6) hu.2⟩
  obtain ⟨hL, c, σ, w, q, r, kk⟩ := inv
  refine x_aload_n (i := 1) (b := 741) dL_law_740 rfl rfl rfl ?_
  refine x_aload_n (i := 0) (b := 742) dL_law_741 rfl rfl rfl ?_
  refine x_iload (i := 4) (b := 744) dL_law_742 rfl rfl ?_
  refine x_iconst (n := 1) (b := 745) dL_law_744 (by decide) rfl ?_
  refine x_iadd (b := 746) dL_law_745 (ib 1 (by decide) (by decide)).1 rfl ?_
  refine x_sld (b := 747) dL_law_746 (ib 1 (by decide) (by decide)).2 rfl ?_
  refine x_aload_n (i := 0) (b := 748) dL_law_747 rfl rfl rfl ?_
  refine x_iload (i := 4) (b := 750) dL_law_748 rfl rfl ?_
  refine x_iconst (n := 2) (b := 751) dL_law_750 (by decide) rfl ?_
  refine x_iadd (b := 752) dL_law_751 (ib 2 (by decide) (by decide)).1 rfl ?_
  refine x_sld (b := 753) dL_law_752 (ib 2 (by decide) (by decide)).2 rfl ?_
  obtain ⟨a, σ2, w2, ⟨v1, h1, e1, a1, ⟨c2, q2⟩, fx⟩, kR⟩ := @agr_power (wsc E.1 (i + 1).toNat) (wsc E.1 (i + 2).toNat) h c σ w q
  refine x_callV (as := [xi (wsc E.1 (i + 1).toNat), xi (wsc E.1 (i + 2).toNat)]) (rest := []) (b := 756) (c_X11_power 1306 (wsc E.1 (i + 1).toNat) (wsc E.1 (i + 2).toNat) h _ hL e1) dL_law_753 cw_L_95 ⟨_, _, rfl, Nat.le_of_ble_eq_true rfl⟩ rfl rfl (Nat.le_of_ble_eq_true rfl) ⟨hv.1, hv.2⟩ rfl (fun rv hh hp _ => ?_)
  obtain ⟨rfl, rfl, hL⟩ := hp
  refine x_aload_n (i := 2) (b := 757) dL_law_756 rfl rfl rfl ?_
  refine x_aload_n (i := 0) (b := 758) dL_law_757 rfl rfl rfl ?_
  refine x_iload (i := 4) (b := 760) dL_law_758 rfl rfl ?_
  refine x_iconst (n := 1) (b := 761) dL_law_760 (by decide) rfl ?_
  refine x_iadd (b := 762) dL_law_761 (ib 1 (by decide) (by decide)).1 rfl ?_
  refine x_sld (b := 763) dL_law_762 (ib 1 (by decide) (by decide)).2 rfl ?_
  refine x_aload_n (i := 0) (b := 764) dL_law_763 rfl rfl rfl ?_
  refine x_iload (i := 4) (b := 766) dL_law_764 rfl rfl ?_
  refine x_iconst (n := 2) (b := 767) dL_law_766 (by decide) rfl ?_
  refine x_iadd (b := 768) dL_law_767 (ib 2 (by decide) (by decide)).1 rfl ?_
  refine x_sld (b := 769) dL_law_768 (ib 2 (by decide) (by decide)).2 rfl ?_
  obtain ⟨v2, h2, e2, a2, r2, f2⟩ := kR h1 (IR_cl w fx r)
  refine x_callV (as := [xi (wsc E.1 (i + 1).toNat), xi (wsc E.1 (i + 2).toNat)]) (rest := [xi v1]) (b := 772) (c_X12_power 1308 (wsc E.1 (i + 1).toNat) (wsc E.1 (i + 2).toNat) h1 _ hL e2) dL_law_769 cw_L_98 ⟨_, _, rfl, Nat.le_of_ble_eq_true rfl⟩ rfl rfl (Nat.le_of_ble_eq_true rfl) ⟨hv.1, hv.2⟩ rfl (fun rv hh hp _ => ?_)
  obtain ⟨rfl, rfl, hL⟩ := hp
  refine x_icmp_eq (tgt := 1102) (b := 775) dL_law_772 (by decide) rfl (fun _ => ?_) (fun hc => absurd (a1.trans a2.symm) hc)
  exact x_wd (Nat.le_succ u.1) (Nat.le_add_right u.2 6) (kT h2 (lw_nx w2 q2 fx r2 f2 kk hL))
theorem dL_law_777 : decode cL_law 777 = .ok (.aload_n 1, 1) := by decide +kernel
theorem dL_law_778 : decode cL_law 778 = .ok (.aload_n 0, 1) := by decide +kernel
theorem dL_law_779 : decode cL_law 779 = .ok (.iload 4, 2) := by decide +kernel
theorem dL_law_781 : decode cL_law 781 = .ok (.iconst 1, 1) := by decide +kernel
theorem dL_law_782 : decode cL_law 782 = .ok (.iadd, 1) := by decide +kernel
theorem dL_law_783 : decode cL_law 783 = .ok (.iaload, 1) := by decide +kernel
theorem dL_law_784 : decode cL_law 784 = .ok (.aload_n 0, 1) := by decide +kernel
theorem dL_law_785 : decode cL_law 785 = .ok (.iload 4, 2) := by decide +kernel
theorem dL_law_787 : decode cL_law 787 = .ok (.iconst 2, 1) := by decide +kernel
theorem dL_law_788 : decode cL_law 788 = .ok (.iadd, 1) := by decide +kernel
theorem dL_law_789 : decode cL_law 789 = .ok (.iaload, 1) := by decide +kernel
theorem dL_law_790 : decode cL_law 790 = .ok (.invokevirtual 99, 3) := by decide +kernel
theorem dL_law_793 : decode cL_law 793 = .ok (.aload_n 2, 1) := by decide +kernel
theorem dL_law_794 : decode cL_law 794 = .ok (.aload_n 0, 1) := by decide +kernel
theorem dL_law_795 : decode cL_law 795 = .ok (.iload 4, 2) := by decide +kernel
theorem dL_law_797 : decode cL_law 797 = .ok (.iconst 1, 1) := by decide +kernel
theorem dL_law_798 : decode cL_law 798 = .ok (.iadd, 1) := by decide +kernel
theorem dL_law_799 : decode cL_law 799 = .ok (.iaload, 1) := by decide +kernel
theorem dL_law_800 : decode cL_law 800 = .ok (.aload_n 0, 1) := by decide +kernel
theorem dL_law_801 : decode cL_law 801 = .ok (.iload 4, 2) := by decide +kernel
theorem dL_law_803 : decode cL_law 803 = .ok (.iconst 2, 1) := by decide +kernel
theorem dL_law_804 : decode cL_law 804 = .ok (.iadd, 1) := by decide +kernel
theorem dL_law_805 : decode cL_law 805 = .ok (.iaload, 1) := by decide +kernel
theorem dL_law_806 : decode cL_law 806 = .ok (.invokevirtual 102, 3) := by decide +kernel
theorem dL_law_809 : decode cL_law 809 = .ok (.if_icmp .eq 293, 3) := by decide +kernel
set_option maxHeartbeats 4000000 in
set_option maxRecDepth 100000 in
theorem lc_17 {E : xE} {u : Nat × Nat} {i : Int} {h : Hp} (hu : u.1 + 1 ≤ 601024 ∧ u.2 + 6 ≤ 7293034) (ib : lwB E i) (inv : lwI h) (kT : ∀ h9 : Hp, lwI h9 → X E mL_law 1312 (601024, 7293034) (u.1 + 1, u.2 + 6) 1102 (lwL i) [] h9 lwQ) : X E mL_law 1312 (601024, 7293034) u 777 (lwL i) [] h lwQ := by
  have hv : u.1 ≤ 601024 ∧ u.2 ≤ 7293034 := ⟨Nat.le_of_succ_le hu.1, Nat.le_trans (Nat.le_add_right _ 6) hu.2⟩
  obtain ⟨hL, c, σ, w, q, r, kk⟩ := inv
  refine x_aload_n (i := 1) (b := 778) dL_law_777 rfl rfl rfl ?_
  refine x_aload_n (i := 0) (b := 779) dL_law_778 rfl rfl rfl ?_
  refine x_iload (i := 4) (b := 781) dL_law_779 rfl rfl ?_
  refine x_iconst (n := 1) (b := 782) dL_law_781 (by decide) rfl ?_
  refine x_iadd (b := 783) dL_law_782 (ib 1 (by decide) (by decide)).1 rfl ?_
  refine x_sld (b := 784) dL_law_783 (ib 1 (by decide) (by decide)).2 rfl ?_
  refine x_aload_n (i := 0) (b := 785) dL_law_784 rfl rfl rfl ?_
  refine x_iload (i := 4) (b := 787) dL_law_785 rfl rfl ?_
  refine x_iconst (n := 2) (b := 788) dL_law_787 (by decide) rfl ?_
  refine x_iadd (b := 789) dL_law_788 (ib 2 (by decide) (by decide)).1 rfl ?_
  refine x_sld (b := 790) dL_law_789 (ib 2 (by decide) (by decide)).2 rfl ?_
  obtain ⟨a, σ2, w2, ⟨v1, h1, e1, a1, ⟨c2, q2⟩, fx⟩, kR⟩ := @agr_taken (wsc E.1 (i + 1).toNat) (wsc E.1 (i + 2).toNat) h c σ w q
  refine x_callV (as := [xi (wsc E.1 (i + 1).toNat), xi (wsc E.1 (i + 2).toNat)]) (rest := []) (b := 793) (c_X11_taken 1308 (wsc E.1 (i + 1).toNat) (wsc E.1 (i + 2).toNat) h _ hL e1) dL_law_790 cw_L_99 ⟨_, _, rfl, Nat.le_of_ble_eq_true rfl⟩ rfl rfl (Nat.le_of_ble_eq_true rfl) ⟨hv.1, hv.2⟩ rfl (fun rv hh hp _ => ?_)
  obtain ⟨rfl, rfl, hL⟩ := hp
  refine x_aload_n (i := 2) (b := 794) dL_law_793 rfl rfl rfl ?_
  refine x_aload_n (i := 0) (b := 795) dL_law_794 rfl rfl rfl ?_
  refine x_iload (i := 4) (b := 797) dL_law_795 rfl rfl ?_
  refine x_iconst (n := 1) (b := 798) dL_law_797 (by decide) rfl ?_
  refine x_iadd (b := 799) dL_law_798 (ib 1 (by decide) (by decide)).1 rfl ?_
  refine x_sld (b := 800) dL_law_799 (ib 1 (by decide) (by decide)).2 rfl ?_
  refine x_aload_n (i := 0) (b := 801) dL_law_800 rfl rfl rfl ?_
  refine x_iload (i := 4) (b := 803) dL_law_801 rfl rfl ?_
  refine x_iconst (n := 2) (b := 804) dL_law_803 (by decide) rfl ?_
  refine x_iadd (b := 805) dL_law_804 (ib 2 (by decide) (by decide)).1 rfl ?_
  refine x_sld (b := 806) dL_law_805 (ib 2 (by decide) (by decide)).2 rfl ?_
  obtain ⟨v2, h2, e2, a2, r2, f2⟩ := kR h1 (IR_cl w fx r)
  refine x_callV (as := [xi (wsc E.1 (i + 1).toNat), xi (wsc E.1 (i + 2).toNat)]) (rest := [xi v1]) (b := 809) (c_X12_taken 1309 (wsc E.1 (i + 1).toNat) (wsc E.1 (i + 2).toNat) h1 _ hL e2) dL_law_806 cw_L_102 ⟨_, _, rfl, Nat.le_of_ble_eq_true rfl⟩ rfl rfl (Nat.le_of_ble_eq_true rfl) ⟨hv.1, hv.2⟩ rfl (fun rv hh hp _ => ?_)
  obtain ⟨rfl, rfl, hL⟩ := hp
  refine x_icmp_eq (tgt := 1102) (b := 812) dL_law_809 (by decide) rfl (fun _ => ?_) (fun hc => absurd (a1.trans a2.symm) hc)
  exact x_wd (Nat.le_succ u.1) (Nat.le_add_right u.2 6) (kT h2 (lw_nx w2 q2 fx r2 f2 kk hL))
theorem dL_law_814 : decode cL_law 814 = .ok (.aload_n 1, 1) := by decide +kernel
theorem dL_law_815 : decode cL_law 815 = .ok (.aload_n 0, 1) := by decide +kernel
theorem dL_law_816 : decode cL_law 816 = .ok (.iload 4, 2) := by decide +kernel
theorem dL_law_818 : decode cL_law 818 = .ok (.iconst 1, 1) := by decide +kernel
theorem dL_law_819 : decode cL_law 819 = .ok (.iadd, 1) := by decide +kernel
theorem dL_law_820 : decode cL_law 820 = .ok (.iaload, 1) := by decide +kernel
theorem dL_law_821 : decode cL_law 821 = .ok (.aload_n 0, 1) := by decide +kernel
theorem dL_law_822 : decode cL_law 822 = .ok (.iload 4, 2) := by decide +kernel
theorem dL_law_824 : decode cL_law 824 = .ok (.iconst 2, 1) := by decide +kernel
theorem dL_law_825 : decode cL_law 825 = .ok (.iadd, 1) := by decide +kernel
theorem dL_law_826 : decode cL_law 826 = .ok (.iaload, 1) := by decide +kernel
theorem dL_law_827 : decode cL_law 827 = .ok (.invokevirtual 103, 3) := by decide +kernel
theorem dL_law_830 : decode cL_law 830 = .ok (.aload_n 2, 1) := by decide +kernel
theorem dL_law_831 : decode cL_law 831 = .ok (.aload_n 0, 1) := by decide +kernel
theorem dL_law_832 : decode cL_law 832 = .ok (.iload 4, 2) := by decide +kernel
theorem dL_law_834 : decode cL_law 834 = .ok (.iconst 1, 1) := by decide +kernel
theorem dL_law_835 : decode cL_law 835 = .ok (.iadd, 1) := by decide +kernel
theorem dL_law_836 : decode cL_law 836 = .ok (.iaload, 1) := by decide +kernel
theorem dL_law_837 : decode cL_law 837 = .ok (.aload_n 0, 1) := by decide +kernel
theorem dL_law_838 : decode cL_law 838 = .ok (.iload 4, 2) := by decide +kernel
theorem dL_law_840 : decode cL_law 840 = .ok (.iconst 2, 1) := by decide +kernel
theorem dL_law_841 : decode cL_law 841 = .ok (.iadd, 1) := by decide +kernel
theorem dL_law_842 : decode cL_law 842 = .ok (.iaload, 1) := by decide +kernel
theorem dL_law_843 : decode cL_law 843 = .ok (.invokevirtual 106, 3) := by decide +kernel
theorem dL_law_846 : decode cL_law 846 = .ok (.if_icmp .eq 256, 3) := by decide +kernel
set_option maxHeartbeats 4000000 in
set_option maxRecDepth 100000 in
theorem lc_18 {E : xE} {u : Nat × Nat} {i : Int} {h : Hp} (hu : u.1 + 1 ≤ 601024 ∧ u.2 + 6 ≤ 7293034) (ib : lwB E i) (inv : lwI h) (kT : ∀ h9 : Hp, lwI h9 → X E mL_law 1312 (601024, 7293034) (u.1 + 1, u.2 + 6) 1102 (lwL i) [] h9 lwQ) : X E mL_law 1312 (601024, 7293034) u 814 (lwL i) [] h lwQ := by
  have hv : u.1 ≤ 601024 ∧ u.2 ≤ 7293034 := ⟨Nat.le_of_succ_le hu.1, Nat.le_trans (Nat.le_add_right _ 6) hu.2⟩
  obtain ⟨hL, c, σ, w, q, r, kk⟩ := inv
  refine x_aload_n (i := 1) (b := 815) dL_law_814 rfl rfl rfl ?_
  refine x_aload_n (i := 0) (b := 816) dL_law_815 rfl rfl rfl ?_
  refine x_iload (i := 4) (b := 818) dL_law_816 rfl rfl ?_
  refine x_iconst (n := 1) (b := 819) dL_law_818 (by decide) rfl ?_
  refine x_iadd (b := 820) dL_law_819 (ib 1 (by decide) (by decide)).1 rfl ?_
  refine x_sld (b := 821) dL_law_820 (ib 1 (by decide) (by decide)).2 rfl ?_
  refine x_aload_n (i := 0) (b := 822) dL_law_821 rfl rfl rfl ?_
  refine x_iload (i := 4) (b := 824) dL_law_822 rfl rfl ?_
  refine x_iconst (n := 2) (b := 825) dL_law_824 (by decide) rfl ?_
  refine x_iadd (b := 826) dL_law_825 (ib 2 (by decide) (by decide)).1 rfl ?_
  refine x_sld (b := 827) dL_law_826 (ib 2 (by decide) (by decide)).2 rfl ?_
  obtain ⟨a, σ2, w2, ⟨v1, h1, e1, a1, ⟨c2, q2⟩, fx⟩, kR⟩ := @agr_washed (wsc E.1 (i + 1).toNat) (wsc E.1 (i + 2).toNat) h c σ w q
  refine x_callV (as := [xi (wsc E.1 (i + 1).toNat), xi (wsc E.1 (i + 2).toNat)]) (rest := []) (b := 830) (c_X11_washed 1308 (wsc E.1 (i + 1).toNat) (wsc E.1 (i + 2).toNat) h _ hL e1) dL_law_827 cw_L_103 ⟨_, _, rfl, Nat.le_of_ble_eq_true rfl⟩ rfl rfl (Nat.le_of_ble_eq_true rfl) ⟨hv.1, hv.2⟩ rfl (fun rv hh hp _ => ?_)
  obtain ⟨rfl, rfl, hL⟩ := hp
  refine x_aload_n (i := 2) (b := 831) dL_law_830 rfl rfl rfl ?_
  refine x_aload_n (i := 0) (b := 832) dL_law_831 rfl rfl rfl ?_
  refine x_iload (i := 4) (b := 834) dL_law_832 rfl rfl ?_
  refine x_iconst (n := 1) (b := 835) dL_law_834 (by decide) rfl ?_
  refine x_iadd (b := 836) dL_law_835 (ib 1 (by decide) (by decide)).1 rfl ?_
  refine x_sld (b := 837) dL_law_836 (ib 1 (by decide) (by decide)).2 rfl ?_
  refine x_aload_n (i := 0) (b := 838) dL_law_837 rfl rfl rfl ?_
  refine x_iload (i := 4) (b := 840) dL_law_838 rfl rfl ?_
  refine x_iconst (n := 2) (b := 841) dL_law_840 (by decide) rfl ?_
  refine x_iadd (b := 842) dL_law_841 (ib 2 (by decide) (by decide)).1 rfl ?_
  refine x_sld (b := 843) dL_law_842 (ib 2 (by decide) (by decide)).2 rfl ?_
  obtain ⟨v2, h2, e2, a2, r2, f2⟩ := kR h1 (IR_cl w fx r)
  refine x_callV (as := [xi (wsc E.1 (i + 1).toNat), xi (wsc E.1 (i + 2).toNat)]) (rest := [xi v1]) (b := 846) (c_X12_washed 1309 (wsc E.1 (i + 1).toNat) (wsc E.1 (i + 2).toNat) h1 _ hL e2) dL_law_843 cw_L_106 ⟨_, _, rfl, Nat.le_of_ble_eq_true rfl⟩ rfl rfl (Nat.le_of_ble_eq_true rfl) ⟨hv.1, hv.2⟩ rfl (fun rv hh hp _ => ?_)
  obtain ⟨rfl, rfl, hL⟩ := hp
  refine x_icmp_eq (tgt := 1102) (b := 849) dL_law_846 (by decide) rfl (fun _ => ?_) (fun hc => absurd (a1.trans a2.symm) hc)
  exact x_wd (Nat.le_succ u.1) (Nat.le_add_right u.2 6) (kT h2 (lw_nx w2 q2 fx r2 f2 kk hL))
theorem dL_law_851 : decode cL_law 851 = .ok (.aload_n 1, 1) := by decide +kernel
theorem dL_law_852 : decode cL_law 852 = .ok (.aload_n 0, 1) := by decide +kernel
theorem dL_law_853 : decode cL_law 853 = .ok (.iload 4, 2) := by decide +kernel
theorem dL_law_855 : decode cL_law 855 = .ok (.iconst 1, 1) := by decide +kernel
theorem dL_law_856 : decode cL_law 856 = .ok (.iadd, 1) := by decide +kernel
theorem dL_law_857 : decode cL_law 857 = .ok (.iaload, 1) := by decide +kernel
theorem dL_law_858 : decode cL_law 858 = .ok (.invokevirtual 107, 3) := by decide +kernel
theorem dL_law_861 : decode cL_law 861 = .ok (.aload_n 2, 1) := by decide +kernel
theorem dL_law_862 : decode cL_law 862 = .ok (.aload_n 0, 1) := by decide +kernel
theorem dL_law_863 : decode cL_law 863 = .ok (.iload 4, 2) := by decide +kernel
theorem dL_law_865 : decode cL_law 865 = .ok (.iconst 1, 1) := by decide +kernel
theorem dL_law_866 : decode cL_law 866 = .ok (.iadd, 1) := by decide +kernel
theorem dL_law_867 : decode cL_law 867 = .ok (.iaload, 1) := by decide +kernel
theorem dL_law_868 : decode cL_law 868 = .ok (.invokevirtual 110, 3) := by decide +kernel
theorem dL_law_871 : decode cL_law 871 = .ok (.if_icmp .eq 231, 3) := by decide +kernel
set_option maxHeartbeats 4000000 in
set_option maxRecDepth 100000 in
theorem lc_19 {E : xE} {u : Nat × Nat} {i : Int} {h : Hp} (hu : u.1 + 1 ≤ 601024 ∧ u.2 + 6 ≤ 7293034) (ib : lwB E i) (inv : lwI h) (kT : ∀ h9 : Hp, lwI h9 → X E mL_law 1312 (601024, 7293034) (u.1 + 1, u.2 + 6) 1102 (lwL i) [] h9 lwQ) : X E mL_law 1312 (601024, 7293034) u 851 (lwL i) [] h lwQ := by
  have hv : u.1 ≤ 601024 ∧ u.2 ≤ 7293034 := ⟨Nat.le_of_succ_le hu.1, Nat.le_trans (Nat.le_add_right _ 6) hu.2⟩
  obtain ⟨hL, c, σ, w, q, r, kk⟩ := inv
  refine x_aload_n (i := 1) (b := 852) dL_law_851 rfl rfl rfl ?_
  refine x_aload_n (i := 0) (b := 853) dL_law_852 rfl rfl rfl ?_
  refine x_iload (i := 4) (b := 855) dL_law_853 rfl rfl ?_
  refine x_iconst (n := 1) (b := 856) dL_law_855 (by decide) rfl ?_
  refine x_iadd (b := 857) dL_law_856 (ib 1 (by decide) (by decide)).1 rfl ?_
  refine x_sld (b := 858) dL_law_857 (ib 1 (by decide) (by decide)).2 rfl ?_
  obtain ⟨a, σ2, w2, ⟨v1, h1, e1, a1, ⟨c2, q2⟩, fx⟩, kR⟩ := @agr_strike (wsc E.1 (i + 1).toNat) h c σ w q
  refine x_callV (as := [xi (wsc E.1 (i + 1).toNat)]) (rest := []) (b := 861) (c_X11_strike 1308 (wsc E.1 (i + 1).toNat) h _ hL e1) dL_law_858 cw_L_107 ⟨_, _, rfl, Nat.le_of_ble_eq_true rfl⟩ rfl rfl (Nat.le_of_ble_eq_true rfl) ⟨hv.1, hv.2⟩ rfl (fun rv hh hp _ => ?_)
  obtain ⟨rfl, rfl, hL⟩ := hp
  refine x_aload_n (i := 2) (b := 862) dL_law_861 rfl rfl rfl ?_
  refine x_aload_n (i := 0) (b := 863) dL_law_862 rfl rfl rfl ?_
  refine x_iload (i := 4) (b := 865) dL_law_863 rfl rfl ?_
  refine x_iconst (n := 1) (b := 866) dL_law_865 (by decide) rfl ?_
  refine x_iadd (b := 867) dL_law_866 (ib 1 (by decide) (by decide)).1 rfl ?_
  refine x_sld (b := 868) dL_law_867 (ib 1 (by decide) (by decide)).2 rfl ?_
  obtain ⟨v2, h2, e2, a2, r2, f2⟩ := kR h1 (IR_cl w fx r)
  refine x_callV (as := [xi (wsc E.1 (i + 1).toNat)]) (rest := [xi v1]) (b := 871) (c_X12_strike 1309 (wsc E.1 (i + 1).toNat) h1 _ hL e2) dL_law_868 cw_L_110 ⟨_, _, rfl, Nat.le_of_ble_eq_true rfl⟩ rfl rfl (Nat.le_of_ble_eq_true rfl) ⟨hv.1, hv.2⟩ rfl (fun rv hh hp _ => ?_)
  obtain ⟨rfl, rfl, hL⟩ := hp
  refine x_icmp_eq (tgt := 1102) (b := 874) dL_law_871 (by decide) rfl (fun _ => ?_) (fun hc => absurd (a1.trans a2.symm) hc)
  exact x_wd (Nat.le_succ u.1) (Nat.le_add_right u.2 6) (kT h2 (lw_nx w2 q2 fx r2 f2 kk hL))
theorem dL_law_876 : decode cL_law 876 = .ok (.aload_n 1, 1) := by decide +kernel
theorem dL_law_877 : decode cL_law 877 = .ok (.aload_n 0, 1) := by decide +kernel
theorem dL_law_878 : decode cL_law 878 = .ok (.iload 4, 2) := by decide +kernel
theorem dL_law_880 : decode cL_law 880 = .ok (.iconst 1, 1) := by decide +kernel
theorem dL_law_881 : decode cL_law 881 = .ok (.iadd, 1) := by decide +kernel
theorem dL_law_882 : decode cL_law 882 = .ok (.iaload, 1) := by decide +kernel
theorem dL_law_883 : decode cL_law 883 = .ok (.invokevirtual 111, 3) := by decide +kernel
theorem dL_law_886 : decode cL_law 886 = .ok (.aload_n 2, 1) := by decide +kernel
theorem dL_law_887 : decode cL_law 887 = .ok (.aload_n 0, 1) := by decide +kernel
theorem dL_law_888 : decode cL_law 888 = .ok (.iload 4, 2) := by decide +kernel
theorem dL_law_890 : decode cL_law 890 = .ok (.iconst 1, 1) := by decide +kernel
theorem dL_law_891 : decode cL_law 891 = .ok (.iadd, 1) := by decide +kernel
theorem dL_law_892 : decode cL_law 892 = .ok (.iaload, 1) := by decide +kernel
theorem dL_law_893 : decode cL_law 893 = .ok (.invokevirtual 114, 3) := by decide +kernel
theorem dL_law_896 : decode cL_law 896 = .ok (.if_icmp .eq 206, 3) := by decide +kernel
set_option maxHeartbeats 4000000 in
set_option maxRecDepth 100000 in
theorem lc_20 {E : xE} {u : Nat × Nat} {i : Int} {h : Hp} (hu : u.1 + 1 ≤ 601024 ∧ u.2 + 6 ≤ 7293034) (ib : lwB E i) (inv : lwI h) (kT : ∀ h9 : Hp, lwI h9 → X E mL_law 1312 (601024, 7293034) (u.1 + 1, u.2 + 6) 1102 (lwL i) [] h9 lwQ) : X E mL_law 1312 (601024, 7293034) u 876 (lwL i) [] h lwQ := by
  have hv : u.1 ≤ 601024 ∧ u.2 ≤ 7293034 := ⟨Nat.le_of_succ_le hu.1, Nat.le_trans (Nat.le_add_right _ 6) hu.2⟩
  obtain ⟨hL, c, σ, w, q, r, kk⟩ := inv
  refine x_aload_n (i := 1) (b := 877) dL_law_876 rfl rfl rfl ?_
  refine x_aload_n (i := 0) (b := 878) dL_law_877 rfl rfl rfl ?_
  refine x_iload (i := 4) (b := 880) dL_law_878 rfl rfl ?_
  refine x_iconst (n := 1) (b := 881) dL_law_880 (by decide) rfl ?_
  refine x_iadd (b := 882) dL_law_881 (ib 1 (by decide) (by decide)).1 rfl ?_
  refine x_sld (b := 883) dL_law_882 (ib 1 (by decide) (by decide)).2 rfl ?_
  obtain ⟨a, σ2, w2, ⟨v1, h1, e1, a1, ⟨c2, q2⟩, fx⟩, kR⟩ := @agr_known (wsc E.1 (i + 1).toNat) h c σ w q
  refine x_callV (as := [xi (wsc E.1 (i + 1).toNat)]) (rest := []) (b := 886) (c_X11_known 1310 (wsc E.1 (i + 1).toNat) h _ hL e1) dL_law_883 cw_L_111 ⟨_, _, rfl, Nat.le_of_ble_eq_true rfl⟩ rfl rfl (Nat.le_of_ble_eq_true rfl) ⟨hv.1, hv.2⟩ rfl (fun rv hh hp _ => ?_)
  obtain ⟨rfl, rfl, hL⟩ := hp
  refine x_aload_n (i := 2) (b := 887) dL_law_886 rfl rfl rfl ?_
  refine x_aload_n (i := 0) (b := 888) dL_law_887 rfl rfl rfl ?_
  refine x_iload (i := 4) (b := 890) dL_law_888 rfl rfl ?_
  refine x_iconst (n := 1) (b := 891) dL_law_890 (by decide) rfl ?_
  refine x_iadd (b := 892) dL_law_891 (ib 1 (by decide) (by decide)).1 rfl ?_
  refine x_sld (b := 893) dL_law_892 (ib 1 (by decide) (by decide)).2 rfl ?_
  obtain ⟨v2, h2, e2, a2, r2, f2⟩ := kR h1 (IR_cl w fx r)
  refine x_callV (as := [xi (wsc E.1 (i + 1).toNat)]) (rest := [xi v1]) (b := 896) (c_X12_known 1310 (wsc E.1 (i + 1).toNat) h1 _ hL e2) dL_law_893 cw_L_114 ⟨_, _, rfl, Nat.le_of_ble_eq_true rfl⟩ rfl rfl (Nat.le_of_ble_eq_true rfl) ⟨hv.1, hv.2⟩ rfl (fun rv hh hp _ => ?_)
  obtain ⟨rfl, rfl, hL⟩ := hp
  refine x_icmp_eq (tgt := 1102) (b := 899) dL_law_896 (by decide) rfl (fun _ => ?_) (fun hc => absurd (a1.trans a2.symm) hc)
  exact x_wd (Nat.le_succ u.1) (Nat.le_add_right u.2 6) (kT h2 (lw_nx w2 q2 fx r2 f2 kk hL))
