/-! THE LAW, 6: cases 21, 22, 23, 24, 25 -/
theorem dL_law_901 : decode cL_law 901 = .ok (.aload_n 1, 1) := by decide +kernel
theorem dL_law_902 : decode cL_law 902 = .ok (.invokevirtual 115, 3) := by decide +kernel
theorem dL_law_905 : decode cL_law 905 = .ok (.aload_n 2, 1) := by decide +kernel
theorem dL_law_906 : decode cL_law 906 = .ok (.invokevirtual 118, 3) := by decide +kernel
theorem dL_law_909 : decode cL_law 909 = .ok (.if_icmp .eq 193, 3) := by decide +kernel
set_option maxHeartbeats 4000000 in
set_option maxRecDepth 100000 in
theorem lc_21 {E : xE} {u : Nat × Nat} {i : Int} {h : Hp} (hu : u.1 + 1 ≤ 601024 ∧ u.2 + 6 ≤ 7293034) (ib : lwB E i) (inv : lwI h) (kT : ∀ h9 : Hp, lwI h9 → X E mL_law 1312 (601024, 7293034) (u.1 + 1, u.2 + 6) 1102 (lwL i) [] h9 lwQ) : X E mL_law 1312 (601024, 7293034) u 901 (lwL i) [] h lwQ := by
  have hv : u.1 ≤ 601024 ∧ u.2 ≤ 7293034 := ⟨Nat.le_of_succ_le hu.1, Nat.le_trans (Nat.le_add_right _ 6) hu.2⟩
  obtain ⟨hL, c, σ, w, q, r, kk⟩ := inv
  refine x_aload_n (i := 1) (b := 902) dL_law_901 rfl rfl rfl ?_
  obtain ⟨a, σ2, w2, ⟨v1, h1, e1, a1, ⟨c2, q2⟩, fx⟩, kR⟩ := agr_fits h c σ w q
  refine x_callV (as := []) (rest := []) (b := 905) (c_X11_fits 1303 h _ hL e1) dL_law_902 cw_L_115 ⟨_, _, rfl, Nat.le_of_ble_eq_true rfl⟩ rfl rfl (Nat.le_of_ble_eq_true rfl) ⟨hv.1, hv.2⟩ rfl (fun rv hh hp _ => ?_)
  obtain ⟨rfl, rfl, hL⟩ := hp
  refine x_aload_n (i := 2) (b := 906) dL_law_905 rfl rfl rfl ?_
  obtain ⟨v2, h2, e2, a2, r2, f2⟩ := kR h1 (IR_cl w fx r)
  refine x_callV (as := []) (rest := [xi v1]) (b := 909) (c_X12_fits 1303 h1 _ hL e2) dL_law_906 cw_L_118 ⟨_, _, rfl, Nat.le_of_ble_eq_true rfl⟩ rfl rfl (Nat.le_of_ble_eq_true rfl) ⟨hv.1, hv.2⟩ rfl (fun rv hh hp _ => ?_)
  obtain ⟨rfl, rfl, hL⟩ := hp
  refine x_icmp_eq (tgt := 1102) (b := 912) dL_law_909 (by decide) rfl (fun _ => ?_) (fun hc => absurd (a1.trans a2.symm) hc)
  exact x_wd (Nat.le_succ u.1) (Nat.le_add_right u.2 6) (kT h2 (lw_nx w2 q2 fx r2 f2 kk hL))
theorem dL_law_914 : decode cL_law 914 = .ok (.aload_n 1, 1) := by decide +kernel
theorem dL_law_915 : decode cL_law 915 = .ok (.aload_n 0, 1) := by decide +kernel
theorem dL_law_916 : decode cL_law 916 = .ok (.iload 4, 2) := by decide +kernel
theorem dL_law_918 : decode cL_law 918 = .ok (.iconst 1, 1) := by decide +kernel
theorem dL_law_919 : decode cL_law 919 = .ok (.iadd, 1) := by decide +kernel
theorem dL_law_920 : decode cL_law 920 = .ok (.iaload, 1) := by decide +kernel
theorem dL_law_921 : decode cL_law 921 = .ok (.invokevirtual 119, 3) := by decide +kernel
theorem dL_law_924 : decode cL_law 924 = .ok (.aload_n 2, 1) := by decide +kernel
theorem dL_law_925 : decode cL_law 925 = .ok (.aload_n 0, 1) := by decide +kernel
theorem dL_law_926 : decode cL_law 926 = .ok (.iload 4, 2) := by decide +kernel
theorem dL_law_928 : decode cL_law 928 = .ok (.iconst 1, 1) := by decide +kernel
theorem dL_law_929 : decode cL_law 929 = .ok (.iadd, 1) := by decide +kernel
theorem dL_law_930 : decode cL_law 930 = .ok (.iaload, 1) := by decide +kernel
theorem dL_law_931 : decode cL_law 931 = .ok (.invokevirtual 122, 3) := by decide +kernel
theorem dL_law_934 : decode cL_law 934 = .ok (.if_icmp .eq 168, 3) := by decide +kernel
set_option maxHeartbeats 4000000 in
set_option maxRecDepth 100000 in
theorem lc_22 {E : xE} {u : Nat × Nat} {i : Int} {h : Hp} (hu : u.1 + 1 ≤ 601024 ∧ u.2 + 6 ≤ 7293034) (ib : lwB E i) (inv : lwI h) (kT : ∀ h9 : Hp, lwI h9 → X E mL_law 1312 (601024, 7293034) (u.1 + 1, u.2 + 6) 1102 (lwL i) [] h9 lwQ) : X E mL_law 1312 (601024, 7293034) u 914 (lwL i) [] h lwQ := by
  have hv : u.1 ≤ 601024 ∧ u.2 ≤ 7293034 := ⟨Nat.le_of_succ_le hu.1, Nat.le_trans (Nat.le_add_right _ 6) hu.2⟩
  obtain ⟨hL, c, σ, w, q, r, kk⟩ := inv
  refine x_aload_n (i := 1) (b := 915) dL_law_914 rfl rfl rfl ?_
  refine x_aload_n (i := 0) (b := 916) dL_law_915 rfl rfl rfl ?_
  refine x_iload (i := 4) (b := 918) dL_law_916 rfl rfl ?_
  refine x_iconst (n := 1) (b := 919) dL_law_918 (by decide) rfl ?_
  refine x_iadd (b := 920) dL_law_919 (ib 1 (by decide) (by decide)).1 rfl ?_
  refine x_sld (b := 921) dL_law_920 (ib 1 (by decide) (by decide)).2 rfl ?_
  obtain ⟨a, σ2, w2, ⟨v1, h1, e1, a1, ⟨c2, q2⟩, fx⟩, kR⟩ := @agr_sure (wsc E.1 (i + 1).toNat) h c σ w q
  refine x_callV (as := [xi (wsc E.1 (i + 1).toNat)]) (rest := []) (b := 924) (c_X11_sure 1303 (wsc E.1 (i + 1).toNat) h _ hL e1) dL_law_921 cw_L_119 ⟨_, _, rfl, Nat.le_of_ble_eq_true rfl⟩ rfl rfl (Nat.le_of_ble_eq_true rfl) ⟨hv.1, hv.2⟩ rfl (fun rv hh hp _ => ?_)
  obtain ⟨rfl, rfl, hL⟩ := hp
  refine x_aload_n (i := 2) (b := 925) dL_law_924 rfl rfl rfl ?_
  refine x_aload_n (i := 0) (b := 926) dL_law_925 rfl rfl rfl ?_
  refine x_iload (i := 4) (b := 928) dL_law_926 rfl rfl ?_
  refine x_iconst (n := 1) (b := 929) dL_law_928 (by decide) rfl ?_
  refine x_iadd (b := 930) dL_law_929 (ib 1 (by decide) (by decide)).1 rfl ?_
  refine x_sld (b := 931) dL_law_930 (ib 1 (by decide) (by decide)).2 rfl ?_
  obtain ⟨v2, h2, e2, a2, r2, f2⟩ := kR h1 (IR_cl w fx r)
  refine x_callV (as := [xi (wsc E.1 (i + 1).toNat)]) (rest := [xi v1]) (b := 934) (c_X12_sure 1302 (wsc E.1 (i + 1).toNat) h1 _ hL e2) dL_law_931 cw_L_122 ⟨_, _, rfl, Nat.le_of_ble_eq_true rfl⟩ rfl rfl (Nat.le_of_ble_eq_true rfl) ⟨hv.1, hv.2⟩ rfl (fun rv hh hp _ => ?_)
  obtain ⟨rfl, rfl, hL⟩ := hp
  refine x_icmp_eq (tgt := 1102) (b := 937) dL_law_934 (by decide) rfl (fun _ => ?_) (fun hc => absurd (a1.trans a2.symm) hc)
  exact x_wd (Nat.le_succ u.1) (Nat.le_add_right u.2 6) (kT h2 (lw_nx w2 q2 fx r2 f2 kk hL))
theorem dL_law_939 : decode cL_law 939 = .ok (.aload_n 1, 1) := by decide +kernel
theorem dL_law_940 : decode cL_law 940 = .ok (.aload_n 0, 1) := by decide +kernel
theorem dL_law_941 : decode cL_law 941 = .ok (.iload 4, 2) := by decide +kernel
theorem dL_law_943 : decode cL_law 943 = .ok (.iconst 1, 1) := by decide +kernel
theorem dL_law_944 : decode cL_law 944 = .ok (.iadd, 1) := by decide +kernel
theorem dL_law_945 : decode cL_law 945 = .ok (.iaload, 1) := by decide +kernel
theorem dL_law_946 : decode cL_law 946 = .ok (.aload_n 0, 1) := by decide +kernel
theorem dL_law_947 : decode cL_law 947 = .ok (.iload 4, 2) := by decide +kernel
theorem dL_law_949 : decode cL_law 949 = .ok (.iconst 2, 1) := by decide +kernel
theorem dL_law_950 : decode cL_law 950 = .ok (.iadd, 1) := by decide +kernel
theorem dL_law_951 : decode cL_law 951 = .ok (.iaload, 1) := by decide +kernel
theorem dL_law_952 : decode cL_law 952 = .ok (.invokevirtual 123, 3) := by decide +kernel
theorem dL_law_955 : decode cL_law 955 = .ok (.aload_n 2, 1) := by decide +kernel
theorem dL_law_956 : decode cL_law 956 = .ok (.aload_n 0, 1) := by decide +kernel
theorem dL_law_957 : decode cL_law 957 = .ok (.iload 4, 2) := by decide +kernel
theorem dL_law_959 : decode cL_law 959 = .ok (.iconst 1, 1) := by decide +kernel
theorem dL_law_960 : decode cL_law 960 = .ok (.iadd, 1) := by decide +kernel
theorem dL_law_961 : decode cL_law 961 = .ok (.iaload, 1) := by decide +kernel
theorem dL_law_962 : decode cL_law 962 = .ok (.aload_n 0, 1) := by decide +kernel
theorem dL_law_963 : decode cL_law 963 = .ok (.iload 4, 2) := by decide +kernel
theorem dL_law_965 : decode cL_law 965 = .ok (.iconst 2, 1) := by decide +kernel
theorem dL_law_966 : decode cL_law 966 = .ok (.iadd, 1) := by decide +kernel
theorem dL_law_967 : decode cL_law 967 = .ok (.iaload, 1) := by decide +kernel
theorem dL_law_968 : decode cL_law 968 = .ok (.invokevirtual 126, 3) := by decide +kernel
theorem dL_law_971 : decode cL_law 971 = .ok (.if_icmp .eq 131, 3) := by decide +kernel
set_option maxHeartbeats 4000000 in
set_option maxRecDepth 100000 in
theorem lc_23 {E : xE} {u : Nat × Nat} {i : Int} {h : Hp} (hu : u.1 + 1 ≤ 601024 ∧ u.2 + 6 ≤ 7293034) (ib : lwB E i) (inv : lwI h) (kT : ∀ h9 : Hp, lwI h9 → X E mL_law 1312 (601024, 7293034) (u.1 + 1, u.2 + 6) 1102 (lwL i) [] h9 lwQ) : X E mL_law 1312 (601024, 7293034) u 939 (lwL i) [] h lwQ := by
  have hv : u.1 ≤ 601024 ∧ u.2 ≤ 7293034 := ⟨Nat.le_of_succ_le hu.1, Nat.le_trans (Nat.le_add_right _ 6) hu.2⟩
  obtain ⟨hL, c, σ, w, q, r, kk⟩ := inv
  refine x_aload_n (i := 1) (b := 940) dL_law_939 rfl rfl rfl ?_
  refine x_aload_n (i := 0) (b := 941) dL_law_940 rfl rfl rfl ?_
  refine x_iload (i := 4) (b := 943) dL_law_941 rfl rfl ?_
  refine x_iconst (n := 1) (b := 944) dL_law_943 (by decide) rfl ?_
  refine x_iadd (b := 945) dL_law_944 (ib 1 (by decide) (by decide)).1 rfl ?_
  refine x_sld (b := 946) dL_law_945 (ib 1 (by decide) (by decide)).2 rfl ?_
  refine x_aload_n (i := 0) (b := 947) dL_law_946 rfl rfl rfl ?_
  refine x_iload (i := 4) (b := 949) dL_law_947 rfl rfl ?_
  refine x_iconst (n := 2) (b := 950) dL_law_949 (by decide) rfl ?_
  refine x_iadd (b := 951) dL_law_950 (ib 2 (by decide) (by decide)).1 rfl ?_
  refine x_sld (b := 952) dL_law_951 (ib 2 (by decide) (by decide)).2 rfl ?_
  obtain ⟨a, σ2, w2, ⟨v1, h1, e1, a1, ⟨c2, q2⟩, fx⟩, kR⟩ := @agr_odds (wsc E.1 (i + 1).toNat) (wsc E.1 (i + 2).toNat) h c σ w q
  refine x_callV (as := [xi (wsc E.1 (i + 1).toNat), xi (wsc E.1 (i + 2).toNat)]) (rest := []) (b := 955) (c_X11_odds 1303 (wsc E.1 (i + 1).toNat) (wsc E.1 (i + 2).toNat) h _ hL e1) dL_law_952 cw_L_123 ⟨_, _, rfl, Nat.le_of_ble_eq_true rfl⟩ rfl rfl (Nat.le_of_ble_eq_true rfl) ⟨hv.1, hv.2⟩ rfl (fun rv hh hp _ => ?_)
  obtain ⟨rfl, rfl, hL⟩ := hp
  refine x_aload_n (i := 2) (b := 956) dL_law_955 rfl rfl rfl ?_
  refine x_aload_n (i := 0) (b := 957) dL_law_956 rfl rfl rfl ?_
  refine x_iload (i := 4) (b := 959) dL_law_957 rfl rfl ?_
  refine x_iconst (n := 1) (b := 960) dL_law_959 (by decide) rfl ?_
  refine x_iadd (b := 961) dL_law_960 (ib 1 (by decide) (by decide)).1 rfl ?_
  refine x_sld (b := 962) dL_law_961 (ib 1 (by decide) (by decide)).2 rfl ?_
  refine x_aload_n (i := 0) (b := 963) dL_law_962 rfl rfl rfl ?_
  refine x_iload (i := 4) (b := 965) dL_law_963 rfl rfl ?_
  refine x_iconst (n := 2) (b := 966) dL_law_965 (by decide) rfl ?_
  refine x_iadd (b := 967) dL_law_966 (ib 2 (by decide) (by decide)).1 rfl ?_
  refine x_sld (b := 968) dL_law_967 (ib 2 (by decide) (by decide)).2 rfl ?_
  obtain ⟨v2, h2, e2, a2, r2, f2⟩ := kR h1 (IR_cl w fx r)
  refine x_callV (as := [xi (wsc E.1 (i + 1).toNat), xi (wsc E.1 (i + 2).toNat)]) (rest := [xi v1]) (b := 971) (c_X12_odds 1302 (wsc E.1 (i + 1).toNat) (wsc E.1 (i + 2).toNat) h1 _ hL e2) dL_law_968 cw_L_126 ⟨_, _, rfl, Nat.le_of_ble_eq_true rfl⟩ rfl rfl (Nat.le_of_ble_eq_true rfl) ⟨hv.1, hv.2⟩ rfl (fun rv hh hp _ => ?_)
  obtain ⟨rfl, rfl, hL⟩ := hp
  refine x_icmp_eq (tgt := 1102) (b := 974) dL_law_971 (by decide) rfl (fun _ => ?_) (fun hc => absurd (a1.trans a2.symm) hc)
  exact x_wd (Nat.le_succ u.1) (Nat.le_add_right u.2 6) (kT h2 (lw_nx w2 q2 fx r2 f2 kk hL))
theorem dL_law_976 : decode cL_law 976 = .ok (.aload_n 1, 1) := by decide +kernel
theorem dL_law_977 : decode cL_law 977 = .ok (.invokevirtual 127, 3) := by decide +kernel
theorem dL_law_980 : decode cL_law 980 = .ok (.aload_n 2, 1) := by decide +kernel
theorem dL_law_981 : decode cL_law 981 = .ok (.invokevirtual 130, 3) := by decide +kernel
theorem dL_law_984 : decode cL_law 984 = .ok (.if_icmp .eq 118, 3) := by decide +kernel
set_option maxHeartbeats 4000000 in
set_option maxRecDepth 100000 in
theorem lc_24 {E : xE} {u : Nat × Nat} {i : Int} {h : Hp} (hu : u.1 + 1 ≤ 601024 ∧ u.2 + 6 ≤ 7293034) (ib : lwB E i) (inv : lwI h) (kT : ∀ h9 : Hp, lwI h9 → X E mL_law 1312 (601024, 7293034) (u.1 + 1, u.2 + 6) 1102 (lwL i) [] h9 lwQ) : X E mL_law 1312 (601024, 7293034) u 976 (lwL i) [] h lwQ := by
  have hv : u.1 ≤ 601024 ∧ u.2 ≤ 7293034 := ⟨Nat.le_of_succ_le hu.1, Nat.le_trans (Nat.le_add_right _ 6) hu.2⟩
  obtain ⟨hL, c, σ, w, q, r, kk⟩ := inv
  refine x_aload_n (i := 1) (b := 977) dL_law_976 rfl rfl rfl ?_
  obtain ⟨a, σ2, w2, ⟨v1, h1, e1, a1, ⟨c2, q2⟩, fx⟩, kR⟩ := agr_fraud h c σ w q
  refine x_callV (as := []) (rest := []) (b := 980) (c_X11_fraud 1307 h _ hL e1) dL_law_977 cw_L_127 ⟨_, _, rfl, Nat.le_of_ble_eq_true rfl⟩ rfl rfl (Nat.le_of_ble_eq_true rfl) ⟨hv.1, hv.2⟩ rfl (fun rv hh hp _ => ?_)
  obtain ⟨rfl, rfl, hL⟩ := hp
  refine x_aload_n (i := 2) (b := 981) dL_law_980 rfl rfl rfl ?_
  obtain ⟨v2, h2, e2, a2, r2, f2⟩ := kR h1 (IR_cl w fx r)
  refine x_callV (as := []) (rest := [xi v1]) (b := 984) (c_X12_fraud 1308 h1 _ hL e2) dL_law_981 cw_L_130 ⟨_, _, rfl, Nat.le_of_ble_eq_true rfl⟩ rfl rfl (Nat.le_of_ble_eq_true rfl) ⟨hv.1, hv.2⟩ rfl (fun rv hh hp _ => ?_)
  obtain ⟨rfl, rfl, hL⟩ := hp
  refine x_icmp_eq (tgt := 1102) (b := 987) dL_law_984 (by decide) rfl (fun _ => ?_) (fun hc => absurd (a1.trans a2.symm) hc)
  exact x_wd (Nat.le_succ u.1) (Nat.le_add_right u.2 6) (kT h2 (lw_nx w2 q2 fx r2 f2 kk hL))
theorem dL_law_989 : decode cL_law 989 = .ok (.aload_n 1, 1) := by decide +kernel
theorem dL_law_990 : decode cL_law 990 = .ok (.aload_n 0, 1) := by decide +kernel
theorem dL_law_991 : decode cL_law 991 = .ok (.iload 4, 2) := by decide +kernel
theorem dL_law_993 : decode cL_law 993 = .ok (.iconst 1, 1) := by decide +kernel
theorem dL_law_994 : decode cL_law 994 = .ok (.iadd, 1) := by decide +kernel
theorem dL_law_995 : decode cL_law 995 = .ok (.iaload, 1) := by decide +kernel
theorem dL_law_996 : decode cL_law 996 = .ok (.aload_n 0, 1) := by decide +kernel
theorem dL_law_997 : decode cL_law 997 = .ok (.iload 4, 2) := by decide +kernel
theorem dL_law_999 : decode cL_law 999 = .ok (.iconst 2, 1) := by decide +kernel
theorem dL_law_1000 : decode cL_law 1000 = .ok (.iadd, 1) := by decide +kernel
theorem dL_law_1001 : decode cL_law 1001 = .ok (.iaload, 1) := by decide +kernel
theorem dL_law_1002 : decode cL_law 1002 = .ok (.aload_n 0, 1) := by decide +kernel
theorem dL_law_1003 : decode cL_law 1003 = .ok (.iload 4, 2) := by decide +kernel
theorem dL_law_1005 : decode cL_law 1005 = .ok (.iconst 3, 1) := by decide +kernel
theorem dL_law_1006 : decode cL_law 1006 = .ok (.iadd, 1) := by decide +kernel
theorem dL_law_1007 : decode cL_law 1007 = .ok (.iaload, 1) := by decide +kernel
theorem dL_law_1008 : decode cL_law 1008 = .ok (.invokevirtual 131, 3) := by decide +kernel
theorem dL_law_1011 : decode cL_law 1011 = .ok (.aload_n 2, 1) := by decide +kernel
theorem dL_law_1012 : decode cL_law 1012 = .ok (.aload_n 0, 1) := by decide +kernel
theorem dL_law_1013 : decode cL_law 1013 = .ok (.iload 4, 2) := by decide +kernel
theorem dL_law_1015 : decode cL_law 1015 = .ok (.iconst 1, 1) := by decide +kernel
theorem dL_law_1016 : decode cL_law 1016 = .ok (.iadd, 1) := by decide +kernel
theorem dL_law_1017 : decode cL_law 1017 = .ok (.iaload, 1) := by decide +kernel
theorem dL_law_1018 : decode cL_law 1018 = .ok (.aload_n 0, 1) := by decide +kernel
theorem dL_law_1019 : decode cL_law 1019 = .ok (.iload 4, 2) := by decide +kernel
theorem dL_law_1021 : decode cL_law 1021 = .ok (.iconst 2, 1) := by decide +kernel
theorem dL_law_1022 : decode cL_law 1022 = .ok (.iadd, 1) := by decide +kernel
theorem dL_law_1023 : decode cL_law 1023 = .ok (.iaload, 1) := by decide +kernel
theorem dL_law_1024 : decode cL_law 1024 = .ok (.aload_n 0, 1) := by decide +kernel
theorem dL_law_1025 : decode cL_law 1025 = .ok (.iload 4, 2) := by decide +kernel
theorem dL_law_1027 : decode cL_law 1027 = .ok (.iconst 3, 1) := by decide +kernel
theorem dL_law_1028 : decode cL_law 1028 = .ok (.iadd, 1) := by decide +kernel
theorem dL_law_1029 : decode cL_law 1029 = .ok (.iaload, 1) := by decide +kernel
theorem dL_law_1030 : decode cL_law 1030 = .ok (.invokevirtual 135, 3) := by decide +kernel
theorem dL_law_1033 : decode cL_law 1033 = .ok (.if_icmp .eq 69, 3) := by decide +kernel
set_option maxHeartbeats 4000000 in
set_option maxRecDepth 100000 in
theorem lc_25 {E : xE} {u : Nat × Nat} {i : Int} {h : Hp} (hu : u.1 + 1 ≤ 601024 ∧ u.2 + 6 ≤ 7293034) (ib : lwB E i) (inv : lwI h) (kT : ∀ h9 : Hp, lwI h9 → X E mL_law 1312 (601024, 7293034) (u.1 + 1, u.2 + 6) 1102 (lwL i) [] h9 lwQ) : X E mL_law 1312 (601024, 7293034) u 989 (lwL i) [] h lwQ := by
  have hv : u.1 ≤ 601024 ∧ u.2 ≤ 7293034 := ⟨Nat.le_of_succ_le hu.1, Nat.le_trans (Nat.le_add_right _ 6) hu.2⟩
  obtain ⟨hL, c, σ, w, q, r, kk⟩ := inv
  refine x_aload_n (i := 1) (b := 990) dL_law_989 rfl rfl rfl ?_
  refine x_aload_n (i := 0) (b := 991) dL_law_990 rfl rfl rfl ?_
  refine x_iload (i := 4) (b := 993) dL_law_991 rfl rfl ?_
  refine x_iconst (n := 1) (b := 994) dL_law_993 (by decide) rfl ?_
  refine x_iadd (b := 995) dL_law_994 (ib 1 (by decide) (by decide)).1 rfl ?_
  refine x_sld (b := 996) dL_law_995 (ib 1 (by decide) (by decide)).2 rfl ?_
  refine x_aload_n (i := 0) (b := 997) dL_law_996 rfl rfl rfl ?_
  refine x_iload (i := 4) (b := 999) dL_law_997 rfl rfl ?_
  refine x_iconst (n := 2) (b := 1000) dL_law_999 (by decide) rfl ?_
  refine x_iadd (b := 1001) dL_law_1000 (ib 2 (by decide) (by decide)).1 rfl ?_
  refine x_sld (b := 1002) dL_law_1001 (ib 2 (by decide) (by decide)).2 rfl ?_
  refine x_aload_n (i := 0) (b := 1003) dL_law_1002 rfl rfl rfl ?_
  refine x_iload (i := 4) (b := 1005) dL_law_1003 rfl rfl ?_
  refine x_iconst (n := 3) (b := 1006) dL_law_1005 (by decide) rfl ?_
  refine x_iadd (b := 1007) dL_law_1006 (ib 3 (by decide) (by decide)).1 rfl ?_
  refine x_sld (b := 1008) dL_law_1007 (ib 3 (by decide) (by decide)).2 rfl ?_
  obtain ⟨a, σ2, w2, ⟨v1, h1, e1, a1, ⟨c2, q2⟩, fx⟩, kR⟩ := @agr_tried (wsc E.1 (i + 1).toNat) (wsc E.1 (i + 2).toNat) (wsc E.1 (i + 3).toNat) h c σ w q
  refine x_callV (as := [xi (wsc E.1 (i + 1).toNat), xi (wsc E.1 (i + 2).toNat), xi (wsc E.1 (i + 3).toNat)]) (rest := []) (b := 1011) (c_X11_tried 1304 (wsc E.1 (i + 1).toNat) (wsc E.1 (i + 2).toNat) (wsc E.1 (i + 3).toNat) h _ hL e1) dL_law_1008 cw_L_131 ⟨_, _, rfl, Nat.le_of_ble_eq_true rfl⟩ rfl rfl (Nat.le_of_ble_eq_true rfl) ⟨hv.1, hv.2⟩ rfl (fun rv hh hp _ => ?_)
  obtain ⟨rfl, rfl, hL⟩ := hp
  refine x_aload_n (i := 2) (b := 1012) dL_law_1011 rfl rfl rfl ?_
  refine x_aload_n (i := 0) (b := 1013) dL_law_1012 rfl rfl rfl ?_
  refine x_iload (i := 4) (b := 1015) dL_law_1013 rfl rfl ?_
  refine x_iconst (n := 1) (b := 1016) dL_law_1015 (by decide) rfl ?_
  refine x_iadd (b := 1017) dL_law_1016 (ib 1 (by decide) (by decide)).1 rfl ?_
  refine x_sld (b := 1018) dL_law_1017 (ib 1 (by decide) (by decide)).2 rfl ?_
  refine x_aload_n (i := 0) (b := 1019) dL_law_1018 rfl rfl rfl ?_
  refine x_iload (i := 4) (b := 1021) dL_law_1019 rfl rfl ?_
  refine x_iconst (n := 2) (b := 1022) dL_law_1021 (by decide) rfl ?_
  refine x_iadd (b := 1023) dL_law_1022 (ib 2 (by decide) (by decide)).1 rfl ?_
  refine x_sld (b := 1024) dL_law_1023 (ib 2 (by decide) (by decide)).2 rfl ?_
  refine x_aload_n (i := 0) (b := 1025) dL_law_1024 rfl rfl rfl ?_
  refine x_iload (i := 4) (b := 1027) dL_law_1025 rfl rfl ?_
  refine x_iconst (n := 3) (b := 1028) dL_law_1027 (by decide) rfl ?_
  refine x_iadd (b := 1029) dL_law_1028 (ib 3 (by decide) (by decide)).1 rfl ?_
  refine x_sld (b := 1030) dL_law_1029 (ib 3 (by decide) (by decide)).2 rfl ?_
  obtain ⟨v2, h2, e2, a2, r2, f2⟩ := kR h1 (IR_cl w fx r)
  refine x_callV (as := [xi (wsc E.1 (i + 1).toNat), xi (wsc E.1 (i + 2).toNat), xi (wsc E.1 (i + 3).toNat)]) (rest := [xi v1]) (b := 1033) (c_X12_tried 1303 (wsc E.1 (i + 1).toNat) (wsc E.1 (i + 2).toNat) (wsc E.1 (i + 3).toNat) h1 _ hL e2) dL_law_1030 cw_L_135 ⟨_, _, rfl, Nat.le_of_ble_eq_true rfl⟩ rfl rfl (Nat.le_of_ble_eq_true rfl) ⟨hv.1, hv.2⟩ rfl (fun rv hh hp _ => ?_)
  obtain ⟨rfl, rfl, hL⟩ := hp
  refine x_icmp_eq (tgt := 1102) (b := 1036) dL_law_1033 (by decide) rfl (fun _ => ?_) (fun hc => absurd (a1.trans a2.symm) hc)
  exact x_wd (Nat.le_succ u.1) (Nat.le_add_right u.2 6) (kT h2 (lw_nx w2 q2 fx r2 f2 kk hL))
