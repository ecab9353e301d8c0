/-! WORDS: by their places in the tables; fields, methods, calls as each class file names them -/
theorem gw_r {ws : List Cond} (ps : List Nat) (hp : ws = ps.filterMap (fun i => lw_tbl[i]?)) (h : ws.all goodWord = true) : ∀ w ∈ ws, w ∈ Gw := by
  intro w hw
  have h1 := List.all_eq_true.mp h w hw
  rw [hp] at hw
  obtain ⟨i, -, hi⟩ := List.mem_filterMap.mp hw
  exact Gw_in hi h1
set_option maxRecDepth 20000 in
theorem lay_0 : ∀ w ∈ u_ws RX0 TX0 15, w ∈ Gw := gw_r [386, 388, 390, 392, 394, 396, 398, 400, 402, 404, 406, 408, 410, 412, 414] (by decide +kernel) (by decide +kernel)
set_option maxRecDepth 20000 in
theorem lay_1 : ∀ w ∈ u_ws RX1 TX1 5, w ∈ Gw := gw_r [239, 241, 243, 245, 247] (by decide +kernel) (by decide +kernel)
set_option maxRecDepth 20000 in
theorem lay_2 : ∀ w ∈ u_ws RX2 TX2 11, w ∈ Gw := gw_r [600, 602, 604, 606, 608, 610, 612, 614, 616, 618, 620] (by decide +kernel) (by decide +kernel)
set_option maxRecDepth 20000 in
theorem lay_3 : ∀ w ∈ u_ws RX3 TX3 5, w ∈ Gw := gw_r [720, 722, 724, 726, 728] (by decide +kernel) (by decide +kernel)
set_option maxRecDepth 20000 in
theorem lay_4 : ∀ w ∈ u_ws RX4 TX4 10, w ∈ Gw := gw_r [288, 290, 292, 294, 296, 298, 300, 302, 304, 306] (by decide +kernel) (by decide +kernel)
set_option maxRecDepth 20000 in
theorem lay_5 : ∀ w ∈ u_ws RX5 TX5 6, w ∈ Gw := gw_r [745, 747, 749, 751, 753, 755] (by decide +kernel) (by decide +kernel)
set_option maxRecDepth 20000 in
theorem lay_6 : ∀ w ∈ u_ws RX6 TX6 6, w ∈ Gw := gw_r [689, 691, 693, 695, 697, 699] (by decide +kernel) (by decide +kernel)
set_option maxRecDepth 20000 in
theorem lay_7 : ∀ w ∈ u_ws RX7 TX7 19, w ∈ Gw := gw_r [535, 537, 539, 541, 543, 545, 547, 549, 551, 553, 555, 557, 559, 561, 563, 565, 567, 569, 571] (by decide +kernel) (by decide +kernel)
set_option maxRecDepth 20000 in
theorem lay_8 : ∀ w ∈ u_ws RX8 TX8 10, w ∈ Gw := gw_r [492, 494, 496, 498, 500, 502, 504, 506, 508, 510] (by decide +kernel) (by decide +kernel)
set_option maxRecDepth 20000 in
theorem lay_9 : ∀ w ∈ u_ws RX9 TX9 13, w ∈ Gw := gw_r [195, 197, 199, 201, 203, 205, 207, 209, 211, 213, 215, 217, 219] (by decide +kernel) (by decide +kernel)
set_option maxRecDepth 20000 in
theorem lay_10 : ∀ w ∈ u_ws RX10 TX10 9, w ∈ Gw := gw_r [661, 663, 665, 667, 669, 671, 673, 675, 677] (by decide +kernel) (by decide +kernel)
set_option maxRecDepth 20000 in
theorem lay_11 : ∀ w ∈ u_ws RX11 TX11 17, w ∈ Gw := gw_r [780, 782, 784, 786, 788, 790, 792, 794, 796, 798, 800, 802, 804, 806, 808, 810, 812] (by decide +kernel) (by decide +kernel)
set_option maxRecDepth 20000 in
theorem lay_12 : ∀ w ∈ u_ws RX12 TX12 80, w ∈ Gw := gw_r [1589, 1591, 1593, 1595, 1597, 1599, 1601, 1603, 1605, 1607, 1609, 1611, 1613, 1615, 1617, 1619, 1621, 1623, 1625, 1627, 1629, 1631, 1633, 1635, 1637, 1639, 1641, 1643, 1645, 1647, 1649, 1651, 1653, 1655, 1657, 1659, 1661, 1663, 1665, 1667, 1669, 1671, 1673, 1675, 1677, 1679, 1681, 1683, 1685, 1687, 1689, 1691, 1693, 1695, 1697, 1699, 1701, 1703, 1705, 1707, 1709, 1711, 1713, 1715, 1717, 1719, 1721, 1723, 1725, 1727, 1729, 1731, 1733, 1735, 1737, 1739, 1741, 1743, 1745, 1747] (by decide +kernel) (by decide +kernel)
theorem gt_1 {i : Nat} {w : Cond} (e : tables_1_1[i]? = some w) (g : goodWord w = true) : w ∈ Gw := by
  have h := List.mem_of_getElem? e
  have h2 : w ∈ tables_1 := List.mem_append_left _ h
  exact List.mem_filter.mpr ⟨List.mem_append_right _ h2, g⟩
theorem gt_2 {i : Nat} {w : Cond} (e : tables_1_2[i]? = some w) (g : goodWord w = true) : w ∈ Gw := by
  have h := List.mem_of_getElem? e
  have h2 : w ∈ tables_1 := List.mem_append_right _ (List.mem_append_left _ h)
  exact List.mem_filter.mpr ⟨List.mem_append_right _ h2, g⟩
theorem gt_3 {i : Nat} {w : Cond} (e : tables_1_3[i]? = some w) (g : goodWord w = true) : w ∈ Gw := by
  have h := List.mem_of_getElem? e
  have h2 : w ∈ tables_1 := List.mem_append_right _ (List.mem_append_right _ (List.mem_append_left _ h))
  exact List.mem_filter.mpr ⟨List.mem_append_right _ h2, g⟩
theorem gt_4 {i : Nat} {w : Cond} (e : tables_1_4[i]? = some w) (g : goodWord w = true) : w ∈ Gw := by
  have h := List.mem_of_getElem? e
  have h2 : w ∈ tables_1 := List.mem_append_right _ (List.mem_append_right _ (List.mem_append_right _ (List.mem_append_left _ h)))
  exact List.mem_filter.mpr ⟨List.mem_append_right _ h2, g⟩
theorem gt_5 {i : Nat} {w : Cond} (e : tables_1_5[i]? = some w) (g : goodWord w = true) : w ∈ Gw := by
  have h := List.mem_of_getElem? e
  have h2 : w ∈ tables_1 := List.mem_append_right _ (List.mem_append_right _ (List.mem_append_right _ (List.mem_append_right _ (List.mem_append_left _ h))))
  exact List.mem_filter.mpr ⟨List.mem_append_right _ h2, g⟩
theorem gt_6 {i : Nat} {w : Cond} (e : tables_1_6[i]? = some w) (g : goodWord w = true) : w ∈ Gw := by
  have h := List.mem_of_getElem? e
  have h2 : w ∈ tables_1 := List.mem_append_right _ (List.mem_append_right _ (List.mem_append_right _ (List.mem_append_right _ (List.mem_append_right _ (List.mem_append_left _ h)))))
  exact List.mem_filter.mpr ⟨List.mem_append_right _ h2, g⟩
theorem gt_7 {i : Nat} {w : Cond} (e : tables_1_7[i]? = some w) (g : goodWord w = true) : w ∈ Gw := by
  have h := List.mem_of_getElem? e
  have h2 : w ∈ tables_1 := List.mem_append_right _ (List.mem_append_right _ (List.mem_append_right _ (List.mem_append_right _ (List.mem_append_right _ (List.mem_append_right _ (List.mem_append_left _ h))))))
  exact List.mem_filter.mpr ⟨List.mem_append_right _ h2, g⟩
theorem gt_8 {i : Nat} {w : Cond} (e : tables_1_8[i]? = some w) (g : goodWord w = true) : w ∈ Gw := by
  have h := List.mem_of_getElem? e
  have h2 : w ∈ tables_1 := List.mem_append_right _ (List.mem_append_right _ (List.mem_append_right _ (List.mem_append_right _ (List.mem_append_right _ (List.mem_append_right _ (List.mem_append_right _ (List.mem_append_left _ h)))))))
  exact List.mem_filter.mpr ⟨List.mem_append_right _ h2, g⟩
theorem gt_9 {i : Nat} {w : Cond} (e : tables_1_9[i]? = some w) (g : goodWord w = true) : w ∈ Gw := by
  have h := List.mem_of_getElem? e
  have h2 : w ∈ tables_1 := List.mem_append_right _ (List.mem_append_right _ (List.mem_append_right _ (List.mem_append_right _ (List.mem_append_right _ (List.mem_append_right _ (List.mem_append_right _ (List.mem_append_right _ (h))))))))
  exact List.mem_filter.mpr ⟨List.mem_append_right _ h2, g⟩
theorem gt_0 {i : Nat} {q : MethodName × Nat} (e : lw_privs[i]? = some q) : Cond.selects q.1.cls q.1 q.1 ∈ Gw := List.mem_filter.mpr ⟨List.mem_append_left _ (List.mem_map.mpr ⟨q, List.mem_of_getElem? e, rfl⟩), rfl⟩
theorem kw_160 : Cond.fieldLink RX9 9 "PlateVote$Sea" "wide" "I" ∈ Gw := gt_1 (i := 45) rfl rfl
theorem fk_X9_9 : Fk RX9 9 9 0 .int false := ⟨RX9, TX9, 13, tyX9, rfl, Nat.le_of_ble_eq_true rfl, Nat.le_of_ble_eq_true rfl, rfl, lay_9, kw_160, tyX9_ok, nmX9, rfl, rfl, rfl⟩
theorem kw_161 : Cond.fieldLink RX7 162 "PlateVote$Sea" "wide" "I" ∈ Gw := gt_1 (i := 46) rfl rfl
theorem fk_X7_162 : Fk RX7 162 9 0 .int false := ⟨RX9, TX9, 13, tyX9, rfl, Nat.le_of_ble_eq_true rfl, Nat.le_of_ble_eq_true rfl, rfl, lay_9, kw_161, tyX9_ok, nmX9, rfl, rfl, rfl⟩
theorem kw_162 : Cond.fieldLink RX11 342 "PlateVote$Sea" "wide" "I" ∈ Gw := gt_1 (i := 47) rfl rfl
theorem fk_X11_342 : Fk RX11 342 9 0 .int false := ⟨RX9, TX9, 13, tyX9, rfl, Nat.le_of_ble_eq_true rfl, Nat.le_of_ble_eq_true rfl, rfl, lay_9, kw_162, tyX9_ok, nmX9, rfl, rfl, rfl⟩
theorem kw_163 : Cond.fieldLink RX9 15 "PlateVote$Sea" "high" "I" ∈ Gw := gt_1 (i := 48) rfl rfl
theorem fk_X9_15 : Fk RX9 15 9 1 .int false := ⟨RX9, TX9, 13, tyX9, rfl, Nat.le_of_ble_eq_true rfl, Nat.le_of_ble_eq_true rfl, rfl, lay_9, kw_163, tyX9_ok, nmX9, rfl, rfl, rfl⟩
theorem kw_164 : Cond.fieldLink RX7 170 "PlateVote$Sea" "high" "I" ∈ Gw := gt_1 (i := 49) rfl rfl
theorem fk_X7_170 : Fk RX7 170 9 1 .int false := ⟨RX9, TX9, 13, tyX9, rfl, Nat.le_of_ble_eq_true rfl, Nat.le_of_ble_eq_true rfl, rfl, lay_9, kw_164, tyX9_ok, nmX9, rfl, rfl, rfl⟩
theorem kw_165 : Cond.fieldLink RX11 345 "PlateVote$Sea" "high" "I" ∈ Gw := gt_1 (i := 50) rfl rfl
theorem fk_X11_345 : Fk RX11 345 9 1 .int false := ⟨RX9, TX9, 13, tyX9, rfl, Nat.le_of_ble_eq_true rfl, Nat.le_of_ble_eq_true rfl, rfl, lay_9, kw_165, tyX9_ok, nmX9, rfl, rfl, rfl⟩
theorem kw_166 : Cond.fieldLink RX9 18 "PlateVote$Sea" "land" "J" ∈ Gw := gt_1 (i := 51) rfl rfl
theorem fk_X9_18 : Fk RX9 18 9 2 .long false := ⟨RX9, TX9, 13, tyX9, rfl, Nat.le_of_ble_eq_true rfl, Nat.le_of_ble_eq_true rfl, rfl, lay_9, kw_166, tyX9_ok, nmX9, rfl, rfl, rfl⟩
theorem kw_167 : Cond.fieldLink RX7 194 "PlateVote$Sea" "land" "J" ∈ Gw := gt_1 (i := 52) rfl rfl
theorem fk_X7_194 : Fk RX7 194 9 2 .long false := ⟨RX9, TX9, 13, tyX9, rfl, Nat.le_of_ble_eq_true rfl, Nat.le_of_ble_eq_true rfl, rfl, lay_9, kw_167, tyX9_ok, nmX9, rfl, rfl, rfl⟩
theorem kw_168 : Cond.fieldLink RX9 22 "PlateVote$Sea" "lands" "I" ∈ Gw := gt_1 (i := 53) rfl rfl
theorem fk_X9_22 : Fk RX9 22 9 3 .int false := ⟨RX9, TX9, 13, tyX9, rfl, Nat.le_of_ble_eq_true rfl, Nat.le_of_ble_eq_true rfl, rfl, lay_9, kw_168, tyX9_ok, nmX9, rfl, rfl, rfl⟩
theorem kw_169 : Cond.fieldLink RX7 182 "PlateVote$Sea" "lands" "I" ∈ Gw := gt_1 (i := 54) rfl rfl
theorem fk_X7_182 : Fk RX7 182 9 3 .int false := ⟨RX9, TX9, 13, tyX9, rfl, Nat.le_of_ble_eq_true rfl, Nat.le_of_ble_eq_true rfl, rfl, lay_9, kw_169, tyX9_ok, nmX9, rfl, rfl, rfl⟩
theorem kw_170 : Cond.fieldLink RX9 25 "PlateVote$Sea" "start" "I" ∈ Gw := gt_1 (i := 55) rfl rfl
theorem fk_X9_25 : Fk RX9 25 9 4 .int false := ⟨RX9, TX9, 13, tyX9, rfl, Nat.le_of_ble_eq_true rfl, Nat.le_of_ble_eq_true rfl, rfl, lay_9, kw_170, tyX9_ok, nmX9, rfl, rfl, rfl⟩
theorem kw_171 : Cond.fieldLink RX10 47 "PlateVote$Sea" "start" "I" ∈ Gw := gt_1 (i := 56) rfl rfl
theorem fk_X10_47 : Fk RX10 47 9 4 .int false := ⟨RX9, TX9, 13, tyX9, rfl, Nat.le_of_ble_eq_true rfl, Nat.le_of_ble_eq_true rfl, rfl, lay_9, kw_171, tyX9_ok, nmX9, rfl, rfl, rfl⟩
theorem kw_172 : Cond.fieldLink RX7 185 "PlateVote$Sea" "start" "I" ∈ Gw := gt_1 (i := 57) rfl rfl
theorem fk_X7_185 : Fk RX7 185 9 4 .int false := ⟨RX9, TX9, 13, tyX9, rfl, Nat.le_of_ble_eq_true rfl, Nat.le_of_ble_eq_true rfl, rfl, lay_9, kw_172, tyX9_ok, nmX9, rfl, rfl, rfl⟩
theorem kw_173 : Cond.fieldLink RX9 28 "PlateVote$Sea" "bahia" "I" ∈ Gw := gt_1 (i := 58) rfl rfl
theorem fk_X9_28 : Fk RX9 28 9 5 .int false := ⟨RX9, TX9, 13, tyX9, rfl, Nat.le_of_ble_eq_true rfl, Nat.le_of_ble_eq_true rfl, rfl, lay_9, kw_173, tyX9_ok, nmX9, rfl, rfl, rfl⟩
theorem kw_174 : Cond.fieldLink RX6 51 "PlateVote$Sea" "bahia" "I" ∈ Gw := gt_1 (i := 59) rfl rfl
theorem fk_X6_51 : Fk RX6 51 9 5 .int false := ⟨RX9, TX9, 13, tyX9, rfl, Nat.le_of_ble_eq_true rfl, Nat.le_of_ble_eq_true rfl, rfl, lay_9, kw_174, tyX9_ok, nmX9, rfl, rfl, rfl⟩
theorem kw_175 : Cond.fieldLink RX10 59 "PlateVote$Sea" "bahia" "I" ∈ Gw := gt_1 (i := 60) rfl rfl
theorem fk_X10_59 : Fk RX10 59 9 5 .int false := ⟨RX9, TX9, 13, tyX9, rfl, Nat.le_of_ble_eq_true rfl, Nat.le_of_ble_eq_true rfl, rfl, lay_9, kw_175, tyX9_ok, nmX9, rfl, rfl, rfl⟩
theorem kw_176 : Cond.fieldLink RX11 176 "PlateVote$Sea" "bahia" "I" ∈ Gw := gt_1 (i := 61) rfl rfl
theorem fk_X11_176 : Fk RX11 176 9 5 .int false := ⟨RX9, TX9, 13, tyX9, rfl, Nat.le_of_ble_eq_true rfl, Nat.le_of_ble_eq_true rfl, rfl, lay_9, kw_176, tyX9_ok, nmX9, rfl, rfl, rfl⟩
theorem kw_177 : Cond.fieldLink RX7 188 "PlateVote$Sea" "bahia" "I" ∈ Gw := gt_1 (i := 62) rfl rfl
theorem fk_X7_188 : Fk RX7 188 9 5 .int false := ⟨RX9, TX9, 13, tyX9, rfl, Nat.le_of_ble_eq_true rfl, Nat.le_of_ble_eq_true rfl, rfl, lay_9, kw_177, tyX9_ok, nmX9, rfl, rfl, rfl⟩
theorem kw_178 : Cond.fieldLink RX2 226 "PlateVote$Sea" "bahia" "I" ∈ Gw := gt_1 (i := 63) rfl rfl
theorem fk_X2_226 : Fk RX2 226 9 5 .int false := ⟨RX9, TX9, 13, tyX9, rfl, Nat.le_of_ble_eq_true rfl, Nat.le_of_ble_eq_true rfl, rfl, lay_9, kw_178, tyX9_ok, nmX9, rfl, rfl, rfl⟩
theorem kw_179 : Cond.fieldLink RX9 31 "PlateVote$Sea" "isles" "I" ∈ Gw := gt_1 (i := 64) rfl rfl
theorem fk_X9_31 : Fk RX9 31 9 6 .int false := ⟨RX9, TX9, 13, tyX9, rfl, Nat.le_of_ble_eq_true rfl, Nat.le_of_ble_eq_true rfl, rfl, lay_9, kw_179, tyX9_ok, nmX9, rfl, rfl, rfl⟩
theorem kw_180 : Cond.fieldLink RX2 178 "PlateVote$Sea" "isles" "I" ∈ Gw := gt_1 (i := 65) rfl rfl
theorem fk_X2_178 : Fk RX2 178 9 6 .int false := ⟨RX9, TX9, 13, tyX9, rfl, Nat.le_of_ble_eq_true rfl, Nat.le_of_ble_eq_true rfl, rfl, lay_9, kw_180, tyX9_ok, nmX9, rfl, rfl, rfl⟩
theorem kw_181 : Cond.fieldLink RX7 201 "PlateVote$Sea" "isles" "I" ∈ Gw := gt_1 (i := 66) rfl rfl
theorem fk_X7_201 : Fk RX7 201 9 6 .int false := ⟨RX9, TX9, 13, tyX9, rfl, Nat.le_of_ble_eq_true rfl, Nat.le_of_ble_eq_true rfl, rfl, lay_9, kw_181, tyX9_ok, nmX9, rfl, rfl, rfl⟩
theorem kw_182 : Cond.fieldLink RX11 348 "PlateVote$Sea" "isles" "I" ∈ Gw := gt_1 (i := 67) rfl rfl
theorem fk_X11_348 : Fk RX11 348 9 6 .int false := ⟨RX9, TX9, 13, tyX9, rfl, Nat.le_of_ble_eq_true rfl, Nat.le_of_ble_eq_true rfl, rfl, lay_9, kw_182, tyX9_ok, nmX9, rfl, rfl, rfl⟩
theorem kw_183 : Cond.fieldLink RX9 34 "PlateVote$Sea" "isleName" "[I" ∈ Gw := gt_1 (i := 68) rfl rfl
theorem fk_X9_34 : Fk RX9 34 9 7 (.array .int) true := ⟨RX9, TX9, 13, tyX9, rfl, Nat.le_of_ble_eq_true rfl, Nat.le_of_ble_eq_true rfl, rfl, lay_9, kw_183, tyX9_ok, nmX9, rfl, rfl, rfl⟩
theorem kw_184 : Cond.fieldLink RX7 208 "PlateVote$Sea" "isleName" "[I" ∈ Gw := gt_1 (i := 69) rfl rfl
theorem fk_X7_208 : Fk RX7 208 9 7 (.array .int) true := ⟨RX9, TX9, 13, tyX9, rfl, Nat.le_of_ble_eq_true rfl, Nat.le_of_ble_eq_true rfl, rfl, lay_9, kw_184, tyX9_ok, nmX9, rfl, rfl, rfl⟩
theorem kw_185 : Cond.fieldLink RX9 38 "PlateVote$Sea" "isleCell" "[I" ∈ Gw := gt_1 (i := 70) rfl rfl
theorem fk_X9_38 : Fk RX9 38 9 8 (.array .int) true := ⟨RX9, TX9, 13, tyX9, rfl, Nat.le_of_ble_eq_true rfl, Nat.le_of_ble_eq_true rfl, rfl, lay_9, kw_185, tyX9_ok, nmX9, rfl, rfl, rfl⟩
theorem kw_186 : Cond.fieldLink RX7 211 "PlateVote$Sea" "isleCell" "[I" ∈ Gw := gt_1 (i := 71) rfl rfl
theorem fk_X7_211 : Fk RX7 211 9 8 (.array .int) true := ⟨RX9, TX9, 13, tyX9, rfl, Nat.le_of_ble_eq_true rfl, Nat.le_of_ble_eq_true rfl, rfl, lay_9, kw_186, tyX9_ok, nmX9, rfl, rfl, rfl⟩
theorem kw_187 : Cond.fieldLink RX9 41 "PlateVote$Sea" "isleReach" "[I" ∈ Gw := gt_1 (i := 72) rfl rfl
theorem fk_X9_41 : Fk RX9 41 9 9 (.array .int) true := ⟨RX9, TX9, 13, tyX9, rfl, Nat.le_of_ble_eq_true rfl, Nat.le_of_ble_eq_true rfl, rfl, lay_9, kw_187, tyX9_ok, nmX9, rfl, rfl, rfl⟩
theorem kw_188 : Cond.fieldLink RX2 184 "PlateVote$Sea" "isleReach" "[I" ∈ Gw := gt_1 (i := 73) rfl rfl
theorem fk_X2_184 : Fk RX2 184 9 9 (.array .int) true := ⟨RX9, TX9, 13, tyX9, rfl, Nat.le_of_ble_eq_true rfl, Nat.le_of_ble_eq_true rfl, rfl, lay_9, kw_188, tyX9_ok, nmX9, rfl, rfl, rfl⟩
theorem kw_189 : Cond.fieldLink RX7 214 "PlateVote$Sea" "isleReach" "[I" ∈ Gw := gt_1 (i := 74) rfl rfl
theorem fk_X7_214 : Fk RX7 214 9 9 (.array .int) true := ⟨RX9, TX9, 13, tyX9, rfl, Nat.le_of_ble_eq_true rfl, Nat.le_of_ble_eq_true rfl, rfl, lay_9, kw_189, tyX9_ok, nmX9, rfl, rfl, rfl⟩
theorem kw_190 : Cond.fieldLink RX9 44 "PlateVote$Sea" "isleGoats" "[I" ∈ Gw := gt_1 (i := 75) rfl rfl
theorem fk_X9_44 : Fk RX9 44 9 10 (.array .int) true := ⟨RX9, TX9, 13, tyX9, rfl, Nat.le_of_ble_eq_true rfl, Nat.le_of_ble_eq_true rfl, rfl, lay_9, kw_190, tyX9_ok, nmX9, rfl, rfl, rfl⟩
theorem kw_191 : Cond.fieldLink RX2 190 "PlateVote$Sea" "isleGoats" "[I" ∈ Gw := gt_1 (i := 76) rfl rfl
theorem fk_X2_190 : Fk RX2 190 9 10 (.array .int) true := ⟨RX9, TX9, 13, tyX9, rfl, Nat.le_of_ble_eq_true rfl, Nat.le_of_ble_eq_true rfl, rfl, lay_9, kw_191, tyX9_ok, nmX9, rfl, rfl, rfl⟩
theorem kw_192 : Cond.fieldLink RX7 217 "PlateVote$Sea" "isleGoats" "[I" ∈ Gw := gt_1 (i := 77) rfl rfl
theorem fk_X7_217 : Fk RX7 217 9 10 (.array .int) true := ⟨RX9, TX9, 13, tyX9, rfl, Nat.le_of_ble_eq_true rfl, Nat.le_of_ble_eq_true rfl, rfl, lay_9, kw_192, tyX9_ok, nmX9, rfl, rfl, rfl⟩
theorem kw_193 : Cond.fieldLink RX9 47 "PlateVote$Sea" "rows" "[I" ∈ Gw := gt_1 (i := 78) rfl rfl
theorem fk_X9_47 : Fk RX9 47 9 11 (.array .int) true := ⟨RX9, TX9, 13, tyX9, rfl, Nat.le_of_ble_eq_true rfl, Nat.le_of_ble_eq_true rfl, rfl, lay_9, kw_193, tyX9_ok, nmX9, rfl, rfl, rfl⟩
theorem kw_194 : Cond.fieldLink RX9 50 "PlateVote$Sea" "queue" "[I" ∈ Gw := gt_1 (i := 79) rfl rfl
theorem fk_X9_50 : Fk RX9 50 9 12 (.array .int) true := ⟨RX9, TX9, 13, tyX9, rfl, Nat.le_of_ble_eq_true rfl, Nat.le_of_ble_eq_true rfl, rfl, lay_9, kw_194, tyX9_ok, nmX9, rfl, rfl, rfl⟩
theorem kw_230 : Cond.fieldLink RX1 9 "PlateVote$Code" "knot" "[I" ∈ Gw := gt_1 (i := 115) rfl rfl
theorem fk_X1_9 : Fk RX1 9 1 0 (.array .int) true := ⟨RX1, TX1, 5, tyX1, rfl, Nat.le_of_ble_eq_true rfl, Nat.le_of_ble_eq_true rfl, rfl, lay_1, kw_230, tyX1_ok, nmX1, rfl, rfl, rfl⟩
theorem kw_231 : Cond.fieldLink RX1 13 "PlateVote$Code" "what" "[I" ∈ Gw := gt_1 (i := 116) rfl rfl
theorem fk_X1_13 : Fk RX1 13 1 1 (.array .int) true := ⟨RX1, TX1, 5, tyX1, rfl, Nat.le_of_ble_eq_true rfl, Nat.le_of_ble_eq_true rfl, rfl, lay_1, kw_231, tyX1_ok, nmX1, rfl, rfl, rfl⟩
theorem kw_232 : Cond.fieldLink RX1 16 "PlateVote$Code" "size" "I" ∈ Gw := gt_1 (i := 117) rfl rfl
theorem fk_X1_16 : Fk RX1 16 1 2 .int false := ⟨RX1, TX1, 5, tyX1, rfl, Nat.le_of_ble_eq_true rfl, Nat.le_of_ble_eq_true rfl, rfl, lay_1, kw_232, tyX1_ok, nmX1, rfl, rfl, rfl⟩
theorem kw_233 : Cond.fieldLink RX0 77 "PlateVote$Code" "size" "I" ∈ Gw := gt_1 (i := 118) rfl rfl
theorem fk_X0_77 : Fk RX0 77 1 2 .int false := ⟨RX1, TX1, 5, tyX1, rfl, Nat.le_of_ble_eq_true rfl, Nat.le_of_ble_eq_true rfl, rfl, lay_1, kw_233, tyX1_ok, nmX1, rfl, rfl, rfl⟩
theorem kw_234 : Cond.fieldLink RX7 317 "PlateVote$Code" "size" "I" ∈ Gw := gt_1 (i := 119) rfl rfl
theorem fk_X7_317 : Fk RX7 317 1 2 .int false := ⟨RX1, TX1, 5, tyX1, rfl, Nat.le_of_ble_eq_true rfl, Nat.le_of_ble_eq_true rfl, rfl, lay_1, kw_234, tyX1_ok, nmX1, rfl, rfl, rfl⟩
theorem kw_235 : Cond.fieldLink RX11 355 "PlateVote$Code" "size" "I" ∈ Gw := gt_1 (i := 120) rfl rfl
theorem fk_X11_355 : Fk RX11 355 1 2 .int false := ⟨RX1, TX1, 5, tyX1, rfl, Nat.le_of_ble_eq_true rfl, Nat.le_of_ble_eq_true rfl, rfl, lay_1, kw_235, tyX1_ok, nmX1, rfl, rfl, rfl⟩
theorem kw_236 : Cond.fieldLink RX1 20 "PlateVote$Code" "names" "[J" ∈ Gw := gt_1 (i := 121) rfl rfl
theorem fk_X1_20 : Fk RX1 20 1 3 (.array .long) true := ⟨RX1, TX1, 5, tyX1, rfl, Nat.le_of_ble_eq_true rfl, Nat.le_of_ble_eq_true rfl, rfl, lay_1, kw_236, tyX1_ok, nmX1, rfl, rfl, rfl⟩
theorem kw_237 : Cond.fieldLink RX2 120 "PlateVote$Code" "names" "[J" ∈ Gw := gt_1 (i := 122) rfl rfl
theorem fk_X2_120 : Fk RX2 120 1 3 (.array .long) true := ⟨RX1, TX1, 5, tyX1, rfl, Nat.le_of_ble_eq_true rfl, Nat.le_of_ble_eq_true rfl, rfl, lay_1, kw_237, tyX1_ok, nmX1, rfl, rfl, rfl⟩
theorem kw_238 : Cond.fieldLink RX1 24 "PlateVote$Code" "stack" "[J" ∈ Gw := gt_1 (i := 123) rfl rfl
theorem fk_X1_24 : Fk RX1 24 1 4 (.array .long) true := ⟨RX1, TX1, 5, tyX1, rfl, Nat.le_of_ble_eq_true rfl, Nat.le_of_ble_eq_true rfl, rfl, lay_1, kw_238, tyX1_ok, nmX1, rfl, rfl, rfl⟩
theorem kw_258 : Cond.fieldLink RX4 9 "PlateVote$Mouth" "name" "I" ∈ Gw := gt_1 (i := 143) rfl rfl
theorem fk_X4_9 : Fk RX4 9 4 0 .int false := ⟨RX4, TX4, 10, tyX4, rfl, Nat.le_of_ble_eq_true rfl, Nat.le_of_ble_eq_true rfl, rfl, lay_4, kw_258, tyX4_ok, nmX4, rfl, rfl, rfl⟩
theorem kw_259 : Cond.fieldLink RX0 89 "PlateVote$Mouth" "name" "I" ∈ Gw := gt_1 (i := 144) rfl rfl
theorem fk_X0_89 : Fk RX0 89 4 0 .int false := ⟨RX4, TX4, 10, tyX4, rfl, Nat.le_of_ble_eq_true rfl, Nat.le_of_ble_eq_true rfl, rfl, lay_4, kw_259, tyX4_ok, nmX4, rfl, rfl, rfl⟩
theorem kw_260 : Cond.fieldLink RX7 282 "PlateVote$Mouth" "name" "I" ∈ Gw := gt_1 (i := 145) rfl rfl
theorem fk_X7_282 : Fk RX7 282 4 0 .int false := ⟨RX4, TX4, 10, tyX4, rfl, Nat.le_of_ble_eq_true rfl, Nat.le_of_ble_eq_true rfl, rfl, lay_4, kw_260, tyX4_ok, nmX4, rfl, rfl, rfl⟩
theorem kw_261 : Cond.fieldLink RX4 15 "PlateVote$Mouth" "plates" "I" ∈ Gw := gt_1 (i := 146) rfl rfl
theorem fk_X4_15 : Fk RX4 15 4 1 .int false := ⟨RX4, TX4, 10, tyX4, rfl, Nat.le_of_ble_eq_true rfl, Nat.le_of_ble_eq_true rfl, rfl, lay_4, kw_261, tyX4_ok, nmX4, rfl, rfl, rfl⟩
theorem kw_262 : Cond.fieldLink RX2 93 "PlateVote$Mouth" "plates" "I" ∈ Gw := gt_1 (i := 147) rfl rfl
theorem fk_X2_93 : Fk RX2 93 4 1 .int false := ⟨RX4, TX4, 10, tyX4, rfl, Nat.le_of_ble_eq_true rfl, Nat.le_of_ble_eq_true rfl, rfl, lay_4, kw_262, tyX4_ok, nmX4, rfl, rfl, rfl⟩
theorem kw_263 : Cond.fieldLink RX7 269 "PlateVote$Mouth" "plates" "I" ∈ Gw := gt_1 (i := 148) rfl rfl
theorem fk_X7_269 : Fk RX7 269 4 1 .int false := ⟨RX4, TX4, 10, tyX4, rfl, Nat.le_of_ble_eq_true rfl, Nat.le_of_ble_eq_true rfl, rfl, lay_4, kw_263, tyX4_ok, nmX4, rfl, rfl, rfl⟩
theorem kw_264 : Cond.fieldLink RX4 18 "PlateVote$Mouth" "odds" "I" ∈ Gw := gt_1 (i := 149) rfl rfl
theorem fk_X4_18 : Fk RX4 18 4 2 .int false := ⟨RX4, TX4, 10, tyX4, rfl, Nat.le_of_ble_eq_true rfl, Nat.le_of_ble_eq_true rfl, rfl, lay_4, kw_264, tyX4_ok, nmX4, rfl, rfl, rfl⟩
theorem kw_265 : Cond.fieldLink RX0 92 "PlateVote$Mouth" "odds" "I" ∈ Gw := gt_1 (i := 150) rfl rfl
theorem fk_X0_92 : Fk RX0 92 4 2 .int false := ⟨RX4, TX4, 10, tyX4, rfl, Nat.le_of_ble_eq_true rfl, Nat.le_of_ble_eq_true rfl, rfl, lay_4, kw_265, tyX4_ok, nmX4, rfl, rfl, rfl⟩
theorem kw_266 : Cond.fieldLink RX7 285 "PlateVote$Mouth" "odds" "I" ∈ Gw := gt_1 (i := 151) rfl rfl
theorem fk_X7_285 : Fk RX7 285 4 2 .int false := ⟨RX4, TX4, 10, tyX4, rfl, Nat.le_of_ble_eq_true rfl, Nat.le_of_ble_eq_true rfl, rfl, lay_4, kw_266, tyX4_ok, nmX4, rfl, rfl, rfl⟩
theorem kw_267 : Cond.fieldLink RX4 21 "PlateVote$Mouth" "from" "I" ∈ Gw := gt_1 (i := 152) rfl rfl
theorem fk_X4_21 : Fk RX4 21 4 3 .int false := ⟨RX4, TX4, 10, tyX4, rfl, Nat.le_of_ble_eq_true rfl, Nat.le_of_ble_eq_true rfl, rfl, lay_4, kw_267, tyX4_ok, nmX4, rfl, rfl, rfl⟩
theorem kw_268 : Cond.fieldLink RX2 68 "PlateVote$Mouth" "from" "I" ∈ Gw := gt_1 (i := 153) rfl rfl
theorem fk_X2_68 : Fk RX2 68 4 3 .int false := ⟨RX4, TX4, 10, tyX4, rfl, Nat.le_of_ble_eq_true rfl, Nat.le_of_ble_eq_true rfl, rfl, lay_4, kw_268, tyX4_ok, nmX4, rfl, rfl, rfl⟩
theorem kw_269 : Cond.fieldLink RX7 301 "PlateVote$Mouth" "from" "I" ∈ Gw := gt_1 (i := 154) rfl rfl
theorem fk_X7_301 : Fk RX7 301 4 3 .int false := ⟨RX4, TX4, 10, tyX4, rfl, Nat.le_of_ble_eq_true rfl, Nat.le_of_ble_eq_true rfl, rfl, lay_4, kw_269, tyX4_ok, nmX4, rfl, rfl, rfl⟩
theorem kw_270 : Cond.fieldLink RX4 24 "PlateVote$Mouth" "till" "I" ∈ Gw := gt_1 (i := 155) rfl rfl
theorem fk_X4_24 : Fk RX4 24 4 4 .int false := ⟨RX4, TX4, 10, tyX4, rfl, Nat.le_of_ble_eq_true rfl, Nat.le_of_ble_eq_true rfl, rfl, lay_4, kw_270, tyX4_ok, nmX4, rfl, rfl, rfl⟩
theorem kw_271 : Cond.fieldLink RX2 76 "PlateVote$Mouth" "till" "I" ∈ Gw := gt_1 (i := 156) rfl rfl
theorem fk_X2_76 : Fk RX2 76 4 4 .int false := ⟨RX4, TX4, 10, tyX4, rfl, Nat.le_of_ble_eq_true rfl, Nat.le_of_ble_eq_true rfl, rfl, lay_4, kw_271, tyX4_ok, nmX4, rfl, rfl, rfl⟩
theorem kw_272 : Cond.fieldLink RX7 298 "PlateVote$Mouth" "till" "I" ∈ Gw := gt_1 (i := 157) rfl rfl
theorem fk_X7_298 : Fk RX7 298 4 4 .int false := ⟨RX4, TX4, 10, tyX4, rfl, Nat.le_of_ble_eq_true rfl, Nat.le_of_ble_eq_true rfl, rfl, lay_4, kw_272, tyX4_ok, nmX4, rfl, rfl, rfl⟩
theorem kw_273 : Cond.fieldLink RX4 27 "PlateVote$Mouth" "sickFrom" "I" ∈ Gw := gt_1 (i := 158) rfl rfl
theorem fk_X4_27 : Fk RX4 27 4 5 .int false := ⟨RX4, TX4, 10, tyX4, rfl, Nat.le_of_ble_eq_true rfl, Nat.le_of_ble_eq_true rfl, rfl, lay_4, kw_273, tyX4_ok, nmX4, rfl, rfl, rfl⟩
theorem kw_274 : Cond.fieldLink RX2 87 "PlateVote$Mouth" "sickFrom" "I" ∈ Gw := gt_1 (i := 159) rfl rfl
theorem fk_X2_87 : Fk RX2 87 4 5 .int false := ⟨RX4, TX4, 10, tyX4, rfl, Nat.le_of_ble_eq_true rfl, Nat.le_of_ble_eq_true rfl, rfl, lay_4, kw_274, tyX4_ok, nmX4, rfl, rfl, rfl⟩
theorem kw_275 : Cond.fieldLink RX7 304 "PlateVote$Mouth" "sickFrom" "I" ∈ Gw := gt_1 (i := 160) rfl rfl
theorem fk_X7_304 : Fk RX7 304 4 5 .int false := ⟨RX4, TX4, 10, tyX4, rfl, Nat.le_of_ble_eq_true rfl, Nat.le_of_ble_eq_true rfl, rfl, lay_4, kw_275, tyX4_ok, nmX4, rfl, rfl, rfl⟩
theorem kw_276 : Cond.fieldLink RX4 30 "PlateVote$Mouth" "sickTo" "I" ∈ Gw := gt_1 (i := 161) rfl rfl
theorem fk_X4_30 : Fk RX4 30 4 6 .int false := ⟨RX4, TX4, 10, tyX4, rfl, Nat.le_of_ble_eq_true rfl, Nat.le_of_ble_eq_true rfl, rfl, lay_4, kw_276, tyX4_ok, nmX4, rfl, rfl, rfl⟩
theorem kw_277 : Cond.fieldLink RX2 90 "PlateVote$Mouth" "sickTo" "I" ∈ Gw := gt_1 (i := 162) rfl rfl
theorem fk_X2_90 : Fk RX2 90 4 6 .int false := ⟨RX4, TX4, 10, tyX4, rfl, Nat.le_of_ble_eq_true rfl, Nat.le_of_ble_eq_true rfl, rfl, lay_4, kw_277, tyX4_ok, nmX4, rfl, rfl, rfl⟩
theorem kw_278 : Cond.fieldLink RX7 307 "PlateVote$Mouth" "sickTo" "I" ∈ Gw := gt_1 (i := 163) rfl rfl
theorem fk_X7_307 : Fk RX7 307 4 6 .int false := ⟨RX4, TX4, 10, tyX4, rfl, Nat.le_of_ble_eq_true rfl, Nat.le_of_ble_eq_true rfl, rfl, lay_4, kw_278, tyX4_ok, nmX4, rfl, rfl, rfl⟩
theorem kw_279 : Cond.fieldLink RX4 33 "PlateVote$Mouth" "loses" "I" ∈ Gw := gt_1 (i := 164) rfl rfl
theorem fk_X4_33 : Fk RX4 33 4 7 .int false := ⟨RX4, TX4, 10, tyX4, rfl, Nat.le_of_ble_eq_true rfl, Nat.le_of_ble_eq_true rfl, rfl, lay_4, kw_279, tyX4_ok, nmX4, rfl, rfl, rfl⟩
theorem kw_280 : Cond.fieldLink RX2 220 "PlateVote$Mouth" "loses" "I" ∈ Gw := gt_1 (i := 165) rfl rfl
theorem fk_X2_220 : Fk RX2 220 4 7 .int false := ⟨RX4, TX4, 10, tyX4, rfl, Nat.le_of_ble_eq_true rfl, Nat.le_of_ble_eq_true rfl, rfl, lay_4, kw_280, tyX4_ok, nmX4, rfl, rfl, rfl⟩
theorem kw_281 : Cond.fieldLink RX7 310 "PlateVote$Mouth" "loses" "I" ∈ Gw := gt_1 (i := 166) rfl rfl
theorem fk_X7_310 : Fk RX7 310 4 7 .int false := ⟨RX4, TX4, 10, tyX4, rfl, Nat.le_of_ble_eq_true rfl, Nat.le_of_ble_eq_true rfl, rfl, lay_4, kw_281, tyX4_ok, nmX4, rfl, rfl, rfl⟩
theorem kw_282 : Cond.fieldLink RX4 36 "PlateVote$Mouth" "codeFrom" "I" ∈ Gw := gt_1 (i := 167) rfl rfl
theorem fk_X4_36 : Fk RX4 36 4 8 .int false := ⟨RX4, TX4, 10, tyX4, rfl, Nat.le_of_ble_eq_true rfl, Nat.le_of_ble_eq_true rfl, rfl, lay_4, kw_282, tyX4_ok, nmX4, rfl, rfl, rfl⟩
theorem kw_283 : Cond.fieldLink RX2 140 "PlateVote$Mouth" "codeFrom" "I" ∈ Gw := gt_1 (i := 168) rfl rfl
theorem fk_X2_140 : Fk RX2 140 4 8 .int false := ⟨RX4, TX4, 10, tyX4, rfl, Nat.le_of_ble_eq_true rfl, Nat.le_of_ble_eq_true rfl, rfl, lay_4, kw_283, tyX4_ok, nmX4, rfl, rfl, rfl⟩
theorem kw_284 : Cond.fieldLink RX7 318 "PlateVote$Mouth" "codeFrom" "I" ∈ Gw := gt_1 (i := 169) rfl rfl
theorem fk_X7_318 : Fk RX7 318 4 8 .int false := ⟨RX4, TX4, 10, tyX4, rfl, Nat.le_of_ble_eq_true rfl, Nat.le_of_ble_eq_true rfl, rfl, lay_4, kw_284, tyX4_ok, nmX4, rfl, rfl, rfl⟩
theorem kw_285 : Cond.fieldLink RX4 39 "PlateVote$Mouth" "codeTo" "I" ∈ Gw := gt_1 (i := 170) rfl rfl
theorem fk_X4_39 : Fk RX4 39 4 9 .int false := ⟨RX4, TX4, 10, tyX4, rfl, Nat.le_of_ble_eq_true rfl, Nat.le_of_ble_eq_true rfl, rfl, lay_4, kw_285, tyX4_ok, nmX4, rfl, rfl, rfl⟩
theorem kw_286 : Cond.fieldLink RX2 143 "PlateVote$Mouth" "codeTo" "I" ∈ Gw := gt_1 (i := 171) rfl rfl
theorem fk_X2_143 : Fk RX2 143 4 9 .int false := ⟨RX4, TX4, 10, tyX4, rfl, Nat.le_of_ble_eq_true rfl, Nat.le_of_ble_eq_true rfl, rfl, lay_4, kw_286, tyX4_ok, nmX4, rfl, rfl, rfl⟩
theorem kw_287 : Cond.fieldLink RX7 333 "PlateVote$Mouth" "codeTo" "I" ∈ Gw := gt_1 (i := 172) rfl rfl
theorem fk_X7_333 : Fk RX7 333 4 9 .int false := ⟨RX4, TX4, 10, tyX4, rfl, Nat.le_of_ble_eq_true rfl, Nat.le_of_ble_eq_true rfl, rfl, lay_4, kw_287, tyX4_ok, nmX4, rfl, rfl, rfl⟩
theorem kw_337 : Cond.fieldLink RX0 12 "PlateVote$Chart" "sea" "LPlateVote$Sea;" ∈ Gw := gt_1 (i := 222) rfl rfl
theorem fk_X0_12 : Fk RX0 12 0 0 (.object "PlateVote$Sea") true := ⟨RX0, TX0, 15, tyX0, rfl, Nat.le_of_ble_eq_true rfl, Nat.le_of_ble_eq_true rfl, rfl, lay_0, kw_337, tyX0_ok, nmX0, rfl, rfl, rfl⟩
theorem kw_338 : Cond.fieldLink RX10 41 "PlateVote$Chart" "sea" "LPlateVote$Sea;" ∈ Gw := gt_1 (i := 223) rfl rfl
theorem fk_X10_41 : Fk RX10 41 0 0 (.object "PlateVote$Sea") true := ⟨RX0, TX0, 15, tyX0, rfl, Nat.le_of_ble_eq_true rfl, Nat.le_of_ble_eq_true rfl, rfl, lay_0, kw_338, tyX0_ok, nmX0, rfl, rfl, rfl⟩
theorem kw_339 : Cond.fieldLink RX6 45 "PlateVote$Chart" "sea" "LPlateVote$Sea;" ∈ Gw := gt_1 (i := 224) rfl rfl
theorem fk_X6_45 : Fk RX6 45 0 0 (.object "PlateVote$Sea") true := ⟨RX0, TX0, 15, tyX0, rfl, Nat.le_of_ble_eq_true rfl, Nat.le_of_ble_eq_true rfl, rfl, lay_0, kw_339, tyX0_ok, nmX0, rfl, rfl, rfl⟩
theorem kw_340 : Cond.fieldLink RX11 122 "PlateVote$Chart" "sea" "LPlateVote$Sea;" ∈ Gw := gt_1 (i := 225) rfl rfl
theorem fk_X11_122 : Fk RX11 122 0 0 (.object "PlateVote$Sea") true := ⟨RX0, TX0, 15, tyX0, rfl, Nat.le_of_ble_eq_true rfl, Nat.le_of_ble_eq_true rfl, rfl, lay_0, kw_340, tyX0_ok, nmX0, rfl, rfl, rfl⟩
theorem kw_341 : Cond.fieldLink RX2 124 "PlateVote$Chart" "sea" "LPlateVote$Sea;" ∈ Gw := gt_1 (i := 226) rfl rfl
theorem fk_X2_124 : Fk RX2 124 0 0 (.object "PlateVote$Sea") true := ⟨RX0, TX0, 15, tyX0, rfl, Nat.le_of_ble_eq_true rfl, Nat.le_of_ble_eq_true rfl, rfl, lay_0, kw_341, tyX0_ok, nmX0, rfl, rfl, rfl⟩
theorem kw_342 : Cond.fieldLink RX7 158 "PlateVote$Chart" "sea" "LPlateVote$Sea;" ∈ Gw := gt_1 (i := 227) rfl rfl
theorem fk_X7_158 : Fk RX7 158 0 0 (.object "PlateVote$Sea") true := ⟨RX0, TX0, 15, tyX0, rfl, Nat.le_of_ble_eq_true rfl, Nat.le_of_ble_eq_true rfl, rfl, lay_0, kw_342, tyX0_ok, nmX0, rfl, rfl, rfl⟩
theorem kw_343 : Cond.fieldLink RX0 21 "PlateVote$Chart" "code" "LPlateVote$Code;" ∈ Gw := gt_1 (i := 228) rfl rfl
theorem fk_X0_21 : Fk RX0 21 0 1 (.object "PlateVote$Code") true := ⟨RX0, TX0, 15, tyX0, rfl, Nat.le_of_ble_eq_true rfl, Nat.le_of_ble_eq_true rfl, rfl, lay_0, kw_343, tyX0_ok, nmX0, rfl, rfl, rfl⟩
theorem kw_344 : Cond.fieldLink RX2 116 "PlateVote$Chart" "code" "LPlateVote$Code;" ∈ Gw := gt_1 (i := 229) rfl rfl
theorem fk_X2_116 : Fk RX2 116 0 1 (.object "PlateVote$Code") true := ⟨RX0, TX0, 15, tyX0, rfl, Nat.le_of_ble_eq_true rfl, Nat.le_of_ble_eq_true rfl, rfl, lay_0, kw_344, tyX0_ok, nmX0, rfl, rfl, rfl⟩
theorem kw_345 : Cond.fieldLink RX7 313 "PlateVote$Chart" "code" "LPlateVote$Code;" ∈ Gw := gt_1 (i := 230) rfl rfl
theorem fk_X7_313 : Fk RX7 313 0 1 (.object "PlateVote$Code") true := ⟨RX0, TX0, 15, tyX0, rfl, Nat.le_of_ble_eq_true rfl, Nat.le_of_ble_eq_true rfl, rfl, lay_0, kw_345, tyX0_ok, nmX0, rfl, rfl, rfl⟩
theorem kw_346 : Cond.fieldLink RX11 351 "PlateVote$Chart" "code" "LPlateVote$Code;" ∈ Gw := gt_1 (i := 231) rfl rfl
theorem fk_X11_351 : Fk RX11 351 0 1 (.object "PlateVote$Code") true := ⟨RX0, TX0, 15, tyX0, rfl, Nat.le_of_ble_eq_true rfl, Nat.le_of_ble_eq_true rfl, rfl, lay_0, kw_346, tyX0_ok, nmX0, rfl, rfl, rfl⟩
theorem kw_347 : Cond.fieldLink RX0 27 "PlateVote$Chart" "crew" "[LPlateVote$Mouth;" ∈ Gw := gt_1 (i := 232) rfl rfl
theorem fk_X0_27 : Fk RX0 27 0 2 (.array (.object "PlateVote$Mouth")) true := ⟨RX0, TX0, 15, tyX0, rfl, Nat.le_of_ble_eq_true rfl, Nat.le_of_ble_eq_true rfl, rfl, lay_0, kw_347, tyX0_ok, nmX0, rfl, rfl, rfl⟩
theorem kw_348 : Cond.fieldLink RX2 64 "PlateVote$Chart" "crew" "[LPlateVote$Mouth;" ∈ Gw := gt_1 (i := 233) rfl rfl
theorem fk_X2_64 : Fk RX2 64 0 2 (.array (.object "PlateVote$Mouth")) true := ⟨RX0, TX0, 15, tyX0, rfl, Nat.le_of_ble_eq_true rfl, Nat.le_of_ble_eq_true rfl, rfl, lay_0, kw_348, tyX0_ok, nmX0, rfl, rfl, rfl⟩
theorem kw_349 : Cond.fieldLink RX7 260 "PlateVote$Chart" "crew" "[LPlateVote$Mouth;" ∈ Gw := gt_1 (i := 234) rfl rfl
theorem fk_X7_260 : Fk RX7 260 0 2 (.array (.object "PlateVote$Mouth")) true := ⟨RX0, TX0, 15, tyX0, rfl, Nat.le_of_ble_eq_true rfl, Nat.le_of_ble_eq_true rfl, rfl, lay_0, kw_349, tyX0_ok, nmX0, rfl, rfl, rfl⟩
theorem kw_350 : Cond.fieldLink RX0 31 "PlateVote$Chart" "mouths" "I" ∈ Gw := gt_1 (i := 235) rfl rfl
theorem fk_X0_31 : Fk RX0 31 0 3 .int false := ⟨RX0, TX0, 15, tyX0, rfl, Nat.le_of_ble_eq_true rfl, Nat.le_of_ble_eq_true rfl, rfl, lay_0, kw_350, tyX0_ok, nmX0, rfl, rfl, rfl⟩
theorem kw_351 : Cond.fieldLink RX10 56 "PlateVote$Chart" "mouths" "I" ∈ Gw := gt_1 (i := 236) rfl rfl
theorem fk_X10_56 : Fk RX10 56 0 3 .int false := ⟨RX0, TX0, 15, tyX0, rfl, Nat.le_of_ble_eq_true rfl, Nat.le_of_ble_eq_true rfl, rfl, lay_0, kw_351, tyX0_ok, nmX0, rfl, rfl, rfl⟩
theorem kw_352 : Cond.fieldLink RX2 58 "PlateVote$Chart" "mouths" "I" ∈ Gw := gt_1 (i := 237) rfl rfl
theorem fk_X2_58 : Fk RX2 58 0 3 .int false := ⟨RX0, TX0, 15, tyX0, rfl, Nat.le_of_ble_eq_true rfl, Nat.le_of_ble_eq_true rfl, rfl, lay_0, kw_352, tyX0_ok, nmX0, rfl, rfl, rfl⟩
theorem kw_353 : Cond.fieldLink RX11 234 "PlateVote$Chart" "mouths" "I" ∈ Gw := gt_1 (i := 238) rfl rfl
theorem fk_X11_234 : Fk RX11 234 0 3 .int false := ⟨RX0, TX0, 15, tyX0, rfl, Nat.le_of_ble_eq_true rfl, Nat.le_of_ble_eq_true rfl, rfl, lay_0, kw_353, tyX0_ok, nmX0, rfl, rfl, rfl⟩
theorem kw_354 : Cond.fieldLink RX7 254 "PlateVote$Chart" "mouths" "I" ∈ Gw := gt_1 (i := 239) rfl rfl
theorem fk_X7_254 : Fk RX7 254 0 3 .int false := ⟨RX0, TX0, 15, tyX0, rfl, Nat.le_of_ble_eq_true rfl, Nat.le_of_ble_eq_true rfl, rfl, lay_0, kw_354, tyX0_ok, nmX0, rfl, rfl, rfl⟩
theorem kw_355 : Cond.fieldLink RX0 35 "PlateVote$Chart" "mays" "I" ∈ Gw := gt_2 (i := 0) rfl rfl
theorem fk_X0_35 : Fk RX0 35 0 4 .int false := ⟨RX0, TX0, 15, tyX0, rfl, Nat.le_of_ble_eq_true rfl, Nat.le_of_ble_eq_true rfl, rfl, lay_0, kw_355, tyX0_ok, nmX0, rfl, rfl, rfl⟩
theorem kw_356 : Cond.fieldLink RX11 237 "PlateVote$Chart" "mays" "I" ∈ Gw := gt_2 (i := 1) rfl rfl
theorem fk_X11_237 : Fk RX11 237 0 4 .int false := ⟨RX0, TX0, 15, tyX0, rfl, Nat.le_of_ble_eq_true rfl, Nat.le_of_ble_eq_true rfl, rfl, lay_0, kw_356, tyX0_ok, nmX0, rfl, rfl, rfl⟩
theorem kw_357 : Cond.fieldLink RX7 251 "PlateVote$Chart" "mays" "I" ∈ Gw := gt_2 (i := 2) rfl rfl
theorem fk_X7_251 : Fk RX7 251 0 4 .int false := ⟨RX0, TX0, 15, tyX0, rfl, Nat.le_of_ble_eq_true rfl, Nat.le_of_ble_eq_true rfl, rfl, lay_0, kw_357, tyX0_ok, nmX0, rfl, rfl, rfl⟩
theorem kw_358 : Cond.fieldLink RX0 38 "PlateVote$Chart" "wind" "[I" ∈ Gw := gt_2 (i := 3) rfl rfl
theorem fk_X0_38 : Fk RX0 38 0 5 (.array .int) true := ⟨RX0, TX0, 15, tyX0, rfl, Nat.le_of_ble_eq_true rfl, Nat.le_of_ble_eq_true rfl, rfl, lay_0, kw_358, tyX0_ok, nmX0, rfl, rfl, rfl⟩
theorem kw_359 : Cond.fieldLink RX7 220 "PlateVote$Chart" "wind" "[I" ∈ Gw := gt_2 (i := 4) rfl rfl
theorem fk_X7_220 : Fk RX7 220 0 5 (.array .int) true := ⟨RX0, TX0, 15, tyX0, rfl, Nat.le_of_ble_eq_true rfl, Nat.le_of_ble_eq_true rfl, rfl, lay_0, kw_359, tyX0_ok, nmX0, rfl, rfl, rfl⟩
theorem kw_360 : Cond.fieldLink RX0 42 "PlateVote$Chart" "winds" "I" ∈ Gw := gt_2 (i := 5) rfl rfl
theorem fk_X0_42 : Fk RX0 42 0 6 .int false := ⟨RX0, TX0, 15, tyX0, rfl, Nat.le_of_ble_eq_true rfl, Nat.le_of_ble_eq_true rfl, rfl, lay_0, kw_360, tyX0_ok, nmX0, rfl, rfl, rfl⟩
theorem kw_361 : Cond.fieldLink RX7 223 "PlateVote$Chart" "winds" "I" ∈ Gw := gt_2 (i := 6) rfl rfl
theorem fk_X7_223 : Fk RX7 223 0 6 .int false := ⟨RX0, TX0, 15, tyX0, rfl, Nat.le_of_ble_eq_true rfl, Nat.le_of_ble_eq_true rfl, rfl, lay_0, kw_361, tyX0_ok, nmX0, rfl, rfl, rfl⟩
theorem kw_362 : Cond.fieldLink RX0 45 "PlateVote$Chart" "galeMeal" "[I" ∈ Gw := gt_2 (i := 7) rfl rfl
theorem fk_X0_45 : Fk RX0 45 0 7 (.array .int) true := ⟨RX0, TX0, 15, tyX0, rfl, Nat.le_of_ble_eq_true rfl, Nat.le_of_ble_eq_true rfl, rfl, lay_0, kw_362, tyX0_ok, nmX0, rfl, rfl, rfl⟩
theorem kw_363 : Cond.fieldLink RX2 196 "PlateVote$Chart" "galeMeal" "[I" ∈ Gw := gt_2 (i := 8) rfl rfl
theorem fk_X2_196 : Fk RX2 196 0 7 (.array .int) true := ⟨RX0, TX0, 15, tyX0, rfl, Nat.le_of_ble_eq_true rfl, Nat.le_of_ble_eq_true rfl, rfl, lay_0, kw_363, tyX0_ok, nmX0, rfl, rfl, rfl⟩
theorem kw_364 : Cond.fieldLink RX7 229 "PlateVote$Chart" "galeMeal" "[I" ∈ Gw := gt_2 (i := 9) rfl rfl
theorem fk_X7_229 : Fk RX7 229 0 7 (.array .int) true := ⟨RX0, TX0, 15, tyX0, rfl, Nat.le_of_ble_eq_true rfl, Nat.le_of_ble_eq_true rfl, rfl, lay_0, kw_364, tyX0_ok, nmX0, rfl, rfl, rfl⟩
theorem kw_365 : Cond.fieldLink RX0 48 "PlateVote$Chart" "galeCourse" "[I" ∈ Gw := gt_2 (i := 10) rfl rfl
theorem fk_X0_48 : Fk RX0 48 0 8 (.array .int) true := ⟨RX0, TX0, 15, tyX0, rfl, Nat.le_of_ble_eq_true rfl, Nat.le_of_ble_eq_true rfl, rfl, lay_0, kw_365, tyX0_ok, nmX0, rfl, rfl, rfl⟩
theorem kw_366 : Cond.fieldLink RX2 199 "PlateVote$Chart" "galeCourse" "[I" ∈ Gw := gt_2 (i := 11) rfl rfl
theorem fk_X2_199 : Fk RX2 199 0 8 (.array .int) true := ⟨RX0, TX0, 15, tyX0, rfl, Nat.le_of_ble_eq_true rfl, Nat.le_of_ble_eq_true rfl, rfl, lay_0, kw_366, tyX0_ok, nmX0, rfl, rfl, rfl⟩
theorem kw_367 : Cond.fieldLink RX7 232 "PlateVote$Chart" "galeCourse" "[I" ∈ Gw := gt_2 (i := 12) rfl rfl
theorem fk_X7_232 : Fk RX7 232 0 8 (.array .int) true := ⟨RX0, TX0, 15, tyX0, rfl, Nat.le_of_ble_eq_true rfl, Nat.le_of_ble_eq_true rfl, rfl, lay_0, kw_367, tyX0_ok, nmX0, rfl, rfl, rfl⟩
theorem kw_368 : Cond.fieldLink RX0 51 "PlateVote$Chart" "galePlates" "[I" ∈ Gw := gt_2 (i := 13) rfl rfl
theorem fk_X0_51 : Fk RX0 51 0 9 (.array .int) true := ⟨RX0, TX0, 15, tyX0, rfl, Nat.le_of_ble_eq_true rfl, Nat.le_of_ble_eq_true rfl, rfl, lay_0, kw_368, tyX0_ok, nmX0, rfl, rfl, rfl⟩
theorem kw_369 : Cond.fieldLink RX2 202 "PlateVote$Chart" "galePlates" "[I" ∈ Gw := gt_2 (i := 14) rfl rfl
theorem fk_X2_202 : Fk RX2 202 0 9 (.array .int) true := ⟨RX0, TX0, 15, tyX0, rfl, Nat.le_of_ble_eq_true rfl, Nat.le_of_ble_eq_true rfl, rfl, lay_0, kw_369, tyX0_ok, nmX0, rfl, rfl, rfl⟩
theorem kw_370 : Cond.fieldLink RX7 235 "PlateVote$Chart" "galePlates" "[I" ∈ Gw := gt_2 (i := 15) rfl rfl
theorem fk_X7_235 : Fk RX7 235 0 9 (.array .int) true := ⟨RX0, TX0, 15, tyX0, rfl, Nat.le_of_ble_eq_true rfl, Nat.le_of_ble_eq_true rfl, rfl, lay_0, kw_370, tyX0_ok, nmX0, rfl, rfl, rfl⟩
theorem kw_371 : Cond.fieldLink RX0 54 "PlateVote$Chart" "gales" "I" ∈ Gw := gt_2 (i := 16) rfl rfl
theorem fk_X0_54 : Fk RX0 54 0 10 .int false := ⟨RX0, TX0, 15, tyX0, rfl, Nat.le_of_ble_eq_true rfl, Nat.le_of_ble_eq_true rfl, rfl, lay_0, kw_371, tyX0_ok, nmX0, rfl, rfl, rfl⟩
theorem kw_372 : Cond.fieldLink RX2 193 "PlateVote$Chart" "gales" "I" ∈ Gw := gt_2 (i := 17) rfl rfl
theorem fk_X2_193 : Fk RX2 193 0 10 .int false := ⟨RX0, TX0, 15, tyX0, rfl, Nat.le_of_ble_eq_true rfl, Nat.le_of_ble_eq_true rfl, rfl, lay_0, kw_372, tyX0_ok, nmX0, rfl, rfl, rfl⟩
theorem kw_373 : Cond.fieldLink RX7 226 "PlateVote$Chart" "gales" "I" ∈ Gw := gt_2 (i := 18) rfl rfl
theorem fk_X7_226 : Fk RX7 226 0 10 .int false := ⟨RX0, TX0, 15, tyX0, rfl, Nat.le_of_ble_eq_true rfl, Nat.le_of_ble_eq_true rfl, rfl, lay_0, kw_373, tyX0_ok, nmX0, rfl, rfl, rfl⟩
theorem kw_374 : Cond.fieldLink RX0 57 "PlateVote$Chart" "stormOdds" "I" ∈ Gw := gt_2 (i := 19) rfl rfl
theorem fk_X0_57 : Fk RX0 57 0 11 .int false := ⟨RX0, TX0, 15, tyX0, rfl, Nat.le_of_ble_eq_true rfl, Nat.le_of_ble_eq_true rfl, rfl, lay_0, kw_374, tyX0_ok, nmX0, rfl, rfl, rfl⟩
theorem kw_375 : Cond.fieldLink RX2 208 "PlateVote$Chart" "stormOdds" "I" ∈ Gw := gt_2 (i := 20) rfl rfl
theorem fk_X2_208 : Fk RX2 208 0 11 .int false := ⟨RX0, TX0, 15, tyX0, rfl, Nat.le_of_ble_eq_true rfl, Nat.le_of_ble_eq_true rfl, rfl, lay_0, kw_375, tyX0_ok, nmX0, rfl, rfl, rfl⟩
theorem kw_376 : Cond.fieldLink RX7 238 "PlateVote$Chart" "stormOdds" "I" ∈ Gw := gt_2 (i := 21) rfl rfl
theorem fk_X7_238 : Fk RX7 238 0 11 .int false := ⟨RX0, TX0, 15, tyX0, rfl, Nat.le_of_ble_eq_true rfl, Nat.le_of_ble_eq_true rfl, rfl, lay_0, kw_376, tyX0_ok, nmX0, rfl, rfl, rfl⟩
theorem kw_377 : Cond.fieldLink RX0 60 "PlateVote$Chart" "stormPlates" "I" ∈ Gw := gt_2 (i := 22) rfl rfl
theorem fk_X0_60 : Fk RX0 60 0 12 .int false := ⟨RX0, TX0, 15, tyX0, rfl, Nat.le_of_ble_eq_true rfl, Nat.le_of_ble_eq_true rfl, rfl, lay_0, kw_377, tyX0_ok, nmX0, rfl, rfl, rfl⟩
theorem kw_378 : Cond.fieldLink RX2 214 "PlateVote$Chart" "stormPlates" "I" ∈ Gw := gt_2 (i := 23) rfl rfl
theorem fk_X2_214 : Fk RX2 214 0 12 .int false := ⟨RX0, TX0, 15, tyX0, rfl, Nat.le_of_ble_eq_true rfl, Nat.le_of_ble_eq_true rfl, rfl, lay_0, kw_378, tyX0_ok, nmX0, rfl, rfl, rfl⟩
theorem kw_379 : Cond.fieldLink RX7 241 "PlateVote$Chart" "stormPlates" "I" ∈ Gw := gt_2 (i := 24) rfl rfl
theorem fk_X7_241 : Fk RX7 241 0 12 .int false := ⟨RX0, TX0, 15, tyX0, rfl, Nat.le_of_ble_eq_true rfl, Nat.le_of_ble_eq_true rfl, rfl, lay_0, kw_379, tyX0_ok, nmX0, rfl, rfl, rfl⟩
theorem kw_380 : Cond.fieldLink RX0 63 "PlateVote$Chart" "soup" "I" ∈ Gw := gt_2 (i := 25) rfl rfl
theorem fk_X0_63 : Fk RX0 63 0 13 .int false := ⟨RX0, TX0, 15, tyX0, rfl, Nat.le_of_ble_eq_true rfl, Nat.le_of_ble_eq_true rfl, rfl, lay_0, kw_380, tyX0_ok, nmX0, rfl, rfl, rfl⟩
theorem kw_381 : Cond.fieldLink RX10 52 "PlateVote$Chart" "soup" "I" ∈ Gw := gt_2 (i := 26) rfl rfl
theorem fk_X10_52 : Fk RX10 52 0 13 .int false := ⟨RX0, TX0, 15, tyX0, rfl, Nat.le_of_ble_eq_true rfl, Nat.le_of_ble_eq_true rfl, rfl, lay_0, kw_381, tyX0_ok, nmX0, rfl, rfl, rfl⟩
theorem kw_382 : Cond.fieldLink RX7 245 "PlateVote$Chart" "soup" "I" ∈ Gw := gt_2 (i := 27) rfl rfl
theorem fk_X7_245 : Fk RX7 245 0 13 .int false := ⟨RX0, TX0, 15, tyX0, rfl, Nat.le_of_ble_eq_true rfl, Nat.le_of_ble_eq_true rfl, rfl, lay_0, kw_382, tyX0_ok, nmX0, rfl, rfl, rfl⟩
theorem kw_383 : Cond.fieldLink RX0 66 "PlateVote$Chart" "seed" "I" ∈ Gw := gt_2 (i := 28) rfl rfl
theorem fk_X0_66 : Fk RX0 66 0 14 .int false := ⟨RX0, TX0, 15, tyX0, rfl, Nat.le_of_ble_eq_true rfl, Nat.le_of_ble_eq_true rfl, rfl, lay_0, kw_383, tyX0_ok, nmX0, rfl, rfl, rfl⟩
theorem kw_384 : Cond.fieldLink RX10 53 "PlateVote$Chart" "seed" "I" ∈ Gw := gt_2 (i := 29) rfl rfl
theorem fk_X10_53 : Fk RX10 53 0 14 .int false := ⟨RX0, TX0, 15, tyX0, rfl, Nat.le_of_ble_eq_true rfl, Nat.le_of_ble_eq_true rfl, rfl, lay_0, kw_384, tyX0_ok, nmX0, rfl, rfl, rfl⟩
theorem kw_385 : Cond.fieldLink RX7 248 "PlateVote$Chart" "seed" "I" ∈ Gw := gt_2 (i := 30) rfl rfl
theorem fk_X7_248 : Fk RX7 248 0 14 .int false := ⟨RX0, TX0, 15, tyX0, rfl, Nat.le_of_ble_eq_true rfl, Nat.le_of_ble_eq_true rfl, rfl, lay_0, kw_385, tyX0_ok, nmX0, rfl, rfl, rfl⟩
theorem kw_478 : Cond.fieldLink RX8 11 "PlateVote$Scanner" "keys" "[I" ∈ Gw := gt_2 (i := 123) rfl rfl
theorem fk_X8_11 : Fk RX8 11 8 0 (.array .int) true := ⟨RX8, TX8, 10, tyX8, rfl, Nat.le_of_ble_eq_true rfl, Nat.le_of_ble_eq_true rfl, rfl, lay_8, kw_478, tyX8_ok, nmX8, rfl, rfl, rfl⟩
theorem kw_479 : Cond.fieldLink RX8 40 "PlateVote$Scanner" "text" "[B" ∈ Gw := gt_2 (i := 124) rfl rfl
theorem fk_X8_40 : Fk RX8 40 8 1 (.array .byte) true := ⟨RX8, TX8, 10, tyX8, rfl, Nat.le_of_ble_eq_true rfl, Nat.le_of_ble_eq_true rfl, rfl, lay_8, kw_479, tyX8_ok, nmX8, rfl, rfl, rfl⟩
theorem kw_480 : Cond.fieldLink RX8 15 "PlateVote$Scanner" "length" "I" ∈ Gw := gt_2 (i := 125) rfl rfl
theorem fk_X8_15 : Fk RX8 15 8 2 .int false := ⟨RX8, TX8, 10, tyX8, rfl, Nat.le_of_ble_eq_true rfl, Nat.le_of_ble_eq_true rfl, rfl, lay_8, kw_480, tyX8_ok, nmX8, rfl, rfl, rfl⟩
theorem kw_481 : Cond.fieldLink RX8 19 "PlateVote$Scanner" "next" "I" ∈ Gw := gt_2 (i := 126) rfl rfl
theorem fk_X8_19 : Fk RX8 19 8 3 .int false := ⟨RX8, TX8, 10, tyX8, rfl, Nat.le_of_ble_eq_true rfl, Nat.le_of_ble_eq_true rfl, rfl, lay_8, kw_481, tyX8_ok, nmX8, rfl, rfl, rfl⟩
theorem kw_482 : Cond.fieldLink RX8 22 "PlateVote$Scanner" "kind" "I" ∈ Gw := gt_2 (i := 127) rfl rfl
theorem fk_X8_22 : Fk RX8 22 8 4 .int false := ⟨RX8, TX8, 10, tyX8, rfl, Nat.le_of_ble_eq_true rfl, Nat.le_of_ble_eq_true rfl, rfl, lay_8, kw_482, tyX8_ok, nmX8, rfl, rfl, rfl⟩
theorem kw_483 : Cond.fieldLink RX8 25 "PlateVote$Scanner" "value" "I" ∈ Gw := gt_2 (i := 128) rfl rfl
theorem fk_X8_25 : Fk RX8 25 8 5 .int false := ⟨RX8, TX8, 10, tyX8, rfl, Nat.le_of_ble_eq_true rfl, Nat.le_of_ble_eq_true rfl, rfl, lay_8, kw_483, tyX8_ok, nmX8, rfl, rfl, rfl⟩
theorem kw_484 : Cond.fieldLink RX8 28 "PlateVote$Scanner" "kinds" "[I" ∈ Gw := gt_2 (i := 129) rfl rfl
theorem fk_X8_28 : Fk RX8 28 8 6 (.array .int) true := ⟨RX8, TX8, 10, tyX8, rfl, Nat.le_of_ble_eq_true rfl, Nat.le_of_ble_eq_true rfl, rfl, lay_8, kw_484, tyX8_ok, nmX8, rfl, rfl, rfl⟩
theorem kw_485 : Cond.fieldLink RX7 111 "PlateVote$Scanner" "kinds" "[I" ∈ Gw := gt_2 (i := 130) rfl rfl
theorem fk_X7_111 : Fk RX7 111 8 6 (.array .int) true := ⟨RX8, TX8, 10, tyX8, rfl, Nat.le_of_ble_eq_true rfl, Nat.le_of_ble_eq_true rfl, rfl, lay_8, kw_485, tyX8_ok, nmX8, rfl, rfl, rfl⟩
theorem kw_486 : Cond.fieldLink RX8 31 "PlateVote$Scanner" "values" "[I" ∈ Gw := gt_2 (i := 131) rfl rfl
theorem fk_X8_31 : Fk RX8 31 8 7 (.array .int) true := ⟨RX8, TX8, 10, tyX8, rfl, Nat.le_of_ble_eq_true rfl, Nat.le_of_ble_eq_true rfl, rfl, lay_8, kw_486, tyX8_ok, nmX8, rfl, rfl, rfl⟩
theorem kw_487 : Cond.fieldLink RX7 117 "PlateVote$Scanner" "values" "[I" ∈ Gw := gt_2 (i := 132) rfl rfl
theorem fk_X7_117 : Fk RX7 117 8 7 (.array .int) true := ⟨RX8, TX8, 10, tyX8, rfl, Nat.le_of_ble_eq_true rfl, Nat.le_of_ble_eq_true rfl, rfl, lay_8, kw_487, tyX8_ok, nmX8, rfl, rfl, rfl⟩
theorem kw_488 : Cond.fieldLink RX8 34 "PlateVote$Scanner" "places" "[I" ∈ Gw := gt_2 (i := 133) rfl rfl
theorem fk_X8_34 : Fk RX8 34 8 8 (.array .int) true := ⟨RX8, TX8, 10, tyX8, rfl, Nat.le_of_ble_eq_true rfl, Nat.le_of_ble_eq_true rfl, rfl, lay_8, kw_488, tyX8_ok, nmX8, rfl, rfl, rfl⟩
theorem kw_489 : Cond.fieldLink RX7 114 "PlateVote$Scanner" "places" "[I" ∈ Gw := gt_2 (i := 134) rfl rfl
theorem fk_X7_114 : Fk RX7 114 8 8 (.array .int) true := ⟨RX8, TX8, 10, tyX8, rfl, Nat.le_of_ble_eq_true rfl, Nat.le_of_ble_eq_true rfl, rfl, lay_8, kw_489, tyX8_ok, nmX8, rfl, rfl, rfl⟩
theorem kw_490 : Cond.fieldLink RX8 37 "PlateVote$Scanner" "size" "I" ∈ Gw := gt_2 (i := 135) rfl rfl
theorem fk_X8_37 : Fk RX8 37 8 9 .int false := ⟨RX8, TX8, 10, tyX8, rfl, Nat.le_of_ble_eq_true rfl, Nat.le_of_ble_eq_true rfl, rfl, lay_8, kw_490, tyX8_ok, nmX8, rfl, rfl, rfl⟩
theorem kw_491 : Cond.fieldLink RX7 99 "PlateVote$Scanner" "size" "I" ∈ Gw := gt_2 (i := 136) rfl rfl
theorem fk_X7_99 : Fk RX7 99 8 9 .int false := ⟨RX8, TX8, 10, tyX8, rfl, Nat.le_of_ble_eq_true rfl, Nat.le_of_ble_eq_true rfl, rfl, lay_8, kw_491, tyX8_ok, nmX8, rfl, rfl, rfl⟩
theorem kw_513 : Cond.fieldLink RX7 72 "PlateVote$Reader" "scanner" "LPlateVote$Scanner;" ∈ Gw := gt_2 (i := 158) rfl rfl
theorem fk_X7_72 : Fk RX7 72 7 0 (.object "PlateVote$Scanner") true := ⟨RX7, TX7, 19, tyX7, rfl, Nat.le_of_ble_eq_true rfl, Nat.le_of_ble_eq_true rfl, rfl, lay_7, kw_513, tyX7_ok, nmX7, rfl, rfl, rfl⟩
theorem kw_514 : Cond.fieldLink RX7 76 "PlateVote$Reader" "chart" "LPlateVote$Chart;" ∈ Gw := gt_2 (i := 159) rfl rfl
theorem fk_X7_76 : Fk RX7 76 7 1 (.object "PlateVote$Chart") false := ⟨RX7, TX7, 19, tyX7, rfl, Nat.le_of_ble_eq_true rfl, Nat.le_of_ble_eq_true rfl, rfl, lay_7, kw_514, tyX7_ok, nmX7, rfl, rfl, rfl⟩
theorem kw_515 : Cond.fieldLink RX7 9 "PlateVote$Reader" "lines" "I" ∈ Gw := gt_2 (i := 160) rfl rfl
theorem fk_X7_9 : Fk RX7 9 7 2 .int false := ⟨RX7, TX7, 19, tyX7, rfl, Nat.le_of_ble_eq_true rfl, Nat.le_of_ble_eq_true rfl, rfl, lay_7, kw_515, tyX7_ok, nmX7, rfl, rfl, rfl⟩
theorem kw_516 : Cond.fieldLink RX11 113 "PlateVote$Reader" "lines" "I" ∈ Gw := gt_2 (i := 161) rfl rfl
theorem fk_X11_113 : Fk RX11 113 7 2 .int false := ⟨RX7, TX7, 19, tyX7, rfl, Nat.le_of_ble_eq_true rfl, Nat.le_of_ble_eq_true rfl, rfl, lay_7, kw_516, tyX7_ok, nmX7, rfl, rfl, rfl⟩
theorem kw_517 : Cond.fieldLink RX7 15 "PlateVote$Reader" "faultKind" "I" ∈ Gw := gt_2 (i := 162) rfl rfl
theorem fk_X7_15 : Fk RX7 15 7 3 .int false := ⟨RX7, TX7, 19, tyX7, rfl, Nat.le_of_ble_eq_true rfl, Nat.le_of_ble_eq_true rfl, rfl, lay_7, kw_517, tyX7_ok, nmX7, rfl, rfl, rfl⟩
theorem kw_518 : Cond.fieldLink RX11 116 "PlateVote$Reader" "faultKind" "I" ∈ Gw := gt_2 (i := 163) rfl rfl
theorem fk_X11_116 : Fk RX11 116 7 3 .int false := ⟨RX7, TX7, 19, tyX7, rfl, Nat.le_of_ble_eq_true rfl, Nat.le_of_ble_eq_true rfl, rfl, lay_7, kw_518, tyX7_ok, nmX7, rfl, rfl, rfl⟩
theorem kw_519 : Cond.fieldLink RX7 18 "PlateVote$Reader" "faultPlace" "I" ∈ Gw := gt_2 (i := 164) rfl rfl
theorem fk_X7_18 : Fk RX7 18 7 4 .int false := ⟨RX7, TX7, 19, tyX7, rfl, Nat.le_of_ble_eq_true rfl, Nat.le_of_ble_eq_true rfl, rfl, lay_7, kw_519, tyX7_ok, nmX7, rfl, rfl, rfl⟩
theorem kw_520 : Cond.fieldLink RX11 119 "PlateVote$Reader" "faultPlace" "I" ∈ Gw := gt_2 (i := 165) rfl rfl
theorem fk_X11_119 : Fk RX11 119 7 4 .int false := ⟨RX7, TX7, 19, tyX7, rfl, Nat.le_of_ble_eq_true rfl, Nat.le_of_ble_eq_true rfl, rfl, lay_7, kw_520, tyX7_ok, nmX7, rfl, rfl, rfl⟩
theorem kw_521 : Cond.fieldLink RX7 21 "PlateVote$Reader" "at" "I" ∈ Gw := gt_2 (i := 166) rfl rfl
theorem fk_X7_21 : Fk RX7 21 7 5 .int false := ⟨RX7, TX7, 19, tyX7, rfl, Nat.le_of_ble_eq_true rfl, Nat.le_of_ble_eq_true rfl, rfl, lay_7, kw_521, tyX7_ok, nmX7, rfl, rfl, rfl⟩
theorem kw_522 : Cond.fieldLink RX7 26 "PlateVote$Reader" "kind" "I" ∈ Gw := gt_2 (i := 167) rfl rfl
theorem fk_X7_26 : Fk RX7 26 7 6 .int false := ⟨RX7, TX7, 19, tyX7, rfl, Nat.le_of_ble_eq_true rfl, Nat.le_of_ble_eq_true rfl, rfl, lay_7, kw_522, tyX7_ok, nmX7, rfl, rfl, rfl⟩
theorem kw_523 : Cond.fieldLink RX7 29 "PlateVote$Reader" "place" "I" ∈ Gw := gt_2 (i := 168) rfl rfl
theorem fk_X7_29 : Fk RX7 29 7 7 .int false := ⟨RX7, TX7, 19, tyX7, rfl, Nat.le_of_ble_eq_true rfl, Nat.le_of_ble_eq_true rfl, rfl, lay_7, kw_523, tyX7_ok, nmX7, rfl, rfl, rfl⟩
theorem kw_524 : Cond.fieldLink RX7 32 "PlateVote$Reader" "value" "I" ∈ Gw := gt_2 (i := 169) rfl rfl
theorem fk_X7_32 : Fk RX7 32 7 8 .int false := ⟨RX7, TX7, 19, tyX7, rfl, Nat.le_of_ble_eq_true rfl, Nat.le_of_ble_eq_true rfl, rfl, lay_7, kw_524, tyX7_ok, nmX7, rfl, rfl, rfl⟩
theorem kw_525 : Cond.fieldLink RX7 35 "PlateVote$Reader" "key" "I" ∈ Gw := gt_2 (i := 170) rfl rfl
theorem fk_X7_35 : Fk RX7 35 7 9 .int false := ⟨RX7, TX7, 19, tyX7, rfl, Nat.le_of_ble_eq_true rfl, Nat.le_of_ble_eq_true rfl, rfl, lay_7, kw_525, tyX7_ok, nmX7, rfl, rfl, rfl⟩
theorem kw_526 : Cond.fieldLink RX7 38 "PlateVote$Reader" "sign" "I" ∈ Gw := gt_2 (i := 171) rfl rfl
theorem fk_X7_38 : Fk RX7 38 7 10 .int false := ⟨RX7, TX7, 19, tyX7, rfl, Nat.le_of_ble_eq_true rfl, Nat.le_of_ble_eq_true rfl, rfl, lay_7, kw_526, tyX7_ok, nmX7, rfl, rfl, rfl⟩
theorem kw_527 : Cond.fieldLink RX7 41 "PlateVote$Reader" "got" "I" ∈ Gw := gt_2 (i := 172) rfl rfl
theorem fk_X7_41 : Fk RX7 41 7 11 .int false := ⟨RX7, TX7, 19, tyX7, rfl, Nat.le_of_ble_eq_true rfl, Nat.le_of_ble_eq_true rfl, rfl, lay_7, kw_527, tyX7_ok, nmX7, rfl, rfl, rfl⟩
theorem kw_528 : Cond.fieldLink RX7 44 "PlateVote$Reader" "gotPlace" "I" ∈ Gw := gt_2 (i := 173) rfl rfl
theorem fk_X7_44 : Fk RX7 44 7 12 .int false := ⟨RX7, TX7, 19, tyX7, rfl, Nat.le_of_ble_eq_true rfl, Nat.le_of_ble_eq_true rfl, rfl, lay_7, kw_528, tyX7_ok, nmX7, rfl, rfl, rfl⟩
theorem kw_529 : Cond.fieldLink RX7 47 "PlateVote$Reader" "told" "I" ∈ Gw := gt_2 (i := 174) rfl rfl
theorem fk_X7_47 : Fk RX7 47 7 13 .int false := ⟨RX7, TX7, 19, tyX7, rfl, Nat.le_of_ble_eq_true rfl, Nat.le_of_ble_eq_true rfl, rfl, lay_7, kw_529, tyX7_ok, nmX7, rfl, rfl, rfl⟩
theorem kw_530 : Cond.fieldLink RX7 52 "PlateVote$Reader" "pending" "[I" ∈ Gw := gt_2 (i := 175) rfl rfl
theorem fk_X7_52 : Fk RX7 52 7 14 (.array .int) true := ⟨RX7, TX7, 19, tyX7, rfl, Nat.le_of_ble_eq_true rfl, Nat.le_of_ble_eq_true rfl, rfl, lay_7, kw_530, tyX7_ok, nmX7, rfl, rfl, rfl⟩
theorem kw_531 : Cond.fieldLink RX7 56 "PlateVote$Reader" "waiting" "I" ∈ Gw := gt_2 (i := 176) rfl rfl
theorem fk_X7_56 : Fk RX7 56 7 15 .int false := ⟨RX7, TX7, 19, tyX7, rfl, Nat.le_of_ble_eq_true rfl, Nat.le_of_ble_eq_true rfl, rfl, lay_7, kw_531, tyX7_ok, nmX7, rfl, rfl, rfl⟩
theorem kw_532 : Cond.fieldLink RX7 59 "PlateVote$Reader" "open" "I" ∈ Gw := gt_2 (i := 177) rfl rfl
theorem fk_X7_59 : Fk RX7 59 7 16 .int false := ⟨RX7, TX7, 19, tyX7, rfl, Nat.le_of_ble_eq_true rfl, Nat.le_of_ble_eq_true rfl, rfl, lay_7, kw_532, tyX7_ok, nmX7, rfl, rfl, rfl⟩
theorem kw_533 : Cond.fieldLink RX7 62 "PlateVote$Reader" "knots" "I" ∈ Gw := gt_2 (i := 178) rfl rfl
theorem fk_X7_62 : Fk RX7 62 7 17 .int false := ⟨RX7, TX7, 19, tyX7, rfl, Nat.le_of_ble_eq_true rfl, Nat.le_of_ble_eq_true rfl, rfl, lay_7, kw_533, tyX7_ok, nmX7, rfl, rfl, rfl⟩
theorem kw_534 : Cond.fieldLink RX7 65 "PlateVote$Reader" "wantsPart" "Z" ∈ Gw := gt_2 (i := 179) rfl rfl
theorem fk_X7_65 : Fk RX7 65 7 18 .boolean false := ⟨RX7, TX7, 19, tyX7, rfl, Nat.le_of_ble_eq_true rfl, Nat.le_of_ble_eq_true rfl, rfl, lay_7, kw_534, tyX7_ok, nmX7, rfl, rfl, rfl⟩
theorem kw_580 : Cond.fieldLink RX2 43 "PlateVote$Galley" "chart" "LPlateVote$Chart;" ∈ Gw := gt_2 (i := 225) rfl rfl
theorem fk_X2_43 : Fk RX2 43 2 0 (.object "PlateVote$Chart") false := ⟨RX2, TX2, 11, tyX2, rfl, Nat.le_of_ble_eq_true rfl, Nat.le_of_ble_eq_true rfl, rfl, lay_2, kw_580, tyX2_ok, nmX2, rfl, rfl, rfl⟩
theorem kw_581 : Cond.fieldLink RX6 39 "PlateVote$Galley" "chart" "LPlateVote$Chart;" ∈ Gw := gt_2 (i := 226) rfl rfl
theorem fk_X6_39 : Fk RX6 39 2 0 (.object "PlateVote$Chart") false := ⟨RX2, TX2, 11, tyX2, rfl, Nat.le_of_ble_eq_true rfl, Nat.le_of_ble_eq_true rfl, rfl, lay_2, kw_581, tyX2_ok, nmX2, rfl, rfl, rfl⟩
theorem kw_582 : Cond.fieldLink RX11 109 "PlateVote$Galley" "chart" "LPlateVote$Chart;" ∈ Gw := gt_2 (i := 227) rfl rfl
theorem fk_X11_109 : Fk RX11 109 2 0 (.object "PlateVote$Chart") false := ⟨RX2, TX2, 11, tyX2, rfl, Nat.le_of_ble_eq_true rfl, Nat.le_of_ble_eq_true rfl, rfl, lay_2, kw_582, tyX2_ok, nmX2, rfl, rfl, rfl⟩
theorem kw_583 : Cond.fieldLink RX2 9 "PlateVote$Galley" "trial" "I" ∈ Gw := gt_2 (i := 228) rfl rfl
theorem fk_X2_9 : Fk RX2 9 2 1 .int false := ⟨RX2, TX2, 11, tyX2, rfl, Nat.le_of_ble_eq_true rfl, Nat.le_of_ble_eq_true rfl, rfl, lay_2, kw_583, tyX2_ok, nmX2, rfl, rfl, rfl⟩
theorem kw_584 : Cond.fieldLink RX11 333 "PlateVote$Galley" "trial" "I" ∈ Gw := gt_2 (i := 229) rfl rfl
theorem fk_X11_333 : Fk RX11 333 2 1 .int false := ⟨RX2, TX2, 11, tyX2, rfl, Nat.le_of_ble_eq_true rfl, Nat.le_of_ble_eq_true rfl, rfl, lay_2, kw_584, tyX2_ok, nmX2, rfl, rfl, rfl⟩
theorem kw_585 : Cond.fieldLink RX2 15 "PlateVote$Galley" "absent" "I" ∈ Gw := gt_2 (i := 230) rfl rfl
theorem fk_X2_15 : Fk RX2 15 2 2 .int false := ⟨RX2, TX2, 11, tyX2, rfl, Nat.le_of_ble_eq_true rfl, Nat.le_of_ble_eq_true rfl, rfl, lay_2, kw_585, tyX2_ok, nmX2, rfl, rfl, rfl⟩
theorem kw_586 : Cond.fieldLink RX11 336 "PlateVote$Galley" "absent" "I" ∈ Gw := gt_2 (i := 231) rfl rfl
theorem fk_X11_336 : Fk RX11 336 2 2 .int false := ⟨RX2, TX2, 11, tyX2, rfl, Nat.le_of_ble_eq_true rfl, Nat.le_of_ble_eq_true rfl, rfl, lay_2, kw_586, tyX2_ok, nmX2, rfl, rfl, rfl⟩
theorem kw_587 : Cond.fieldLink RX2 18 "PlateVote$Galley" "plates" "[I" ∈ Gw := gt_2 (i := 232) rfl rfl
theorem fk_X2_18 : Fk RX2 18 2 3 (.array .int) true := ⟨RX2, TX2, 11, tyX2, rfl, Nat.le_of_ble_eq_true rfl, Nat.le_of_ble_eq_true rfl, rfl, lay_2, kw_587, tyX2_ok, nmX2, rfl, rfl, rfl⟩
theorem kw_588 : Cond.fieldLink RX11 206 "PlateVote$Galley" "plates" "[I" ∈ Gw := gt_2 (i := 233) rfl rfl
theorem fk_X11_206 : Fk RX11 206 2 3 (.array .int) true := ⟨RX2, TX2, 11, tyX2, rfl, Nat.le_of_ble_eq_true rfl, Nat.le_of_ble_eq_true rfl, rfl, lay_2, kw_588, tyX2_ok, nmX2, rfl, rfl, rfl⟩
theorem kw_589 : Cond.fieldLink RX2 22 "PlateVote$Galley" "wishes" "[I" ∈ Gw := gt_2 (i := 234) rfl rfl
theorem fk_X2_22 : Fk RX2 22 2 4 (.array .int) true := ⟨RX2, TX2, 11, tyX2, rfl, Nat.le_of_ble_eq_true rfl, Nat.le_of_ble_eq_true rfl, rfl, lay_2, kw_589, tyX2_ok, nmX2, rfl, rfl, rfl⟩
theorem kw_590 : Cond.fieldLink RX2 25 "PlateVote$Galley" "votes" "[I" ∈ Gw := gt_2 (i := 235) rfl rfl
theorem fk_X2_25 : Fk RX2 25 2 5 (.array .int) true := ⟨RX2, TX2, 11, tyX2, rfl, Nat.le_of_ble_eq_true rfl, Nat.le_of_ble_eq_true rfl, rfl, lay_2, kw_590, tyX2_ok, nmX2, rfl, rfl, rfl⟩
theorem kw_591 : Cond.fieldLink RX11 231 "PlateVote$Galley" "votes" "[I" ∈ Gw := gt_2 (i := 236) rfl rfl
theorem fk_X11_231 : Fk RX11 231 2 5 (.array .int) true := ⟨RX2, TX2, 11, tyX2, rfl, Nat.le_of_ble_eq_true rfl, Nat.le_of_ble_eq_true rfl, rfl, lay_2, kw_591, tyX2_ok, nmX2, rfl, rfl, rfl⟩
theorem kw_592 : Cond.fieldLink RX2 28 "PlateVote$Galley" "shares" "[I" ∈ Gw := gt_2 (i := 237) rfl rfl
theorem fk_X2_28 : Fk RX2 28 2 6 (.array .int) true := ⟨RX2, TX2, 11, tyX2, rfl, Nat.le_of_ble_eq_true rfl, Nat.le_of_ble_eq_true rfl, rfl, lay_2, kw_592, tyX2_ok, nmX2, rfl, rfl, rfl⟩
theorem kw_593 : Cond.fieldLink RX2 31 "PlateVote$Galley" "eaten" "I" ∈ Gw := gt_2 (i := 238) rfl rfl
theorem fk_X2_31 : Fk RX2 31 2 7 .int false := ⟨RX2, TX2, 11, tyX2, rfl, Nat.le_of_ble_eq_true rfl, Nat.le_of_ble_eq_true rfl, rfl, lay_2, kw_593, tyX2_ok, nmX2, rfl, rfl, rfl⟩
theorem kw_594 : Cond.fieldLink RX6 83 "PlateVote$Galley" "eaten" "I" ∈ Gw := gt_2 (i := 239) rfl rfl
theorem fk_X6_83 : Fk RX6 83 2 7 .int false := ⟨RX2, TX2, 11, tyX2, rfl, Nat.le_of_ble_eq_true rfl, Nat.le_of_ble_eq_true rfl, rfl, lay_2, kw_594, tyX2_ok, nmX2, rfl, rfl, rfl⟩
theorem kw_595 : Cond.fieldLink RX11 261 "PlateVote$Galley" "eaten" "I" ∈ Gw := gt_3 (i := 0) rfl rfl
theorem fk_X11_261 : Fk RX11 261 2 7 .int false := ⟨RX2, TX2, 11, tyX2, rfl, Nat.le_of_ble_eq_true rfl, Nat.le_of_ble_eq_true rfl, rfl, lay_2, kw_595, tyX2_ok, nmX2, rfl, rfl, rfl⟩
theorem kw_596 : Cond.fieldLink RX2 34 "PlateVote$Galley" "storm" "I" ∈ Gw := gt_3 (i := 1) rfl rfl
theorem fk_X2_34 : Fk RX2 34 2 8 .int false := ⟨RX2, TX2, 11, tyX2, rfl, Nat.le_of_ble_eq_true rfl, Nat.le_of_ble_eq_true rfl, rfl, lay_2, kw_596, tyX2_ok, nmX2, rfl, rfl, rfl⟩
theorem kw_597 : Cond.fieldLink RX11 269 "PlateVote$Galley" "storm" "I" ∈ Gw := gt_3 (i := 2) rfl rfl
theorem fk_X11_269 : Fk RX11 269 2 8 .int false := ⟨RX2, TX2, 11, tyX2, rfl, Nat.le_of_ble_eq_true rfl, Nat.le_of_ble_eq_true rfl, rfl, lay_2, kw_597, tyX2_ok, nmX2, rfl, rfl, rfl⟩
theorem kw_598 : Cond.fieldLink RX2 37 "PlateVote$Galley" "memo" "[I" ∈ Gw := gt_3 (i := 3) rfl rfl
theorem fk_X2_37 : Fk RX2 37 2 9 (.array .int) true := ⟨RX2, TX2, 11, tyX2, rfl, Nat.le_of_ble_eq_true rfl, Nat.le_of_ble_eq_true rfl, rfl, lay_2, kw_598, tyX2_ok, nmX2, rfl, rfl, rfl⟩
theorem kw_599 : Cond.fieldLink RX2 40 "PlateVote$Galley" "memoBase" "I" ∈ Gw := gt_3 (i := 4) rfl rfl
theorem fk_X2_40 : Fk RX2 40 2 10 .int false := ⟨RX2, TX2, 11, tyX2, rfl, Nat.le_of_ble_eq_true rfl, Nat.le_of_ble_eq_true rfl, rfl, lay_2, kw_599, tyX2_ok, nmX2, rfl, rfl, rfl⟩
theorem kw_636 : Cond.fieldLink RX10 9 "PlateVote$Voyage" "meal" "I" ∈ Gw := gt_3 (i := 41) rfl rfl
theorem fk_X10_9 : Fk RX10 9 10 0 .int false := ⟨RX10, TX10, 9, tyX10, rfl, Nat.le_of_ble_eq_true rfl, Nat.le_of_ble_eq_true rfl, rfl, lay_10, kw_636, tyX10_ok, nmX10, rfl, rfl, rfl⟩
theorem kw_637 : Cond.fieldLink RX2 73 "PlateVote$Voyage" "meal" "I" ∈ Gw := gt_3 (i := 42) rfl rfl
theorem fk_X2_73 : Fk RX2 73 10 0 .int false := ⟨RX10, TX10, 9, tyX10, rfl, Nat.le_of_ble_eq_true rfl, Nat.le_of_ble_eq_true rfl, rfl, lay_10, kw_637, tyX10_ok, nmX10, rfl, rfl, rfl⟩
theorem kw_638 : Cond.fieldLink RX11 195 "PlateVote$Voyage" "meal" "I" ∈ Gw := gt_3 (i := 43) rfl rfl
theorem fk_X11_195 : Fk RX11 195 10 0 .int false := ⟨RX10, TX10, 9, tyX10, rfl, Nat.le_of_ble_eq_true rfl, Nat.le_of_ble_eq_true rfl, rfl, lay_10, kw_638, tyX10_ok, nmX10, rfl, rfl, rfl⟩
theorem kw_639 : Cond.fieldLink RX10 15 "PlateVote$Voyage" "cell" "I" ∈ Gw := gt_3 (i := 44) rfl rfl
theorem fk_X10_15 : Fk RX10 15 10 1 .int false := ⟨RX10, TX10, 9, tyX10, rfl, Nat.le_of_ble_eq_true rfl, Nat.le_of_ble_eq_true rfl, rfl, lay_10, kw_639, tyX10_ok, nmX10, rfl, rfl, rfl⟩
theorem kw_640 : Cond.fieldLink RX6 36 "PlateVote$Voyage" "cell" "I" ∈ Gw := gt_3 (i := 45) rfl rfl
theorem fk_X6_36 : Fk RX6 36 10 1 .int false := ⟨RX10, TX10, 9, tyX10, rfl, Nat.le_of_ble_eq_true rfl, Nat.le_of_ble_eq_true rfl, rfl, lay_10, kw_640, tyX10_ok, nmX10, rfl, rfl, rfl⟩
theorem kw_641 : Cond.fieldLink RX11 173 "PlateVote$Voyage" "cell" "I" ∈ Gw := gt_3 (i := 46) rfl rfl
theorem fk_X11_173 : Fk RX11 173 10 1 .int false := ⟨RX10, TX10, 9, tyX10, rfl, Nat.le_of_ble_eq_true rfl, Nat.le_of_ble_eq_true rfl, rfl, lay_10, kw_641, tyX10_ok, nmX10, rfl, rfl, rfl⟩
theorem kw_642 : Cond.fieldLink RX2 157 "PlateVote$Voyage" "cell" "I" ∈ Gw := gt_3 (i := 47) rfl rfl
theorem fk_X2_157 : Fk RX2 157 10 1 .int false := ⟨RX10, TX10, 9, tyX10, rfl, Nat.le_of_ble_eq_true rfl, Nat.le_of_ble_eq_true rfl, rfl, lay_10, kw_642, tyX10_ok, nmX10, rfl, rfl, rfl⟩
theorem kw_643 : Cond.fieldLink RX10 18 "PlateVote$Voyage" "soup" "I" ∈ Gw := gt_3 (i := 48) rfl rfl
theorem fk_X10_18 : Fk RX10 18 10 2 .int false := ⟨RX10, TX10, 9, tyX10, rfl, Nat.le_of_ble_eq_true rfl, Nat.le_of_ble_eq_true rfl, rfl, lay_10, kw_643, tyX10_ok, nmX10, rfl, rfl, rfl⟩
theorem kw_644 : Cond.fieldLink RX2 99 "PlateVote$Voyage" "soup" "I" ∈ Gw := gt_3 (i := 49) rfl rfl
theorem fk_X2_99 : Fk RX2 99 10 2 .int false := ⟨RX10, TX10, 9, tyX10, rfl, Nat.le_of_ble_eq_true rfl, Nat.le_of_ble_eq_true rfl, rfl, lay_10, kw_644, tyX10_ok, nmX10, rfl, rfl, rfl⟩
theorem kw_645 : Cond.fieldLink RX11 179 "PlateVote$Voyage" "soup" "I" ∈ Gw := gt_3 (i := 50) rfl rfl
theorem fk_X11_179 : Fk RX11 179 10 2 .int false := ⟨RX10, TX10, 9, tyX10, rfl, Nat.le_of_ble_eq_true rfl, Nat.le_of_ble_eq_true rfl, rfl, lay_10, kw_645, tyX10_ok, nmX10, rfl, rfl, rfl⟩
theorem kw_646 : Cond.fieldLink RX10 21 "PlateVote$Voyage" "random" "J" ∈ Gw := gt_3 (i := 51) rfl rfl
theorem fk_X10_21 : Fk RX10 21 10 3 .long false := ⟨RX10, TX10, 9, tyX10, rfl, Nat.le_of_ble_eq_true rfl, Nat.le_of_ble_eq_true rfl, rfl, lay_10, kw_646, tyX10_ok, nmX10, rfl, rfl, rfl⟩
theorem kw_647 : Cond.fieldLink RX10 25 "PlateVote$Voyage" "fed" "I" ∈ Gw := gt_3 (i := 52) rfl rfl
theorem fk_X10_25 : Fk RX10 25 10 4 .int false := ⟨RX10, TX10, 9, tyX10, rfl, Nat.le_of_ble_eq_true rfl, Nat.le_of_ble_eq_true rfl, rfl, lay_10, kw_647, tyX10_ok, nmX10, rfl, rfl, rfl⟩
theorem kw_648 : Cond.fieldLink RX11 161 "PlateVote$Voyage" "fed" "I" ∈ Gw := gt_3 (i := 53) rfl rfl
theorem fk_X11_161 : Fk RX11 161 10 4 .int false := ⟨RX10, TX10, 9, tyX10, rfl, Nat.le_of_ble_eq_true rfl, Nat.le_of_ble_eq_true rfl, rfl, lay_10, kw_648, tyX10_ok, nmX10, rfl, rfl, rfl⟩
theorem kw_649 : Cond.fieldLink RX10 28 "PlateVote$Voyage" "may" "I" ∈ Gw := gt_3 (i := 54) rfl rfl
theorem fk_X10_28 : Fk RX10 28 10 5 .int false := ⟨RX10, TX10, 9, tyX10, rfl, Nat.le_of_ble_eq_true rfl, Nat.le_of_ble_eq_true rfl, rfl, lay_10, kw_649, tyX10_ok, nmX10, rfl, rfl, rfl⟩
theorem kw_650 : Cond.fieldLink RX2 61 "PlateVote$Voyage" "may" "I" ∈ Gw := gt_3 (i := 55) rfl rfl
theorem fk_X2_61 : Fk RX2 61 10 5 .int false := ⟨RX10, TX10, 9, tyX10, rfl, Nat.le_of_ble_eq_true rfl, Nat.le_of_ble_eq_true rfl, rfl, lay_10, kw_650, tyX10_ok, nmX10, rfl, rfl, rfl⟩
theorem kw_651 : Cond.fieldLink RX11 240 "PlateVote$Voyage" "may" "I" ∈ Gw := gt_3 (i := 56) rfl rfl
theorem fk_X11_240 : Fk RX11 240 10 5 .int false := ⟨RX10, TX10, 9, tyX10, rfl, Nat.le_of_ble_eq_true rfl, Nat.le_of_ble_eq_true rfl, rfl, lay_10, kw_651, tyX10_ok, nmX10, rfl, rfl, rfl⟩
theorem kw_652 : Cond.fieldLink RX10 31 "PlateVote$Voyage" "leapt" "I" ∈ Gw := gt_3 (i := 57) rfl rfl
theorem fk_X10_31 : Fk RX10 31 10 6 .int false := ⟨RX10, TX10, 9, tyX10, rfl, Nat.le_of_ble_eq_true rfl, Nat.le_of_ble_eq_true rfl, rfl, lay_10, kw_652, tyX10_ok, nmX10, rfl, rfl, rfl⟩
theorem kw_653 : Cond.fieldLink RX2 53 "PlateVote$Voyage" "leapt" "I" ∈ Gw := gt_3 (i := 58) rfl rfl
theorem fk_X2_53 : Fk RX2 53 10 6 .int false := ⟨RX10, TX10, 9, tyX10, rfl, Nat.le_of_ble_eq_true rfl, Nat.le_of_ble_eq_true rfl, rfl, lay_10, kw_653, tyX10_ok, nmX10, rfl, rfl, rfl⟩
theorem kw_654 : Cond.fieldLink RX11 158 "PlateVote$Voyage" "leapt" "I" ∈ Gw := gt_3 (i := 59) rfl rfl
theorem fk_X11_158 : Fk RX11 158 10 6 .int false := ⟨RX10, TX10, 9, tyX10, rfl, Nat.le_of_ble_eq_true rfl, Nat.le_of_ble_eq_true rfl, rfl, lay_10, kw_654, tyX10_ok, nmX10, rfl, rfl, rfl⟩
theorem kw_655 : Cond.fieldLink RX10 34 "PlateVote$Voyage" "arrived" "I" ∈ Gw := gt_3 (i := 60) rfl rfl
theorem fk_X10_34 : Fk RX10 34 10 7 .int false := ⟨RX10, TX10, 9, tyX10, rfl, Nat.le_of_ble_eq_true rfl, Nat.le_of_ble_eq_true rfl, rfl, lay_10, kw_655, tyX10_ok, nmX10, rfl, rfl, rfl⟩
theorem kw_656 : Cond.fieldLink RX11 182 "PlateVote$Voyage" "arrived" "I" ∈ Gw := gt_3 (i := 61) rfl rfl
theorem fk_X11_182 : Fk RX11 182 10 7 .int false := ⟨RX10, TX10, 9, tyX10, rfl, Nat.le_of_ble_eq_true rfl, Nat.le_of_ble_eq_true rfl, rfl, lay_10, kw_656, tyX10_ok, nmX10, rfl, rfl, rfl⟩
theorem kw_657 : Cond.fieldLink RX2 223 "PlateVote$Voyage" "arrived" "I" ∈ Gw := gt_3 (i := 62) rfl rfl
theorem fk_X2_223 : Fk RX2 223 10 7 .int false := ⟨RX10, TX10, 9, tyX10, rfl, Nat.le_of_ble_eq_true rfl, Nat.le_of_ble_eq_true rfl, rfl, lay_10, kw_657, tyX10_ok, nmX10, rfl, rfl, rfl⟩
theorem kw_658 : Cond.fieldLink RX10 37 "PlateVote$Voyage" "lost" "[I" ∈ Gw := gt_3 (i := 63) rfl rfl
theorem fk_X10_37 : Fk RX10 37 10 8 (.array .int) true := ⟨RX10, TX10, 9, tyX10, rfl, Nat.le_of_ble_eq_true rfl, Nat.le_of_ble_eq_true rfl, rfl, lay_10, kw_658, tyX10_ok, nmX10, rfl, rfl, rfl⟩
theorem kw_659 : Cond.fieldLink RX11 154 "PlateVote$Voyage" "lost" "[I" ∈ Gw := gt_3 (i := 64) rfl rfl
theorem fk_X11_154 : Fk RX11 154 10 8 (.array .int) true := ⟨RX10, TX10, 9, tyX10, rfl, Nat.le_of_ble_eq_true rfl, Nat.le_of_ble_eq_true rfl, rfl, lay_10, kw_659, tyX10_ok, nmX10, rfl, rfl, rfl⟩
theorem kw_660 : Cond.fieldLink RX2 137 "PlateVote$Voyage" "lost" "[I" ∈ Gw := gt_3 (i := 65) rfl rfl
theorem fk_X2_137 : Fk RX2 137 10 8 (.array .int) true := ⟨RX10, TX10, 9, tyX10, rfl, Nat.le_of_ble_eq_true rfl, Nat.le_of_ble_eq_true rfl, rfl, lay_10, kw_660, tyX10_ok, nmX10, rfl, rfl, rfl⟩
theorem kw_680 : Cond.fieldLink RX6 31 "PlateVote$Planner" "galley" "LPlateVote$Galley;" ∈ Gw := gt_3 (i := 85) rfl rfl
theorem fk_X6_31 : Fk RX6 31 6 0 (.object "PlateVote$Galley") true := ⟨RX6, TX6, 6, tyX6, rfl, Nat.le_of_ble_eq_true rfl, Nat.le_of_ble_eq_true rfl, rfl, lay_6, kw_680, tyX6_ok, nmX6, rfl, rfl, rfl⟩
theorem kw_681 : Cond.fieldLink RX6 11 "PlateVote$Planner" "stages" "[LPlateVote$Voyage;" ∈ Gw := gt_3 (i := 86) rfl rfl
theorem fk_X6_11 : Fk RX6 11 6 1 (.array (.object "PlateVote$Voyage")) true := ⟨RX6, TX6, 6, tyX6, rfl, Nat.le_of_ble_eq_true rfl, Nat.le_of_ble_eq_true rfl, rfl, lay_6, kw_681, tyX6_ok, nmX6, rfl, rfl, rfl⟩
theorem kw_682 : Cond.fieldLink RX6 17 "PlateVote$Planner" "fed" "[I" ∈ Gw := gt_3 (i := 87) rfl rfl
theorem fk_X6_17 : Fk RX6 17 6 2 (.array .int) true := ⟨RX6, TX6, 6, tyX6, rfl, Nat.le_of_ble_eq_true rfl, Nat.le_of_ble_eq_true rfl, rfl, lay_6, kw_682, tyX6_ok, nmX6, rfl, rfl, rfl⟩
theorem kw_683 : Cond.fieldLink RX6 21 "PlateVote$Planner" "best" "[I" ∈ Gw := gt_3 (i := 88) rfl rfl
theorem fk_X6_21 : Fk RX6 21 6 3 (.array .int) true := ⟨RX6, TX6, 6, tyX6, rfl, Nat.le_of_ble_eq_true rfl, Nat.le_of_ble_eq_true rfl, rfl, lay_6, kw_683, tyX6_ok, nmX6, rfl, rfl, rfl⟩
theorem kw_684 : Cond.fieldLink RX11 285 "PlateVote$Planner" "best" "[I" ∈ Gw := gt_3 (i := 89) rfl rfl
theorem fk_X11_285 : Fk RX11 285 6 3 (.array .int) true := ⟨RX6, TX6, 6, tyX6, rfl, Nat.le_of_ble_eq_true rfl, Nat.le_of_ble_eq_true rfl, rfl, lay_6, kw_684, tyX6_ok, nmX6, rfl, rfl, rfl⟩
theorem kw_685 : Cond.fieldLink RX6 24 "PlateVote$Planner" "bestSoup" "I" ∈ Gw := gt_3 (i := 90) rfl rfl
theorem fk_X6_24 : Fk RX6 24 6 4 .int false := ⟨RX6, TX6, 6, tyX6, rfl, Nat.le_of_ble_eq_true rfl, Nat.le_of_ble_eq_true rfl, rfl, lay_6, kw_685, tyX6_ok, nmX6, rfl, rfl, rfl⟩
theorem kw_686 : Cond.fieldLink RX11 282 "PlateVote$Planner" "bestSoup" "I" ∈ Gw := gt_3 (i := 91) rfl rfl
theorem fk_X11_282 : Fk RX11 282 6 4 .int false := ⟨RX6, TX6, 6, tyX6, rfl, Nat.le_of_ble_eq_true rfl, Nat.le_of_ble_eq_true rfl, rfl, lay_6, kw_686, tyX6_ok, nmX6, rfl, rfl, rfl⟩
theorem kw_687 : Cond.fieldLink RX6 28 "PlateVote$Planner" "bestMeals" "I" ∈ Gw := gt_3 (i := 92) rfl rfl
theorem fk_X6_28 : Fk RX6 28 6 5 .int false := ⟨RX6, TX6, 6, tyX6, rfl, Nat.le_of_ble_eq_true rfl, Nat.le_of_ble_eq_true rfl, rfl, lay_6, kw_687, tyX6_ok, nmX6, rfl, rfl, rfl⟩
theorem kw_688 : Cond.fieldLink RX11 279 "PlateVote$Planner" "bestMeals" "I" ∈ Gw := gt_3 (i := 93) rfl rfl
theorem fk_X11_279 : Fk RX11 279 6 5 .int false := ⟨RX6, TX6, 6, tyX6, rfl, Nat.le_of_ble_eq_true rfl, Nat.le_of_ble_eq_true rfl, rfl, lay_6, kw_688, tyX6_ok, nmX6, rfl, rfl, rfl⟩
theorem kw_710 : Cond.fieldLink RX3 9 "PlateVote$Log" "course" "[I" ∈ Gw := gt_3 (i := 115) rfl rfl
theorem fk_X3_9 : Fk RX3 9 3 0 (.array .int) true := ⟨RX3, TX3, 5, tyX3, rfl, Nat.le_of_ble_eq_true rfl, Nat.le_of_ble_eq_true rfl, rfl, lay_3, kw_710, tyX3_ok, nmX3, rfl, rfl, rfl⟩
theorem kw_711 : Cond.fieldLink RX11 257 "PlateVote$Log" "course" "[I" ∈ Gw := gt_3 (i := 116) rfl rfl
theorem fk_X11_257 : Fk RX11 257 3 0 (.array .int) true := ⟨RX3, TX3, 5, tyX3, rfl, Nat.le_of_ble_eq_true rfl, Nat.le_of_ble_eq_true rfl, rfl, lay_3, kw_711, tyX3_ok, nmX3, rfl, rfl, rfl⟩
theorem kw_712 : Cond.fieldLink RX3 15 "PlateVote$Log" "plates" "[I" ∈ Gw := gt_3 (i := 117) rfl rfl
theorem fk_X3_15 : Fk RX3 15 3 1 (.array .int) true := ⟨RX3, TX3, 5, tyX3, rfl, Nat.le_of_ble_eq_true rfl, Nat.le_of_ble_eq_true rfl, rfl, lay_3, kw_712, tyX3_ok, nmX3, rfl, rfl, rfl⟩
theorem kw_713 : Cond.fieldLink RX11 260 "PlateVote$Log" "plates" "[I" ∈ Gw := gt_3 (i := 118) rfl rfl
theorem fk_X11_260 : Fk RX11 260 3 1 (.array .int) true := ⟨RX3, TX3, 5, tyX3, rfl, Nat.le_of_ble_eq_true rfl, Nat.le_of_ble_eq_true rfl, rfl, lay_3, kw_713, tyX3_ok, nmX3, rfl, rfl, rfl⟩
theorem kw_714 : Cond.fieldLink RX3 18 "PlateVote$Log" "cell" "[I" ∈ Gw := gt_3 (i := 119) rfl rfl
theorem fk_X3_18 : Fk RX3 18 3 2 (.array .int) true := ⟨RX3, TX3, 5, tyX3, rfl, Nat.le_of_ble_eq_true rfl, Nat.le_of_ble_eq_true rfl, rfl, lay_3, kw_714, tyX3_ok, nmX3, rfl, rfl, rfl⟩
theorem kw_715 : Cond.fieldLink RX11 264 "PlateVote$Log" "cell" "[I" ∈ Gw := gt_3 (i := 120) rfl rfl
theorem fk_X11_264 : Fk RX11 264 3 2 (.array .int) true := ⟨RX3, TX3, 5, tyX3, rfl, Nat.le_of_ble_eq_true rfl, Nat.le_of_ble_eq_true rfl, rfl, lay_3, kw_715, tyX3_ok, nmX3, rfl, rfl, rfl⟩
theorem kw_716 : Cond.fieldLink RX3 21 "PlateVote$Log" "storm" "[I" ∈ Gw := gt_3 (i := 121) rfl rfl
theorem fk_X3_21 : Fk RX3 21 3 3 (.array .int) true := ⟨RX3, TX3, 5, tyX3, rfl, Nat.le_of_ble_eq_true rfl, Nat.le_of_ble_eq_true rfl, rfl, lay_3, kw_716, tyX3_ok, nmX3, rfl, rfl, rfl⟩
theorem kw_717 : Cond.fieldLink RX11 266 "PlateVote$Log" "storm" "[I" ∈ Gw := gt_3 (i := 122) rfl rfl
theorem fk_X11_266 : Fk RX11 266 3 3 (.array .int) true := ⟨RX3, TX3, 5, tyX3, rfl, Nat.le_of_ble_eq_true rfl, Nat.le_of_ble_eq_true rfl, rfl, lay_3, kw_717, tyX3_ok, nmX3, rfl, rfl, rfl⟩
theorem kw_718 : Cond.fieldLink RX3 24 "PlateVote$Log" "fed" "[I" ∈ Gw := gt_3 (i := 123) rfl rfl
theorem fk_X3_24 : Fk RX3 24 3 4 (.array .int) true := ⟨RX3, TX3, 5, tyX3, rfl, Nat.le_of_ble_eq_true rfl, Nat.le_of_ble_eq_true rfl, rfl, lay_3, kw_718, tyX3_ok, nmX3, rfl, rfl, rfl⟩
theorem kw_719 : Cond.fieldLink RX11 271 "PlateVote$Log" "fed" "[I" ∈ Gw := gt_3 (i := 124) rfl rfl
theorem fk_X11_271 : Fk RX11 271 3 4 (.array .int) true := ⟨RX3, TX3, 5, tyX3, rfl, Nat.le_of_ble_eq_true rfl, Nat.le_of_ble_eq_true rfl, rfl, lay_3, kw_719, tyX3_ok, nmX3, rfl, rfl, rfl⟩
theorem kw_737 : Cond.fieldLink RX5 11 "PlateVote$Notes" "kind" "[I" ∈ Gw := gt_3 (i := 142) rfl rfl
theorem fk_X5_11 : Fk RX5 11 5 0 (.array .int) true := ⟨RX5, TX5, 6, tyX5, rfl, Nat.le_of_ble_eq_true rfl, Nat.le_of_ble_eq_true rfl, rfl, lay_5, kw_737, tyX5_ok, nmX5, rfl, rfl, rfl⟩
theorem kw_738 : Cond.fieldLink RX5 15 "PlateVote$Notes" "meal" "[I" ∈ Gw := gt_3 (i := 143) rfl rfl
theorem fk_X5_15 : Fk RX5 15 5 1 (.array .int) true := ⟨RX5, TX5, 6, tyX5, rfl, Nat.le_of_ble_eq_true rfl, Nat.le_of_ble_eq_true rfl, rfl, lay_5, kw_738, tyX5_ok, nmX5, rfl, rfl, rfl⟩
theorem kw_739 : Cond.fieldLink RX5 18 "PlateVote$Notes" "value" "[I" ∈ Gw := gt_3 (i := 144) rfl rfl
theorem fk_X5_18 : Fk RX5 18 5 2 (.array .int) true := ⟨RX5, TX5, 6, tyX5, rfl, Nat.le_of_ble_eq_true rfl, Nat.le_of_ble_eq_true rfl, rfl, lay_5, kw_739, tyX5_ok, nmX5, rfl, rfl, rfl⟩
theorem kw_740 : Cond.fieldLink RX5 21 "PlateVote$Notes" "struck" "[Z" ∈ Gw := gt_3 (i := 145) rfl rfl
theorem fk_X5_21 : Fk RX5 21 5 3 (.array .boolean) true := ⟨RX5, TX5, 6, tyX5, rfl, Nat.le_of_ble_eq_true rfl, Nat.le_of_ble_eq_true rfl, rfl, lay_5, kw_740, tyX5_ok, nmX5, rfl, rfl, rfl⟩
theorem kw_741 : Cond.fieldLink RX5 25 "PlateVote$Notes" "size" "I" ∈ Gw := gt_3 (i := 146) rfl rfl
theorem fk_X5_25 : Fk RX5 25 5 4 .int false := ⟨RX5, TX5, 6, tyX5, rfl, Nat.le_of_ble_eq_true rfl, Nat.le_of_ble_eq_true rfl, rfl, lay_5, kw_741, tyX5_ok, nmX5, rfl, rfl, rfl⟩
theorem kw_742 : Cond.fieldLink RX11 305 "PlateVote$Notes" "size" "I" ∈ Gw := gt_3 (i := 147) rfl rfl
theorem fk_X11_305 : Fk RX11 305 5 4 .int false := ⟨RX5, TX5, 6, tyX5, rfl, Nat.le_of_ble_eq_true rfl, Nat.le_of_ble_eq_true rfl, rfl, lay_5, kw_742, tyX5_ok, nmX5, rfl, rfl, rfl⟩
theorem kw_743 : Cond.fieldLink RX5 29 "PlateVote$Notes" "limit" "I" ∈ Gw := gt_3 (i := 148) rfl rfl
theorem fk_X5_29 : Fk RX5 29 5 5 .int false := ⟨RX5, TX5, 6, tyX5, rfl, Nat.le_of_ble_eq_true rfl, Nat.le_of_ble_eq_true rfl, rfl, lay_5, kw_743, tyX5_ok, nmX5, rfl, rfl, rfl⟩
theorem kw_744 : Cond.fieldLink RX11 311 "PlateVote$Notes" "limit" "I" ∈ Gw := gt_3 (i := 149) rfl rfl
theorem fk_X11_311 : Fk RX11 311 5 5 .int false := ⟨RX5, TX5, 6, tyX5, rfl, Nat.le_of_ble_eq_true rfl, Nat.le_of_ble_eq_true rfl, rfl, lay_5, kw_744, tyX5_ok, nmX5, rfl, rfl, rfl⟩
theorem kw_763 : Cond.fieldLink RX11 9 "PlateVote" "tape" "[B" ∈ Gw := gt_3 (i := 168) rfl rfl
theorem fk_X11_9 : Fk RX11 9 11 0 (.array .byte) true := ⟨RX11, TX11, 17, tyX11, rfl, Nat.le_of_ble_eq_true rfl, Nat.le_of_ble_eq_true rfl, rfl, lay_11, kw_763, tyX11_ok, nmX11, rfl, rfl, rfl⟩
theorem kw_764 : Cond.fieldLink RX11 13 "PlateVote" "taped" "I" ∈ Gw := gt_3 (i := 169) rfl rfl
theorem fk_X11_13 : Fk RX11 13 11 1 .int false := ⟨RX11, TX11, 17, tyX11, rfl, Nat.le_of_ble_eq_true rfl, Nat.le_of_ble_eq_true rfl, rfl, lay_11, kw_764, tyX11_ok, nmX11, rfl, rfl, rfl⟩
theorem kw_765 : Cond.fieldLink RX11 20 "PlateVote" "chart" "LPlateVote$Chart;" ∈ Gw := gt_3 (i := 170) rfl rfl
theorem fk_X11_20 : Fk RX11 20 11 2 (.object "PlateVote$Chart") false := ⟨RX11, TX11, 17, tyX11, rfl, Nat.le_of_ble_eq_true rfl, Nat.le_of_ble_eq_true rfl, rfl, lay_11, kw_765, tyX11_ok, nmX11, rfl, rfl, rfl⟩
theorem kw_766 : Cond.fieldLink RX11 24 "PlateVote" "spare" "LPlateVote$Chart;" ∈ Gw := gt_3 (i := 171) rfl rfl
theorem fk_X11_24 : Fk RX11 24 11 3 (.object "PlateVote$Chart") false := ⟨RX11, TX11, 17, tyX11, rfl, Nat.le_of_ble_eq_true rfl, Nat.le_of_ble_eq_true rfl, rfl, lay_11, kw_766, tyX11_ok, nmX11, rfl, rfl, rfl⟩
theorem kw_767 : Cond.fieldLink RX11 32 "PlateVote" "reader" "LPlateVote$Reader;" ∈ Gw := gt_3 (i := 172) rfl rfl
theorem fk_X11_32 : Fk RX11 32 11 4 (.object "PlateVote$Reader") true := ⟨RX11, TX11, 17, tyX11, rfl, Nat.le_of_ble_eq_true rfl, Nat.le_of_ble_eq_true rfl, rfl, lay_11, kw_767, tyX11_ok, nmX11, rfl, rfl, rfl⟩
theorem kw_768 : Cond.fieldLink RX11 41 "PlateVote" "galley" "LPlateVote$Galley;" ∈ Gw := gt_3 (i := 173) rfl rfl
theorem fk_X11_41 : Fk RX11 41 11 5 (.object "PlateVote$Galley") true := ⟨RX11, TX11, 17, tyX11, rfl, Nat.le_of_ble_eq_true rfl, Nat.le_of_ble_eq_true rfl, rfl, lay_11, kw_768, tyX11_ok, nmX11, rfl, rfl, rfl⟩
theorem kw_769 : Cond.fieldLink RX11 50 "PlateVote" "planner" "LPlateVote$Planner;" ∈ Gw := gt_3 (i := 174) rfl rfl
theorem fk_X11_50 : Fk RX11 50 11 6 (.object "PlateVote$Planner") true := ⟨RX11, TX11, 17, tyX11, rfl, Nat.le_of_ble_eq_true rfl, Nat.le_of_ble_eq_true rfl, rfl, lay_11, kw_769, tyX11_ok, nmX11, rfl, rfl, rfl⟩
theorem kw_770 : Cond.fieldLink RX11 57 "PlateVote" "now" "LPlateVote$Voyage;" ∈ Gw := gt_3 (i := 175) rfl rfl
theorem fk_X11_57 : Fk RX11 57 11 7 (.object "PlateVote$Voyage") true := ⟨RX11, TX11, 17, tyX11, rfl, Nat.le_of_ble_eq_true rfl, Nat.le_of_ble_eq_true rfl, rfl, lay_11, kw_770, tyX11_ok, nmX11, rfl, rfl, rfl⟩
theorem kw_771 : Cond.fieldLink RX11 64 "PlateVote" "gone" "LPlateVote$Log;" ∈ Gw := gt_3 (i := 176) rfl rfl
theorem fk_X11_64 : Fk RX11 64 11 8 (.object "PlateVote$Log") true := ⟨RX11, TX11, 17, tyX11, rfl, Nat.le_of_ble_eq_true rfl, Nat.le_of_ble_eq_true rfl, rfl, lay_11, kw_771, tyX11_ok, nmX11, rfl, rfl, rfl⟩
theorem kw_772 : Cond.fieldLink RX11 68 "PlateVote" "past" "[LPlateVote$Voyage;" ∈ Gw := gt_3 (i := 177) rfl rfl
theorem fk_X11_68 : Fk RX11 68 11 9 (.array (.object "PlateVote$Voyage")) true := ⟨RX11, TX11, 17, tyX11, rfl, Nat.le_of_ble_eq_true rfl, Nat.le_of_ble_eq_true rfl, rfl, lay_11, kw_772, tyX11_ok, nmX11, rfl, rfl, rfl⟩
theorem kw_773 : Cond.fieldLink RX11 72 "PlateVote" "undoable" "I" ∈ Gw := gt_3 (i := 178) rfl rfl
theorem fk_X11_72 : Fk RX11 72 11 10 .int false := ⟨RX11, TX11, 17, tyX11, rfl, Nat.le_of_ble_eq_true rfl, Nat.le_of_ble_eq_true rfl, rfl, lay_11, kw_773, tyX11_ok, nmX11, rfl, rfl, rfl⟩
theorem kw_774 : Cond.fieldLink RX11 75 "PlateVote" "image" "LPlateVote$Voyage;" ∈ Gw := gt_3 (i := 179) rfl rfl
theorem fk_X11_75 : Fk RX11 75 11 11 (.object "PlateVote$Voyage") true := ⟨RX11, TX11, 17, tyX11, rfl, Nat.le_of_ble_eq_true rfl, Nat.le_of_ble_eq_true rfl, rfl, lay_11, kw_774, tyX11_ok, nmX11, rfl, rfl, rfl⟩
theorem kw_775 : Cond.fieldLink RX11 78 "PlateVote" "imageLog" "LPlateVote$Log;" ∈ Gw := gt_3 (i := 180) rfl rfl
theorem fk_X11_78 : Fk RX11 78 11 12 (.object "PlateVote$Log") true := ⟨RX11, TX11, 17, tyX11, rfl, Nat.le_of_ble_eq_true rfl, Nat.le_of_ble_eq_true rfl, rfl, lay_11, kw_775, tyX11_ok, nmX11, rfl, rfl, rfl⟩
theorem kw_776 : Cond.fieldLink RX11 81 "PlateVote" "imaged" "Z" ∈ Gw := gt_3 (i := 181) rfl rfl
theorem fk_X11_81 : Fk RX11 81 11 13 .boolean false := ⟨RX11, TX11, 17, tyX11, rfl, Nat.le_of_ble_eq_true rfl, Nat.le_of_ble_eq_true rfl, rfl, lay_11, kw_776, tyX11_ok, nmX11, rfl, rfl, rfl⟩
theorem kw_777 : Cond.fieldLink RX11 88 "PlateVote" "notes" "LPlateVote$Notes;" ∈ Gw := gt_3 (i := 182) rfl rfl
theorem fk_X11_88 : Fk RX11 88 11 14 (.object "PlateVote$Notes") true := ⟨RX11, TX11, 17, tyX11, rfl, Nat.le_of_ble_eq_true rfl, Nat.le_of_ble_eq_true rfl, rfl, lay_11, kw_777, tyX11_ok, nmX11, rfl, rfl, rfl⟩
theorem kw_778 : Cond.fieldLink RX11 92 "PlateVote" "trip" "LPlateVote$Voyage;" ∈ Gw := gt_3 (i := 183) rfl rfl
theorem fk_X11_92 : Fk RX11 92 11 15 (.object "PlateVote$Voyage") true := ⟨RX11, TX11, 17, tyX11, rfl, Nat.le_of_ble_eq_true rfl, Nat.le_of_ble_eq_true rfl, rfl, lay_11, kw_778, tyX11_ok, nmX11, rfl, rfl, rfl⟩
theorem kw_779 : Cond.fieldLink RX11 95 "PlateVote" "fitted" "I" ∈ Gw := gt_3 (i := 184) rfl rfl
theorem fk_X11_95 : Fk RX11 95 11 16 .int false := ⟨RX11, TX11, 17, tyX11, rfl, Nat.le_of_ble_eq_true rfl, Nat.le_of_ble_eq_true rfl, rfl, lay_11, kw_779, tyX11_ok, nmX11, rfl, rfl, rfl⟩
theorem kw_1011 : Cond.fieldLink RX7 356 "PlateVote$Reader" "RANK" "[I" ∈ Gw := gt_4 (i := 176) rfl rfl
theorem kw_1279 : Cond.fieldLink RX11 292 "PlateVote" "ORDERS" "[I" ∈ Gw := gt_5 (i := 204) rfl rfl
theorem kw_1509 : Cond.fieldLink RX12 194 "PlateVoteModel" "thrown" "I" ∈ Gw := gt_6 (i := 194) rfl rfl
theorem fk_X12_194 : Fk RX12 194 12 0 .int false := ⟨RX12, TX12, 80, tyX12, rfl, Nat.le_of_ble_eq_true rfl, Nat.le_of_ble_eq_true rfl, rfl, lay_12, kw_1509, tyX12_ok, nmX12, rfl, rfl, rfl⟩
theorem kw_1510 : Cond.fieldLink RX12 7 "PlateVoteModel" "tape" "[I" ∈ Gw := gt_6 (i := 195) rfl rfl
theorem fk_X12_7 : Fk RX12 7 12 1 (.array .int) true := ⟨RX12, TX12, 80, tyX12, rfl, Nat.le_of_ble_eq_true rfl, Nat.le_of_ble_eq_true rfl, rfl, lay_12, kw_1510, tyX12_ok, nmX12, rfl, rfl, rfl⟩
theorem kw_1511 : Cond.fieldLink RX12 197 "PlateVoteModel" "taped" "I" ∈ Gw := gt_6 (i := 196) rfl rfl
theorem fk_X12_197 : Fk RX12 197 12 2 .int false := ⟨RX12, TX12, 80, tyX12, rfl, Nat.le_of_ble_eq_true rfl, Nat.le_of_ble_eq_true rfl, rfl, lay_12, kw_1511, tyX12_ok, nmX12, rfl, rfl, rfl⟩
theorem kw_1512 : Cond.fieldLink RX12 13 "PlateVoteModel" "number" "[I" ∈ Gw := gt_6 (i := 197) rfl rfl
theorem fk_X12_13 : Fk RX12 13 12 3 (.array .int) true := ⟨RX12, TX12, 80, tyX12, rfl, Nat.le_of_ble_eq_true rfl, Nat.le_of_ble_eq_true rfl, rfl, lay_12, kw_1512, tyX12_ok, nmX12, rfl, rfl, rfl⟩
theorem kw_1513 : Cond.fieldLink RX12 16 "PlateVoteModel" "isLand" "[Z" ∈ Gw := gt_6 (i := 198) rfl rfl
theorem fk_X12_16 : Fk RX12 16 12 4 (.array .boolean) true := ⟨RX12, TX12, 80, tyX12, rfl, Nat.le_of_ble_eq_true rfl, Nat.le_of_ble_eq_true rfl, rfl, lay_12, kw_1513, tyX12_ok, nmX12, rfl, rfl, rfl⟩
theorem kw_1514 : Cond.fieldLink RX12 20 "PlateVoteModel" "isleName" "[I" ∈ Gw := gt_6 (i := 199) rfl rfl
theorem fk_X12_20 : Fk RX12 20 12 5 (.array .int) true := ⟨RX12, TX12, 80, tyX12, rfl, Nat.le_of_ble_eq_true rfl, Nat.le_of_ble_eq_true rfl, rfl, lay_12, kw_1514, tyX12_ok, nmX12, rfl, rfl, rfl⟩
theorem kw_1515 : Cond.fieldLink RX12 23 "PlateVoteModel" "isleCell" "[I" ∈ Gw := gt_6 (i := 200) rfl rfl
theorem fk_X12_23 : Fk RX12 23 12 6 (.array .int) true := ⟨RX12, TX12, 80, tyX12, rfl, Nat.le_of_ble_eq_true rfl, Nat.le_of_ble_eq_true rfl, rfl, lay_12, kw_1515, tyX12_ok, nmX12, rfl, rfl, rfl⟩
theorem kw_1516 : Cond.fieldLink RX12 26 "PlateVoteModel" "isleReach" "[I" ∈ Gw := gt_6 (i := 201) rfl rfl
theorem fk_X12_26 : Fk RX12 26 12 7 (.array .int) true := ⟨RX12, TX12, 80, tyX12, rfl, Nat.le_of_ble_eq_true rfl, Nat.le_of_ble_eq_true rfl, rfl, lay_12, kw_1516, tyX12_ok, nmX12, rfl, rfl, rfl⟩
theorem kw_1517 : Cond.fieldLink RX12 29 "PlateVoteModel" "isleGoats" "[I" ∈ Gw := gt_6 (i := 202) rfl rfl
theorem fk_X12_29 : Fk RX12 29 12 8 (.array .int) true := ⟨RX12, TX12, 80, tyX12, rfl, Nat.le_of_ble_eq_true rfl, Nat.le_of_ble_eq_true rfl, rfl, lay_12, kw_1517, tyX12_ok, nmX12, rfl, rfl, rfl⟩
theorem kw_1518 : Cond.fieldLink RX12 32 "PlateVoteModel" "windCourse" "[I" ∈ Gw := gt_6 (i := 203) rfl rfl
theorem fk_X12_32 : Fk RX12 32 12 9 (.array .int) true := ⟨RX12, TX12, 80, tyX12, rfl, Nat.le_of_ble_eq_true rfl, Nat.le_of_ble_eq_true rfl, rfl, lay_12, kw_1518, tyX12_ok, nmX12, rfl, rfl, rfl⟩
theorem kw_1519 : Cond.fieldLink RX12 35 "PlateVoteModel" "galeMeal" "[I" ∈ Gw := gt_6 (i := 204) rfl rfl
theorem fk_X12_35 : Fk RX12 35 12 10 (.array .int) true := ⟨RX12, TX12, 80, tyX12, rfl, Nat.le_of_ble_eq_true rfl, Nat.le_of_ble_eq_true rfl, rfl, lay_12, kw_1519, tyX12_ok, nmX12, rfl, rfl, rfl⟩
theorem kw_1520 : Cond.fieldLink RX12 38 "PlateVoteModel" "galeCourse" "[I" ∈ Gw := gt_6 (i := 205) rfl rfl
theorem fk_X12_38 : Fk RX12 38 12 11 (.array .int) true := ⟨RX12, TX12, 80, tyX12, rfl, Nat.le_of_ble_eq_true rfl, Nat.le_of_ble_eq_true rfl, rfl, lay_12, kw_1520, tyX12_ok, nmX12, rfl, rfl, rfl⟩
theorem kw_1521 : Cond.fieldLink RX12 41 "PlateVoteModel" "galePlates" "[I" ∈ Gw := gt_6 (i := 206) rfl rfl
theorem fk_X12_41 : Fk RX12 41 12 12 (.array .int) true := ⟨RX12, TX12, 80, tyX12, rfl, Nat.le_of_ble_eq_true rfl, Nat.le_of_ble_eq_true rfl, rfl, lay_12, kw_1521, tyX12_ok, nmX12, rfl, rfl, rfl⟩
theorem kw_1522 : Cond.fieldLink RX12 44 "PlateVoteModel" "mouthName" "[I" ∈ Gw := gt_6 (i := 207) rfl rfl
theorem fk_X12_44 : Fk RX12 44 12 13 (.array .int) true := ⟨RX12, TX12, 80, tyX12, rfl, Nat.le_of_ble_eq_true rfl, Nat.le_of_ble_eq_true rfl, rfl, lay_12, kw_1522, tyX12_ok, nmX12, rfl, rfl, rfl⟩
theorem kw_1523 : Cond.fieldLink RX12 47 "PlateVoteModel" "mouthPlates" "[I" ∈ Gw := gt_6 (i := 208) rfl rfl
theorem fk_X12_47 : Fk RX12 47 12 14 (.array .int) true := ⟨RX12, TX12, 80, tyX12, rfl, Nat.le_of_ble_eq_true rfl, Nat.le_of_ble_eq_true rfl, rfl, lay_12, kw_1523, tyX12_ok, nmX12, rfl, rfl, rfl⟩
theorem kw_1524 : Cond.fieldLink RX12 50 "PlateVoteModel" "mouthFrom" "[I" ∈ Gw := gt_6 (i := 209) rfl rfl
theorem fk_X12_50 : Fk RX12 50 12 15 (.array .int) true := ⟨RX12, TX12, 80, tyX12, rfl, Nat.le_of_ble_eq_true rfl, Nat.le_of_ble_eq_true rfl, rfl, lay_12, kw_1524, tyX12_ok, nmX12, rfl, rfl, rfl⟩
theorem kw_1525 : Cond.fieldLink RX12 53 "PlateVoteModel" "mouthTill" "[I" ∈ Gw := gt_6 (i := 210) rfl rfl
theorem fk_X12_53 : Fk RX12 53 12 16 (.array .int) true := ⟨RX12, TX12, 80, tyX12, rfl, Nat.le_of_ble_eq_true rfl, Nat.le_of_ble_eq_true rfl, rfl, lay_12, kw_1525, tyX12_ok, nmX12, rfl, rfl, rfl⟩
theorem kw_1526 : Cond.fieldLink RX12 56 "PlateVoteModel" "sickFrom" "[I" ∈ Gw := gt_6 (i := 211) rfl rfl
theorem fk_X12_56 : Fk RX12 56 12 17 (.array .int) true := ⟨RX12, TX12, 80, tyX12, rfl, Nat.le_of_ble_eq_true rfl, Nat.le_of_ble_eq_true rfl, rfl, lay_12, kw_1526, tyX12_ok, nmX12, rfl, rfl, rfl⟩
theorem kw_1527 : Cond.fieldLink RX12 59 "PlateVoteModel" "sickTill" "[I" ∈ Gw := gt_6 (i := 212) rfl rfl
theorem fk_X12_59 : Fk RX12 59 12 18 (.array .int) true := ⟨RX12, TX12, 80, tyX12, rfl, Nat.le_of_ble_eq_true rfl, Nat.le_of_ble_eq_true rfl, rfl, lay_12, kw_1527, tyX12_ok, nmX12, rfl, rfl, rfl⟩
theorem kw_1528 : Cond.fieldLink RX12 62 "PlateVoteModel" "loses" "[I" ∈ Gw := gt_6 (i := 213) rfl rfl
theorem fk_X12_62 : Fk RX12 62 12 19 (.array .int) true := ⟨RX12, TX12, 80, tyX12, rfl, Nat.le_of_ble_eq_true rfl, Nat.le_of_ble_eq_true rfl, rfl, lay_12, kw_1528, tyX12_ok, nmX12, rfl, rfl, rfl⟩
theorem kw_1529 : Cond.fieldLink RX12 65 "PlateVoteModel" "oddsOf" "[I" ∈ Gw := gt_6 (i := 214) rfl rfl
theorem fk_X12_65 : Fk RX12 65 12 20 (.array .int) true := ⟨RX12, TX12, 80, tyX12, rfl, Nat.le_of_ble_eq_true rfl, Nat.le_of_ble_eq_true rfl, rfl, lay_12, kw_1529, tyX12_ok, nmX12, rfl, rfl, rfl⟩
theorem kw_1530 : Cond.fieldLink RX12 68 "PlateVoteModel" "sumFrom" "[I" ∈ Gw := gt_6 (i := 215) rfl rfl
theorem fk_X12_68 : Fk RX12 68 12 21 (.array .int) true := ⟨RX12, TX12, 80, tyX12, rfl, Nat.le_of_ble_eq_true rfl, Nat.le_of_ble_eq_true rfl, rfl, lay_12, kw_1530, tyX12_ok, nmX12, rfl, rfl, rfl⟩
theorem kw_1531 : Cond.fieldLink RX12 71 "PlateVoteModel" "sumTo" "[I" ∈ Gw := gt_6 (i := 216) rfl rfl
theorem fk_X12_71 : Fk RX12 71 12 22 (.array .int) true := ⟨RX12, TX12, 80, tyX12, rfl, Nat.le_of_ble_eq_true rfl, Nat.le_of_ble_eq_true rfl, rfl, lay_12, kw_1531, tyX12_ok, nmX12, rfl, rfl, rfl⟩
theorem kw_1532 : Cond.fieldLink RX12 74 "PlateVoteModel" "knotSort" "[I" ∈ Gw := gt_6 (i := 217) rfl rfl
theorem fk_X12_74 : Fk RX12 74 12 23 (.array .int) true := ⟨RX12, TX12, 80, tyX12, rfl, Nat.le_of_ble_eq_true rfl, Nat.le_of_ble_eq_true rfl, rfl, lay_12, kw_1532, tyX12_ok, nmX12, rfl, rfl, rfl⟩
theorem kw_1533 : Cond.fieldLink RX12 77 "PlateVoteModel" "knotValue" "[I" ∈ Gw := gt_6 (i := 218) rfl rfl
theorem fk_X12_77 : Fk RX12 77 12 24 (.array .int) true := ⟨RX12, TX12, 80, tyX12, rfl, Nat.le_of_ble_eq_true rfl, Nat.le_of_ble_eq_true rfl, rfl, lay_12, kw_1533, tyX12_ok, nmX12, rfl, rfl, rfl⟩
theorem kw_1534 : Cond.fieldLink RX12 276 "PlateVoteModel" "told" "I" ∈ Gw := gt_6 (i := 219) rfl rfl
theorem fk_X12_276 : Fk RX12 276 12 25 .int false := ⟨RX12, TX12, 80, tyX12, rfl, Nat.le_of_ble_eq_true rfl, Nat.le_of_ble_eq_true rfl, rfl, lay_12, kw_1534, tyX12_ok, nmX12, rfl, rfl, rfl⟩
theorem kw_1535 : Cond.fieldLink RX12 311 "PlateVoteModel" "lines" "I" ∈ Gw := gt_6 (i := 220) rfl rfl
theorem fk_X12_311 : Fk RX12 311 12 26 .int false := ⟨RX12, TX12, 80, tyX12, rfl, Nat.le_of_ble_eq_true rfl, Nat.le_of_ble_eq_true rfl, rfl, lay_12, kw_1535, tyX12_ok, nmX12, rfl, rfl, rfl⟩
theorem kw_1536 : Cond.fieldLink RX12 203 "PlateVoteModel" "size" "I" ∈ Gw := gt_6 (i := 221) rfl rfl
theorem fk_X12_203 : Fk RX12 203 12 27 .int false := ⟨RX12, TX12, 80, tyX12, rfl, Nat.le_of_ble_eq_true rfl, Nat.le_of_ble_eq_true rfl, rfl, lay_12, kw_1536, tyX12_ok, nmX12, rfl, rfl, rfl⟩
theorem kw_1537 : Cond.fieldLink RX12 200 "PlateVoteModel" "at" "I" ∈ Gw := gt_6 (i := 222) rfl rfl
theorem fk_X12_200 : Fk RX12 200 12 28 .int false := ⟨RX12, TX12, 80, tyX12, rfl, Nat.le_of_ble_eq_true rfl, Nat.le_of_ble_eq_true rfl, rfl, lay_12, kw_1537, tyX12_ok, nmX12, rfl, rfl, rfl⟩
theorem kw_1538 : Cond.fieldLink RX12 210 "PlateVoteModel" "place" "I" ∈ Gw := gt_6 (i := 223) rfl rfl
theorem fk_X12_210 : Fk RX12 210 12 29 .int false := ⟨RX12, TX12, 80, tyX12, rfl, Nat.le_of_ble_eq_true rfl, Nat.le_of_ble_eq_true rfl, rfl, lay_12, kw_1538, tyX12_ok, nmX12, rfl, rfl, rfl⟩
theorem kw_1539 : Cond.fieldLink RX12 213 "PlateVoteModel" "sort" "I" ∈ Gw := gt_6 (i := 224) rfl rfl
theorem fk_X12_213 : Fk RX12 213 12 30 .int false := ⟨RX12, TX12, 80, tyX12, rfl, Nat.le_of_ble_eq_true rfl, Nat.le_of_ble_eq_true rfl, rfl, lay_12, kw_1539, tyX12_ok, nmX12, rfl, rfl, rfl⟩
theorem kw_1540 : Cond.fieldLink RX12 223 "PlateVoteModel" "value" "I" ∈ Gw := gt_6 (i := 225) rfl rfl
theorem fk_X12_223 : Fk RX12 223 12 31 .int false := ⟨RX12, TX12, 80, tyX12, rfl, Nat.le_of_ble_eq_true rfl, Nat.le_of_ble_eq_true rfl, rfl, lay_12, kw_1540, tyX12_ok, nmX12, rfl, rfl, rfl⟩
theorem kw_1541 : Cond.fieldLink RX12 247 "PlateVoteModel" "fault" "I" ∈ Gw := gt_6 (i := 226) rfl rfl
theorem fk_X12_247 : Fk RX12 247 12 32 .int false := ⟨RX12, TX12, 80, tyX12, rfl, Nat.le_of_ble_eq_true rfl, Nat.le_of_ble_eq_true rfl, rfl, lay_12, kw_1541, tyX12_ok, nmX12, rfl, rfl, rfl⟩
theorem kw_1542 : Cond.fieldLink RX12 250 "PlateVoteModel" "faultPlace" "I" ∈ Gw := gt_6 (i := 227) rfl rfl
theorem fk_X12_250 : Fk RX12 250 12 33 .int false := ⟨RX12, TX12, 80, tyX12, rfl, Nat.le_of_ble_eq_true rfl, Nat.le_of_ble_eq_true rfl, rfl, lay_12, kw_1542, tyX12_ok, nmX12, rfl, rfl, rfl⟩
theorem kw_1543 : Cond.fieldLink RX12 357 "PlateVoteModel" "lastFault" "I" ∈ Gw := gt_6 (i := 228) rfl rfl
theorem fk_X12_357 : Fk RX12 357 12 34 .int false := ⟨RX12, TX12, 80, tyX12, rfl, Nat.le_of_ble_eq_true rfl, Nat.le_of_ble_eq_true rfl, rfl, lay_12, kw_1543, tyX12_ok, nmX12, rfl, rfl, rfl⟩
theorem kw_1544 : Cond.fieldLink RX12 80 "PlateVoteModel" "lastPlace" "I" ∈ Gw := gt_6 (i := 229) rfl rfl
theorem fk_X12_80 : Fk RX12 80 12 35 .int false := ⟨RX12, TX12, 80, tyX12, rfl, Nat.le_of_ble_eq_true rfl, Nat.le_of_ble_eq_true rfl, rfl, lay_12, kw_1544, tyX12_ok, nmX12, rfl, rfl, rfl⟩
theorem kw_1545 : Cond.fieldLink RX12 351 "PlateVoteModel" "open" "I" ∈ Gw := gt_6 (i := 230) rfl rfl
theorem fk_X12_351 : Fk RX12 351 12 36 .int false := ⟨RX12, TX12, 80, tyX12, rfl, Nat.le_of_ble_eq_true rfl, Nat.le_of_ble_eq_true rfl, rfl, lay_12, kw_1545, tyX12_ok, nmX12, rfl, rfl, rfl⟩
theorem kw_1546 : Cond.fieldLink RX12 327 "PlateVoteModel" "counted" "I" ∈ Gw := gt_6 (i := 231) rfl rfl
theorem fk_X12_327 : Fk RX12 327 12 37 .int false := ⟨RX12, TX12, 80, tyX12, rfl, Nat.le_of_ble_eq_true rfl, Nat.le_of_ble_eq_true rfl, rfl, lay_12, kw_1546, tyX12_ok, nmX12, rfl, rfl, rfl⟩
theorem kw_1547 : Cond.fieldLink RX12 84 "PlateVoteModel" "far" "[I" ∈ Gw := gt_6 (i := 232) rfl rfl
theorem fk_X12_84 : Fk RX12 84 12 38 (.array .int) true := ⟨RX12, TX12, 80, tyX12, rfl, Nat.le_of_ble_eq_true rfl, Nat.le_of_ble_eq_true rfl, rfl, lay_12, kw_1547, tyX12_ok, nmX12, rfl, rfl, rfl⟩
theorem kw_1548 : Cond.fieldLink RX12 87 "PlateVoteModel" "meal" "[I" ∈ Gw := gt_6 (i := 233) rfl rfl
theorem fk_X12_87 : Fk RX12 87 12 39 (.array .int) true := ⟨RX12, TX12, 80, tyX12, rfl, Nat.le_of_ble_eq_true rfl, Nat.le_of_ble_eq_true rfl, rfl, lay_12, kw_1548, tyX12_ok, nmX12, rfl, rfl, rfl⟩
theorem kw_1549 : Cond.fieldLink RX12 90 "PlateVoteModel" "cell" "[I" ∈ Gw := gt_6 (i := 234) rfl rfl
theorem fk_X12_90 : Fk RX12 90 12 40 (.array .int) true := ⟨RX12, TX12, 80, tyX12, rfl, Nat.le_of_ble_eq_true rfl, Nat.le_of_ble_eq_true rfl, rfl, lay_12, kw_1549, tyX12_ok, nmX12, rfl, rfl, rfl⟩
theorem kw_1550 : Cond.fieldLink RX12 93 "PlateVoteModel" "soup" "[I" ∈ Gw := gt_6 (i := 235) rfl rfl
theorem fk_X12_93 : Fk RX12 93 12 41 (.array .int) true := ⟨RX12, TX12, 80, tyX12, rfl, Nat.le_of_ble_eq_true rfl, Nat.le_of_ble_eq_true rfl, rfl, lay_12, kw_1550, tyX12_ok, nmX12, rfl, rfl, rfl⟩
theorem kw_1551 : Cond.fieldLink RX12 96 "PlateVoteModel" "drawn" "[I" ∈ Gw := gt_6 (i := 236) rfl rfl
theorem fk_X12_96 : Fk RX12 96 12 42 (.array .int) true := ⟨RX12, TX12, 80, tyX12, rfl, Nat.le_of_ble_eq_true rfl, Nat.le_of_ble_eq_true rfl, rfl, lay_12, kw_1551, tyX12_ok, nmX12, rfl, rfl, rfl⟩
theorem kw_1552 : Cond.fieldLink RX12 99 "PlateVoteModel" "arrived" "[I" ∈ Gw := gt_6 (i := 237) rfl rfl
theorem fk_X12_99 : Fk RX12 99 12 43 (.array .int) true := ⟨RX12, TX12, 80, tyX12, rfl, Nat.le_of_ble_eq_true rfl, Nat.le_of_ble_eq_true rfl, rfl, lay_12, kw_1552, tyX12_ok, nmX12, rfl, rfl, rfl⟩
theorem kw_1553 : Cond.fieldLink RX12 102 "PlateVoteModel" "fed" "[I" ∈ Gw := gt_6 (i := 238) rfl rfl
theorem fk_X12_102 : Fk RX12 102 12 44 (.array .int) true := ⟨RX12, TX12, 80, tyX12, rfl, Nat.le_of_ble_eq_true rfl, Nat.le_of_ble_eq_true rfl, rfl, lay_12, kw_1553, tyX12_ok, nmX12, rfl, rfl, rfl⟩
theorem kw_1554 : Cond.fieldLink RX12 105 "PlateVoteModel" "truth" "[I" ∈ Gw := gt_6 (i := 239) rfl rfl
theorem fk_X12_105 : Fk RX12 105 12 45 (.array .int) true := ⟨RX12, TX12, 80, tyX12, rfl, Nat.le_of_ble_eq_true rfl, Nat.le_of_ble_eq_true rfl, rfl, lay_12, kw_1554, tyX12_ok, nmX12, rfl, rfl, rfl⟩
theorem kw_1555 : Cond.fieldLink RX12 108 "PlateVoteModel" "lost" "[I" ∈ Gw := gt_7 (i := 0) rfl rfl
theorem fk_X12_108 : Fk RX12 108 12 46 (.array .int) true := ⟨RX12, TX12, 80, tyX12, rfl, Nat.le_of_ble_eq_true rfl, Nat.le_of_ble_eq_true rfl, rfl, lay_12, kw_1555, tyX12_ok, nmX12, rfl, rfl, rfl⟩
theorem kw_1556 : Cond.fieldLink RX12 111 "PlateVoteModel" "leapt" "[Z" ∈ Gw := gt_7 (i := 1) rfl rfl
theorem fk_X12_111 : Fk RX12 111 12 47 (.array .boolean) true := ⟨RX12, TX12, 80, tyX12, rfl, Nat.le_of_ble_eq_true rfl, Nat.le_of_ble_eq_true rfl, rfl, lay_12, kw_1556, tyX12_ok, nmX12, rfl, rfl, rfl⟩
theorem kw_1557 : Cond.fieldLink RX12 114 "PlateVoteModel" "logCourse" "[I" ∈ Gw := gt_7 (i := 2) rfl rfl
theorem fk_X12_114 : Fk RX12 114 12 48 (.array .int) true := ⟨RX12, TX12, 80, tyX12, rfl, Nat.le_of_ble_eq_true rfl, Nat.le_of_ble_eq_true rfl, rfl, lay_12, kw_1557, tyX12_ok, nmX12, rfl, rfl, rfl⟩
theorem kw_1558 : Cond.fieldLink RX12 117 "PlateVoteModel" "logEaten" "[I" ∈ Gw := gt_7 (i := 3) rfl rfl
theorem fk_X12_117 : Fk RX12 117 12 49 (.array .int) true := ⟨RX12, TX12, 80, tyX12, rfl, Nat.le_of_ble_eq_true rfl, Nat.le_of_ble_eq_true rfl, rfl, lay_12, kw_1558, tyX12_ok, nmX12, rfl, rfl, rfl⟩
theorem kw_1559 : Cond.fieldLink RX12 120 "PlateVoteModel" "logCell" "[I" ∈ Gw := gt_7 (i := 4) rfl rfl
theorem fk_X12_120 : Fk RX12 120 12 50 (.array .int) true := ⟨RX12, TX12, 80, tyX12, rfl, Nat.le_of_ble_eq_true rfl, Nat.le_of_ble_eq_true rfl, rfl, lay_12, kw_1559, tyX12_ok, nmX12, rfl, rfl, rfl⟩
theorem kw_1560 : Cond.fieldLink RX12 123 "PlateVoteModel" "logStorm" "[I" ∈ Gw := gt_7 (i := 5) rfl rfl
theorem fk_X12_123 : Fk RX12 123 12 51 (.array .int) true := ⟨RX12, TX12, 80, tyX12, rfl, Nat.le_of_ble_eq_true rfl, Nat.le_of_ble_eq_true rfl, rfl, lay_12, kw_1560, tyX12_ok, nmX12, rfl, rfl, rfl⟩
theorem kw_1561 : Cond.fieldLink RX12 126 "PlateVoteModel" "logFed" "[I" ∈ Gw := gt_7 (i := 6) rfl rfl
theorem fk_X12_126 : Fk RX12 126 12 52 (.array .int) true := ⟨RX12, TX12, 80, tyX12, rfl, Nat.le_of_ble_eq_true rfl, Nat.le_of_ble_eq_true rfl, rfl, lay_12, kw_1561, tyX12_ok, nmX12, rfl, rfl, rfl⟩
theorem kw_1562 : Cond.fieldLink RX12 367 "PlateVoteModel" "hasImage" "Z" ∈ Gw := gt_7 (i := 7) rfl rfl
theorem fk_X12_367 : Fk RX12 367 12 53 .boolean false := ⟨RX12, TX12, 80, tyX12, rfl, Nat.le_of_ble_eq_true rfl, Nat.le_of_ble_eq_true rfl, rfl, lay_12, kw_1562, tyX12_ok, nmX12, rfl, rfl, rfl⟩
theorem kw_1563 : Cond.fieldLink RX12 371 "PlateVoteModel" "undoMany" "I" ∈ Gw := gt_7 (i := 8) rfl rfl
theorem fk_X12_371 : Fk RX12 371 12 54 .int false := ⟨RX12, TX12, 80, tyX12, rfl, Nat.le_of_ble_eq_true rfl, Nat.le_of_ble_eq_true rfl, rfl, lay_12, kw_1563, tyX12_ok, nmX12, rfl, rfl, rfl⟩
theorem kw_1564 : Cond.fieldLink RX12 129 "PlateVoteModel" "tryWhat" "I" ∈ Gw := gt_7 (i := 9) rfl rfl
theorem fk_X12_129 : Fk RX12 129 12 55 .int false := ⟨RX12, TX12, 80, tyX12, rfl, Nat.le_of_ble_eq_true rfl, Nat.le_of_ble_eq_true rfl, rfl, lay_12, kw_1564, tyX12_ok, nmX12, rfl, rfl, rfl⟩
theorem kw_1565 : Cond.fieldLink RX12 132 "PlateVoteModel" "tryAt" "I" ∈ Gw := gt_7 (i := 10) rfl rfl
theorem fk_X12_132 : Fk RX12 132 12 56 .int false := ⟨RX12, TX12, 80, tyX12, rfl, Nat.le_of_ble_eq_true rfl, Nat.le_of_ble_eq_true rfl, rfl, lay_12, kw_1565, tyX12_ok, nmX12, rfl, rfl, rfl⟩
theorem kw_1566 : Cond.fieldLink RX12 383 "PlateVoteModel" "isStill" "Z" ∈ Gw := gt_7 (i := 11) rfl rfl
theorem fk_X12_383 : Fk RX12 383 12 57 .boolean false := ⟨RX12, TX12, 80, tyX12, rfl, Nat.le_of_ble_eq_true rfl, Nat.le_of_ble_eq_true rfl, rfl, lay_12, kw_1566, tyX12_ok, nmX12, rfl, rfl, rfl⟩
theorem kw_1567 : Cond.fieldLink RX12 135 "PlateVoteModel" "names" "[J" ∈ Gw := gt_7 (i := 12) rfl rfl
theorem fk_X12_135 : Fk RX12 135 12 58 (.array .long) true := ⟨RX12, TX12, 80, tyX12, rfl, Nat.le_of_ble_eq_true rfl, Nat.le_of_ble_eq_true rfl, rfl, lay_12, kw_1567, tyX12_ok, nmX12, rfl, rfl, rfl⟩
theorem kw_1568 : Cond.fieldLink RX12 139 "PlateVoteModel" "worked" "[J" ∈ Gw := gt_7 (i := 13) rfl rfl
theorem fk_X12_139 : Fk RX12 139 12 59 (.array .long) true := ⟨RX12, TX12, 80, tyX12, rfl, Nat.le_of_ble_eq_true rfl, Nat.le_of_ble_eq_true rfl, rfl, lay_12, kw_1568, tyX12_ok, nmX12, rfl, rfl, rfl⟩
theorem kw_1569 : Cond.fieldLink RX12 389 "PlateVoteModel" "workedMany" "I" ∈ Gw := gt_7 (i := 14) rfl rfl
theorem fk_X12_389 : Fk RX12 389 12 60 .int false := ⟨RX12, TX12, 80, tyX12, rfl, Nat.le_of_ble_eq_true rfl, Nat.le_of_ble_eq_true rfl, rfl, lay_12, kw_1569, tyX12_ok, nmX12, rfl, rfl, rfl⟩
theorem kw_1570 : Cond.fieldLink RX12 142 "PlateVoteModel" "has" "[I" ∈ Gw := gt_7 (i := 15) rfl rfl
theorem fk_X12_142 : Fk RX12 142 12 61 (.array .int) true := ⟨RX12, TX12, 80, tyX12, rfl, Nat.le_of_ble_eq_true rfl, Nat.le_of_ble_eq_true rfl, rfl, lay_12, kw_1570, tyX12_ok, nmX12, rfl, rfl, rfl⟩
theorem kw_1571 : Cond.fieldLink RX12 145 "PlateVoteModel" "choice" "[I" ∈ Gw := gt_7 (i := 16) rfl rfl
theorem fk_X12_145 : Fk RX12 145 12 62 (.array .int) true := ⟨RX12, TX12, 80, tyX12, rfl, Nat.le_of_ble_eq_true rfl, Nat.le_of_ble_eq_true rfl, rfl, lay_12, kw_1571, tyX12_ok, nmX12, rfl, rfl, rfl⟩
theorem kw_1572 : Cond.fieldLink RX12 148 "PlateVoteModel" "votes" "[I" ∈ Gw := gt_7 (i := 17) rfl rfl
theorem fk_X12_148 : Fk RX12 148 12 63 (.array .int) true := ⟨RX12, TX12, 80, tyX12, rfl, Nat.le_of_ble_eq_true rfl, Nat.le_of_ble_eq_true rfl, rfl, lay_12, kw_1572, tyX12_ok, nmX12, rfl, rfl, rfl⟩
theorem kw_1573 : Cond.fieldLink RX12 419 "PlateVoteModel" "eaten" "I" ∈ Gw := gt_7 (i := 18) rfl rfl
theorem fk_X12_419 : Fk RX12 419 12 64 .int false := ⟨RX12, TX12, 80, tyX12, rfl, Nat.le_of_ble_eq_true rfl, Nat.le_of_ble_eq_true rfl, rfl, lay_12, kw_1573, tyX12_ok, nmX12, rfl, rfl, rfl⟩
theorem kw_1574 : Cond.fieldLink RX12 151 "PlateVoteModel" "planFed" "[I" ∈ Gw := gt_7 (i := 19) rfl rfl
theorem fk_X12_151 : Fk RX12 151 12 65 (.array .int) true := ⟨RX12, TX12, 80, tyX12, rfl, Nat.le_of_ble_eq_true rfl, Nat.le_of_ble_eq_true rfl, rfl, lay_12, kw_1574, tyX12_ok, nmX12, rfl, rfl, rfl⟩
theorem kw_1575 : Cond.fieldLink RX12 154 "PlateVoteModel" "bestFed" "[I" ∈ Gw := gt_7 (i := 20) rfl rfl
theorem fk_X12_154 : Fk RX12 154 12 66 (.array .int) true := ⟨RX12, TX12, 80, tyX12, rfl, Nat.le_of_ble_eq_true rfl, Nat.le_of_ble_eq_true rfl, rfl, lay_12, kw_1575, tyX12_ok, nmX12, rfl, rfl, rfl⟩
theorem kw_1576 : Cond.fieldLink RX12 471 "PlateVoteModel" "bestSoup" "I" ∈ Gw := gt_7 (i := 21) rfl rfl
theorem fk_X12_471 : Fk RX12 471 12 67 .int false := ⟨RX12, TX12, 80, tyX12, rfl, Nat.le_of_ble_eq_true rfl, Nat.le_of_ble_eq_true rfl, rfl, lay_12, kw_1576, tyX12_ok, nmX12, rfl, rfl, rfl⟩
theorem kw_1577 : Cond.fieldLink RX12 474 "PlateVoteModel" "bestMeals" "I" ∈ Gw := gt_7 (i := 22) rfl rfl
theorem fk_X12_474 : Fk RX12 474 12 68 .int false := ⟨RX12, TX12, 80, tyX12, rfl, Nat.le_of_ble_eq_true rfl, Nat.le_of_ble_eq_true rfl, rfl, lay_12, kw_1577, tyX12_ok, nmX12, rfl, rfl, rfl⟩
theorem kw_1578 : Cond.fieldLink RX12 157 "PlateVoteModel" "wayMeal" "[I" ∈ Gw := gt_7 (i := 23) rfl rfl
theorem fk_X12_157 : Fk RX12 157 12 69 (.array .int) true := ⟨RX12, TX12, 80, tyX12, rfl, Nat.le_of_ble_eq_true rfl, Nat.le_of_ble_eq_true rfl, rfl, lay_12, kw_1578, tyX12_ok, nmX12, rfl, rfl, rfl⟩
theorem kw_1579 : Cond.fieldLink RX12 160 "PlateVoteModel" "wayCell" "[I" ∈ Gw := gt_7 (i := 24) rfl rfl
theorem fk_X12_160 : Fk RX12 160 12 70 (.array .int) true := ⟨RX12, TX12, 80, tyX12, rfl, Nat.le_of_ble_eq_true rfl, Nat.le_of_ble_eq_true rfl, rfl, lay_12, kw_1579, tyX12_ok, nmX12, rfl, rfl, rfl⟩
theorem kw_1580 : Cond.fieldLink RX12 163 "PlateVoteModel" "waySoup" "[I" ∈ Gw := gt_7 (i := 25) rfl rfl
theorem fk_X12_163 : Fk RX12 163 12 71 (.array .int) true := ⟨RX12, TX12, 80, tyX12, rfl, Nat.le_of_ble_eq_true rfl, Nat.le_of_ble_eq_true rfl, rfl, lay_12, kw_1580, tyX12_ok, nmX12, rfl, rfl, rfl⟩
theorem kw_1581 : Cond.fieldLink RX12 166 "PlateVoteModel" "wayLost" "[I" ∈ Gw := gt_7 (i := 26) rfl rfl
theorem fk_X12_166 : Fk RX12 166 12 72 (.array .int) true := ⟨RX12, TX12, 80, tyX12, rfl, Nat.le_of_ble_eq_true rfl, Nat.le_of_ble_eq_true rfl, rfl, lay_12, kw_1581, tyX12_ok, nmX12, rfl, rfl, rfl⟩
theorem kw_1582 : Cond.fieldLink RX12 169 "PlateVoteModel" "wayLeapt" "[Z" ∈ Gw := gt_7 (i := 27) rfl rfl
theorem fk_X12_169 : Fk RX12 169 12 73 (.array .boolean) true := ⟨RX12, TX12, 80, tyX12, rfl, Nat.le_of_ble_eq_true rfl, Nat.le_of_ble_eq_true rfl, rfl, lay_12, kw_1582, tyX12_ok, nmX12, rfl, rfl, rfl⟩
theorem kw_1583 : Cond.fieldLink RX12 364 "PlateVoteModel" "notes" "I" ∈ Gw := gt_7 (i := 28) rfl rfl
theorem fk_X12_364 : Fk RX12 364 12 74 .int false := ⟨RX12, TX12, 80, tyX12, rfl, Nat.le_of_ble_eq_true rfl, Nat.le_of_ble_eq_true rfl, rfl, lay_12, kw_1583, tyX12_ok, nmX12, rfl, rfl, rfl⟩
theorem kw_1584 : Cond.fieldLink RX12 172 "PlateVoteModel" "knownBy" "I" ∈ Gw := gt_7 (i := 29) rfl rfl
theorem fk_X12_172 : Fk RX12 172 12 75 .int false := ⟨RX12, TX12, 80, tyX12, rfl, Nat.le_of_ble_eq_true rfl, Nat.le_of_ble_eq_true rfl, rfl, lay_12, kw_1584, tyX12_ok, nmX12, rfl, rfl, rfl⟩
theorem kw_1585 : Cond.fieldLink RX12 175 "PlateVoteModel" "noteMeal" "[I" ∈ Gw := gt_7 (i := 30) rfl rfl
theorem fk_X12_175 : Fk RX12 175 12 76 (.array .int) true := ⟨RX12, TX12, 80, tyX12, rfl, Nat.le_of_ble_eq_true rfl, Nat.le_of_ble_eq_true rfl, rfl, lay_12, kw_1585, tyX12_ok, nmX12, rfl, rfl, rfl⟩
theorem kw_1586 : Cond.fieldLink RX12 178 "PlateVoteModel" "noteSort" "[I" ∈ Gw := gt_7 (i := 31) rfl rfl
theorem fk_X12_178 : Fk RX12 178 12 77 (.array .int) true := ⟨RX12, TX12, 80, tyX12, rfl, Nat.le_of_ble_eq_true rfl, Nat.le_of_ble_eq_true rfl, rfl, lay_12, kw_1586, tyX12_ok, nmX12, rfl, rfl, rfl⟩
theorem kw_1587 : Cond.fieldLink RX12 181 "PlateVoteModel" "noteValue" "[I" ∈ Gw := gt_7 (i := 32) rfl rfl
theorem fk_X12_181 : Fk RX12 181 12 78 (.array .int) true := ⟨RX12, TX12, 80, tyX12, rfl, Nat.le_of_ble_eq_true rfl, Nat.le_of_ble_eq_true rfl, rfl, lay_12, kw_1587, tyX12_ok, nmX12, rfl, rfl, rfl⟩
theorem kw_1588 : Cond.fieldLink RX12 184 "PlateVoteModel" "isStruck" "[Z" ∈ Gw := gt_7 (i := 33) rfl rfl
theorem fk_X12_184 : Fk RX12 184 12 79 (.array .boolean) true := ⟨RX12, TX12, 80, tyX12, rfl, Nat.le_of_ble_eq_true rfl, Nat.le_of_ble_eq_true rfl, rfl, lay_12, kw_1588, tyX12_ok, nmX12, rfl, rfl, rfl⟩
abbrev mJ6_bitCount_0f7a4 : Mth := (RJ6, cJ6_bitCount_0f7a4, 1, (some .int), yJ6_bitCount_0f7a4)
abbrev mX0_clear : Mth := (RX0, cX0_clear, 1, none, yX0_clear)
abbrev mX0_close : Mth := (RX0, cX0_close, 3, none, yX0_close)
abbrev mX0_init : Mth := (RX0, cX0_init, 2, none, yX0_init)
abbrev mX0_isMouth : Mth := (RX0, cX0_isMouth, 2, (some .boolean), yX0_isMouth)
abbrev mX0_mouthNamed : Mth := (RX0, cX0_mouthNamed, 3, (some .int), yX0_mouthNamed)
abbrev mX0_size : Mth := (RX0, cX0_size, 1, (some .int), yX0_size)
abbrev mX0_weight : Mth := (RX0, cX0_weight, 5, (some .int), yX0_weight)
abbrev mX0_windAt : Mth := (RX0, cX0_windAt, 2, (some .int), yX0_windAt)
abbrev mX10_begin : Mth := (RX10, cX10_begin, 3, none, yX10_begin)
abbrev mX10_copyFrom : Mth := (RX10, cX10_copyFrom, 3, none, yX10_copyFrom)
abbrev mX10_draw : Mth := (RX10, cX10_draw, 1, (some .int), yX10_draw)
abbrev mX10_init : Mth := (RX10, cX10_init, 1, none, yX10_init)
abbrev mX11_back : Mth := (RX11, cX11_back, 1, (some .int), yX11_back)
abbrev mX11_count : Mth := (RX11, cX11_count, 2, (some .int), yX11_count)
abbrev mX11_far : Mth := (RX11, cX11_far, 3, (some .int), yX11_far)
abbrev mX11_fault : Mth := (RX11, cX11_fault, 2, (some .int), yX11_fault)
abbrev mX11_fed : Mth := (RX11, cX11_fed, 2, (some .boolean), yX11_fed)
abbrev mX11_feed : Mth := (RX11, cX11_feed, 6, (some .int), yX11_feed)
abbrev mX11_fits : Mth := (RX11, cX11_fits, 1, (some .int), yX11_fits)
abbrev mX11_fitting : Mth := (RX11, cX11_fitting, 7, (some .int), yX11_fitting)
abbrev mX11_fraud : Mth := (RX11, cX11_fraud, 4, (some .int), yX11_fraud)
abbrev mX11_holdMeal : Mth := (RX11, cX11_holdMeal, 3, none, yX11_holdMeal)
abbrev mX11_init : Mth := (RX11, cX11_init, 2, none, yX11_init)
abbrev mX11_isCourse : Mth := (RX11, cX11_isCourse, 1, (some .boolean), yX11_isCourse)
abbrev mX11_isGone : Mth := (RX11, cX11_isGone, 2, (some .boolean), yX11_isGone)
abbrev mX11_keep : Mth := (RX11, cX11_keep, 1, (some .int), yX11_keep)
abbrev mX11_known : Mth := (RX11, cX11_known, 2, (some .boolean), yX11_known)
abbrev mX11_land : Mth := (RX11, cX11_land, 2, (some .int), yX11_land)
abbrev mX11_law : Mth := (RX11, cX11_law, 5, (some .long), yX11_law)
abbrev mX11_log : Mth := (RX11, cX11_log, 3, (some .int), yX11_log)
abbrev mX11_look : Mth := (RX11, cX11_look, 3, (some .int), yX11_look)
abbrev mX11_mealIsNext : Mth := (RX11, cX11_mealIsNext, 1, (some .boolean), yX11_mealIsNext)
abbrev mX11_meals : Mth := (RX11, cX11_meals, 3, (some .int), yX11_meals)
abbrev mX11_named : Mth := (RX11, cX11_named, 3, (some .int), yX11_named)
abbrev mX11_note : Mth := (RX11, cX11_note, 4, (some .int), yX11_note)
abbrev mX11_odds : Mth := (RX11, cX11_odds, 8, (some .int), yX11_odds)
abbrev mX11_part : Mth := (RX11, cX11_part, 7, (some .int), yX11_part)
abbrev mX11_plan : Mth := (RX11, cX11_plan, 3, (some .int), yX11_plan)
abbrev mX11_power : Mth := (RX11, cX11_power, 5, (some .int), yX11_power)
abbrev mX11_ship : Mth := (RX11, cX11_ship, 2, (some .int), yX11_ship)
abbrev mX11_strike : Mth := (RX11, cX11_strike, 2, (some .int), yX11_strike)
abbrev mX11_sure : Mth := (RX11, cX11_sure, 7, (some .int), yX11_sure)
abbrev mX11_taken : Mth := (RX11, cX11_taken, 3, (some .int), yX11_taken)
abbrev mX11_tapeNumber : Mth := (RX11, cX11_tapeNumber, 3, none, yX11_tapeNumber)
abbrev mX11_text : Mth := (RX11, cX11_text, 3, (some .int), yX11_text)
abbrev mX11_tried : Mth := (RX11, cX11_tried, 5, (some .int), yX11_tried)
abbrev mX11_truth : Mth := (RX11, cX11_truth, 2, (some .boolean), yX11_truth)
abbrev mX11_undo : Mth := (RX11, cX11_undo, 2, (some .int), yX11_undo)
abbrev mX11_votes : Mth := (RX11, cX11_votes, 2, (some .int), yX11_votes)
abbrev mX11_washed : Mth := (RX11, cX11_washed, 3, (some .int), yX11_washed)
abbrev mX11_wish : Mth := (RX11, cX11_wish, 4, (some .int), yX11_wish)
abbrev mX12_added : Mth := (RX12, cX12_added, 4, (some .int), yX12_added)
abbrev mX12_back : Mth := (RX12, cX12_back, 1, (some .int), yX12_back)
abbrev mX12_begins : Mth := (RX12, cX12_begins, 3, none, yX12_begins)
abbrev mX12_bitsOf : Mth := (RX12, cX12_bitsOf, 3, (some .int), yX12_bitsOf)
abbrev mX12_cellAtHand : Mth := (RX12, cX12_cellAtHand, 3, (some .int), yX12_cellAtHand)
abbrev mX12_cells : Mth := (RX12, cX12_cells, 1, (some .int), yX12_cells)
abbrev mX12_common : Mth := (RX12, cX12_common, 5, (some .int), yX12_common)
abbrev mX12_conjunction : Mth := (RX12, cX12_conjunction, 1, none, yX12_conjunction)
abbrev mX12_copies : Mth := (RX12, cX12_copies, 4, none, yX12_copies)
abbrev mX12_copiesLog : Mth := (RX12, cX12_copiesLog, 4, none, yX12_copiesLog)
abbrev mX12_count : Mth := (RX12, cX12_count, 4, (some .int), yX12_count)
abbrev mX12_draw : Mth := (RX12, cX12_draw, 3, (some .int), yX12_draw)
abbrev mX12_expression : Mth := (RX12, cX12_expression, 1, none, yX12_expression)
abbrev mX12_factorial : Mth := (RX12, cX12_factorial, 3, (some .int), yX12_factorial)
abbrev mX12_far : Mth := (RX12, cX12_far, 3, (some .int), yX12_far)
abbrev mX12_fault : Mth := (RX12, cX12_fault, 2, (some .int), yX12_fault)
abbrev mX12_fed : Mth := (RX12, cX12_fed, 2, (some .boolean), yX12_fed)
abbrev mX12_feed : Mth := (RX12, cX12_feed, 8, (some .int), yX12_feed)
abbrev mX12_firstWrong : Mth := (RX12, cX12_firstWrong, 5, (some .int), yX12_firstWrong)
abbrev mX12_fits : Mth := (RX12, cX12_fits, 4, (some .int), yX12_fits)
abbrev mX12_found : Mth := (RX12, cX12_found, 5, (some .int), yX12_found)
abbrev mX12_fraud : Mth := (RX12, cX12_fraud, 1, (some .int), yX12_fraud)
abbrev mX12_fresher : Mth := (RX12, cX12_fresher, 2, (some .int), yX12_fresher)
abbrev mX12_goOn : Mth := (RX12, cX12_goOn, 1, none, yX12_goOn)
abbrev mX12_goes : Mth := (RX12, cX12_goes, 3, (some .boolean), yX12_goes)
abbrev mX12_half : Mth := (RX12, cX12_half, 3, none, yX12_half)
abbrev mX12_here : Mth := (RX12, cX12_here, 1, (some .int), yX12_here)
abbrev mX12_init : Mth := (RX12, cX12_init, 1, none, yX12_init)
abbrev mX12_is : Mth := (RX12, cX12_is, 1, (some .long), yX12_is)
abbrev mX12_isAboard : Mth := (RX12, cX12_isAboard, 3, (some .boolean), yX12_isAboard)
abbrev mX12_isCell : Mth := (RX12, cX12_isCell, 2, (some .boolean), yX12_isCell)
abbrev mX12_isDigit : Mth := (RX12, cX12_isDigit, 1, (some .boolean), yX12_isDigit)
abbrev mX12_isFull : Mth := (RX12, cX12_isFull, 2, (some .boolean), yX12_isFull)
abbrev mX12_isMay : Mth := (RX12, cX12_isMay, 2, (some .boolean), yX12_isMay)
abbrev mX12_isOnce : Mth := (RX12, cX12_isOnce, 1, (some .boolean), yX12_isOnce)
abbrev mX12_isSign : Mth := (RX12, cX12_isSign, 2, (some .boolean), yX12_isSign)
abbrev mX12_isSmall : Mth := (RX12, cX12_isSmall, 1, (some .boolean), yX12_isSmall)
abbrev mX12_isThere : Mth := (RX12, cX12_isThere, 2, (some .boolean), yX12_isThere)
abbrev mX12_isTold : Mth := (RX12, cX12_isTold, 2, (some .boolean), yX12_isTold)
abbrev mX12_isWord : Mth := (RX12, cX12_isWord, 2, (some .boolean), yX12_isWord)
abbrev mX12_isleLine : Mth := (RX12, cX12_isleLine, 2, none, yX12_isleLine)
abbrev mX12_keep : Mth := (RX12, cX12_keep, 1, (some .int), yX12_keep)
abbrev mX12_keepNow : Mth := (RX12, cX12_keepNow, 2, none, yX12_keepNow)
abbrev mX12_knot : Mth := (RX12, cX12_knot, 1, none, yX12_knot)
abbrev mX12_known : Mth := (RX12, cX12_known, 2, (some .boolean), yX12_known)
abbrev mX12_knownMany : Mth := (RX12, cX12_knownMany, 1, (some .int), yX12_knownMany)
abbrev mX12_land : Mth := (RX12, cX12_land, 2, (some .int), yX12_land)
abbrev mX12_landLine : Mth := (RX12, cX12_landLine, 4, none, yX12_landLine)
abbrev mX12_law : Mth := (RX12, cX12_law, 6, (some .long), yX12_law)
abbrev mX12_layFar : Mth := (RX12, cX12_layFar, 7, none, yX12_layFar)
abbrev mX12_leads : Mth := (RX12, cX12_leads, 5, (some .int), yX12_leads)
abbrev mX12_line : Mth := (RX12, cX12_line, 3, none, yX12_line)
abbrev mX12_log : Mth := (RX12, cX12_log, 3, (some .int), yX12_log)
abbrev mX12_look : Mth := (RX12, cX12_look, 4, (some .int), yX12_look)
abbrev mX12_meals : Mth := (RX12, cX12_meals, 3, (some .int), yX12_meals)
abbrev mX12_mouthLine : Mth := (RX12, cX12_mouthLine, 5, none, yX12_mouthLine)
abbrev mX12_mouthNamed : Mth := (RX12, cX12_mouthNamed, 3, (some .int), yX12_mouthNamed)
abbrev mX12_name : Mth := (RX12, cX12_name, 2, none, yX12_name)
abbrev mX12_named : Mth := (RX12, cX12_named, 4, (some .int), yX12_named)
abbrev mX12_nearest : Mth := (RX12, cX12_nearest, 7, (some .int), yX12_nearest)
abbrev mX12_negation : Mth := (RX12, cX12_negation, 2, none, yX12_negation)
abbrev mX12_numeral : Mth := (RX12, cX12_numeral, 4, (some .int), yX12_numeral)
abbrev mX12_numeralAtHand : Mth := (RX12, cX12_numeralAtHand, 3, (some .int), yX12_numeralAtHand)
abbrev mX12_odds : Mth := (RX12, cX12_odds, 9, (some .int), yX12_odds)
abbrev mX12_passes : Mth := (RX12, cX12_passes, 8, none, yX12_passes)
abbrev mX12_plain : Mth := (RX12, cX12_plain, 1, none, yX12_plain)
abbrev mX12_plan : Mth := (RX12, cX12_plan, 3, (some .int), yX12_plan)
abbrev mX12_plans : Mth := (RX12, cX12_plans, 5, none, yX12_plans)
abbrev mX12_platesOf : Mth := (RX12, cX12_platesOf, 3, (some .int), yX12_platesOf)
abbrev mX12_power : Mth := (RX12, cX12_power, 11, (some .int), yX12_power)
abbrev mX12_primary : Mth := (RX12, cX12_primary, 2, none, yX12_primary)
abbrev mX12_product : Mth := (RX12, cX12_product, 2, none, yX12_product)
abbrev mX12_puts : Mth := (RX12, cX12_puts, 3, none, yX12_puts)
abbrev mX12_puts_ : Mth := (RX12, cX12_puts_, 3, none, yX12_puts_)
abbrev mX12_reads : Mth := (RX12, cX12_reads, 3, none, yX12_reads)
abbrev mX12_says : Mth := (RX12, cX12_says, 7, (some .boolean), yX12_says)
abbrev mX12_ship : Mth := (RX12, cX12_ship, 2, (some .int), yX12_ship)
abbrev mX12_sign : Mth := (RX12, cX12_sign, 2, none, yX12_sign)
abbrev mX12_sits : Mth := (RX12, cX12_sits, 6, none, yX12_sits)
abbrev mX12_slot : Mth := (RX12, cX12_slot, 2, (some .int), yX12_slot)
abbrev mX12_strike : Mth := (RX12, cX12_strike, 2, (some .int), yX12_strike)
abbrev mX12_strikes : Mth := (RX12, cX12_strikes, 2, none, yX12_strikes)
abbrev mX12_sum : Mth := (RX12, cX12_sum, 2, none, yX12_sum)
abbrev mX12_sure : Mth := (RX12, cX12_sure, 6, (some .int), yX12_sure)
abbrev mX12_taken : Mth := (RX12, cX12_taken, 3, (some .int), yX12_taken)
abbrev mX12_takes : Mth := (RX12, cX12_takes, 3, none, yX12_takes)
abbrev mX12_text : Mth := (RX12, cX12_text, 3, (some .int), yX12_text)
abbrev mX12_thrown : Mth := (RX12, cX12_thrown, 1, (some .int), yX12_thrown)
abbrev mX12_token : Mth := (RX12, cX12_token, 2, none, yX12_token)
abbrev mX12_top : Mth := (RX12, cX12_top, 3, (some .int), yX12_top)
abbrev mX12_tried : Mth := (RX12, cX12_tried, 6, (some .int), yX12_tried)
abbrev mX12_truth : Mth := (RX12, cX12_truth, 2, (some .boolean), yX12_truth)
abbrev mX12_undo : Mth := (RX12, cX12_undo, 1, (some .int), yX12_undo)
abbrev mX12_votes : Mth := (RX12, cX12_votes, 2, (some .int), yX12_votes)
abbrev mX12_votesFor : Mth := (RX12, cX12_votesFor, 12, (some .int), yX12_votesFor)
abbrev mX12_washed : Mth := (RX12, cX12_washed, 3, (some .int), yX12_washed)
abbrev mX12_water : Mth := (RX12, cX12_water, 2, (some .int), yX12_water)
abbrev mX12_windLine : Mth := (RX12, cX12_windLine, 3, none, yX12_windLine)
abbrev mX12_windOf : Mth := (RX12, cX12_windOf, 2, (some .int), yX12_windOf)
abbrev mX12_wish : Mth := (RX12, cX12_wish, 3, (some .int), yX12_wish)
abbrev mX12_word : Mth := (RX12, cX12_word, 4, (some .int), yX12_word)
abbrev mX12_works : Mth := (RX12, cX12_works, 8, (some .boolean), yX12_works)
abbrev mX12_wrong : Mth := (RX12, cX12_wrong, 2, none, yX12_wrong)
abbrev mX1_add : Mth := (RX1, cX1_add, 3, none, yX1_add)
abbrev mX1_init : Mth := (RX1, cX1_init, 1, none, yX1_init)
abbrev mX1_join : Mth := (RX1, cX1_join, 5, (some .long), yX1_join)
abbrev mX1_work : Mth := (RX1, cX1_work, 8, (some .long), yX1_work)
abbrev mX2_aboard : Mth := (RX2, cX2_aboard, 4, (some .int), yX2_aboard)
abbrev mX2_blow : Mth := (RX2, cX2_blow, 3, none, yX2_blow)
abbrev mX2_bribe : Mth := (RX2, cX2_bribe, 7, (some .int), yX2_bribe)
abbrev mX2_comesTo : Mth := (RX2, cX2_comesTo, 4, (some .int), yX2_comesTo)
abbrev mX2_give : Mth := (RX2, cX2_give, 3, none, yX2_give)
abbrev mX2_hold : Mth := (RX2, cX2_hold, 4, (some .int), yX2_hold)
abbrev mX2_hungry : Mth := (RX2, cX2_hungry, 4, (some .int), yX2_hungry)
abbrev mX2_init : Mth := (RX2, cX2_init, 2, none, yX2_init)
abbrev mX2_isAboard : Mth := (RX2, cX2_isAboard, 4, (some .boolean), yX2_isAboard)
abbrev mX2_isFed : Mth := (RX2, cX2_isFed, 3, (some .boolean), yX2_isFed)
abbrev mX2_openPage : Mth := (RX2, cX2_openPage, 3, none, yX2_openPage)
abbrev mX2_ordersDecidedBy : Mth := (RX2, cX2_ordersDecidedBy, 11, (some .int), yX2_ordersDecidedBy)
abbrev mX2_poll : Mth := (RX2, cX2_poll, 4, none, yX2_poll)
abbrev mX2_portion : Mth := (RX2, cX2_portion, 5, (some .int), yX2_portion)
abbrev mX2_sail : Mth := (RX2, cX2_sail, 4, none, yX2_sail)
abbrev mX2_serve : Mth := (RX2, cX2_serve, 5, none, yX2_serve)
abbrev mX2_usePage : Mth := (RX2, cX2_usePage, 2, none, yX2_usePage)
abbrev mX2_value : Mth := (RX2, cX2_value, 7, (some .long), yX2_value)
abbrev mX2_winner : Mth := (RX2, cX2_winner, 5, (some .int), yX2_winner)
abbrev mX2_wishOf : Mth := (RX2, cX2_wishOf, 13, (some .int), yX2_wishOf)
abbrev mX3_copyFrom : Mth := (RX3, cX3_copyFrom, 3, none, yX3_copyFrom)
abbrev mX3_init : Mth := (RX3, cX3_init, 1, none, yX3_init)
abbrev mX4_begin : Mth := (RX4, cX4_begin, 2, none, yX4_begin)
abbrev mX4_init : Mth := (RX4, cX4_init, 1, none, yX4_init)
abbrev mX5_add : Mth := (RX5, cX5_add, 4, (some .int), yX5_add)
abbrev mX5_clear : Mth := (RX5, cX5_clear, 1, none, yX5_clear)
abbrev mX5_counts : Mth := (RX5, cX5_counts, 2, (some .boolean), yX5_counts)
abbrev mX5_firstFalse : Mth := (RX5, cX5_firstFalse, 5, (some .int), yX5_firstFalse)
abbrev mX5_firstFrom : Mth := (RX5, cX5_firstFrom, 3, (some .int), yX5_firstFrom)
abbrev mX5_inForce : Mth := (RX5, cX5_inForce, 1, (some .int), yX5_inForce)
abbrev mX5_init : Mth := (RX5, cX5_init, 1, none, yX5_init)
abbrev mX5_latestMeal : Mth := (RX5, cX5_latestMeal, 3, (some .int), yX5_latestMeal)
abbrev mX5_sift : Mth := (RX5, cX5_sift, 3, none, yX5_sift)
abbrev mX6_find : Mth := (RX6, cX6_find, 3, none, yX6_find)
abbrev mX6_init : Mth := (RX6, cX6_init, 3, none, yX6_init)
abbrev mX6_isTooFar : Mth := (RX6, cX6_isTooFar, 4, (some .boolean), yX6_isTooFar)
abbrev mX6_isWorse : Mth := (RX6, cX6_isWorse, 3, (some .boolean), yX6_isWorse)
abbrev mX6_search : Mth := (RX6, cX6_search, 9, none, yX6_search)
abbrev mX6_take : Mth := (RX6, cX6_take, 4, none, yX6_take)
abbrev mX7_addLeaf : Mth := (RX7, cX7_addLeaf, 1, (some .boolean), yX7_addLeaf)
abbrev mX7_advance : Mth := (RX7, cX7_advance, 1, none, yX7_advance)
abbrev mX7_countKnot : Mth := (RX7, cX7_countKnot, 1, (some .boolean), yX7_countKnot)
abbrev mX7_defer : Mth := (RX7, cX7_defer, 2, (some .boolean), yX7_defer)
abbrev mX7_endLine : Mth := (RX7, cX7_endLine, 1, (some .boolean), yX7_endLine)
abbrev mX7_goesOn : Mth := (RX7, cX7_goesOn, 1, (some .boolean), yX7_goesOn)
abbrev mX7_init : Mth := (RX7, cX7_init, 3, none, yX7_init)
abbrev mX7_isCrewName : Mth := (RX7, cX7_isCrewName, 4, (some .boolean), yX7_isCrewName)
abbrev mX7_isTold : Mth := (RX7, cX7_isTold, 2, (some .boolean), yX7_isTold)
abbrev mX7_rankOf : Mth := (RX7, cX7_rankOf, 1, (some .int), yX7_rankOf)
abbrev mX7_rankOnTop : Mth := (RX7, cX7_rankOnTop, 1, (some .int), yX7_rankOnTop)
abbrev mX7_read : Mth := (RX7, cX7_read, 4, (some .boolean), yX7_read)
abbrev mX7_readCell : Mth := (RX7, cX7_readCell, 2, (some .boolean), yX7_readCell)
abbrev mX7_readCellOfWater : Mth := (RX7, cX7_readCellOfWater, 1, (some .boolean), yX7_readCellOfWater)
abbrev mX7_readExpression : Mth := (RX7, cX7_readExpression, 3, (some .boolean), yX7_readExpression)
abbrev mX7_readGale : Mth := (RX7, cX7_readGale, 3, (some .boolean), yX7_readGale)
abbrev mX7_readIsle : Mth := (RX7, cX7_readIsle, 4, (some .boolean), yX7_readIsle)
abbrev mX7_readLand : Mth := (RX7, cX7_readLand, 3, (some .boolean), yX7_readLand)
abbrev mX7_readLine : Mth := (RX7, cX7_readLine, 4, (some .boolean), yX7_readLine)
abbrev mX7_readLoses : Mth := (RX7, cX7_readLoses, 2, (some .boolean), yX7_readLoses)
abbrev mX7_readMouth : Mth := (RX7, cX7_readMouth, 6, (some .boolean), yX7_readMouth)
abbrev mX7_readNumber : Mth := (RX7, cX7_readNumber, 3, (some .boolean), yX7_readNumber)
abbrev mX7_readOdds : Mth := (RX7, cX7_readOdds, 2, (some .boolean), yX7_readOdds)
abbrev mX7_readRest : Mth := (RX7, cX7_readRest, 6, (some .boolean), yX7_readRest)
abbrev mX7_readSea : Mth := (RX7, cX7_readSea, 2, (some .boolean), yX7_readSea)
abbrev mX7_readShip : Mth := (RX7, cX7_readShip, 3, (some .boolean), yX7_readShip)
abbrev mX7_readSick : Mth := (RX7, cX7_readSick, 2, (some .boolean), yX7_readSick)
abbrev mX7_readStay : Mth := (RX7, cX7_readStay, 3, (some .boolean), yX7_readStay)
abbrev mX7_readStore : Mth := (RX7, cX7_readStore, 3, (some .boolean), yX7_readStore)
abbrev mX7_readStorm : Mth := (RX7, cX7_readStorm, 2, (some .boolean), yX7_readStorm)
abbrev mX7_readWind : Mth := (RX7, cX7_readWind, 3, (some .boolean), yX7_readWind)
abbrev mX7_release : Mth := (RX7, cX7_release, 2, none, yX7_release)
abbrev mX7_takePart : Mth := (RX7, cX7_takePart, 1, (some .boolean), yX7_takePart)
abbrev mX7_takeSign : Mth := (RX7, cX7_takeSign, 2, (some .boolean), yX7_takeSign)
abbrev mX7_tellOnce : Mth := (RX7, cX7_tellOnce, 3, (some .boolean), yX7_tellOnce)
abbrev mX7_wrong : Mth := (RX7, cX7_wrong, 3, (some .boolean), yX7_wrong)
abbrev mX8_follows : Mth := (RX8, cX8_follows, 3, (some .boolean), yX8_follows)
abbrev mX8_init : Mth := (RX8, cX8_init, 7, none, yX8_init)
abbrev mX8_isDigit : Mth := (RX8, cX8_isDigit, 1, (some .boolean), yX8_isDigit)
abbrev mX8_isLetter : Mth := (RX8, cX8_isLetter, 1, (some .boolean), yX8_isLetter)
abbrev mX8_scan : Mth := (RX8, cX8_scan, 2, none, yX8_scan)
abbrev mX8_scanNumber : Mth := (RX8, cX8_scanNumber, 1, none, yX8_scanNumber)
abbrev mX8_scanSign : Mth := (RX8, cX8_scanSign, 2, none, yX8_scanSign)
abbrev mX8_scanWord : Mth := (RX8, cX8_scanWord, 3, none, yX8_scanWord)
abbrev mX9_between : Mth := (RX9, cX9_between, 3, (some .int), yX9_between)
abbrev mX9_clear : Mth := (RX9, cX9_clear, 1, none, yX9_clear)
abbrev mX9_fromBahia : Mth := (RX9, cX9_fromBahia, 2, (some .int), yX9_fromBahia)
abbrev mX9_fromIsle : Mth := (RX9, cX9_fromIsle, 4, (some .int), yX9_fromIsle)
abbrev mX9_init : Mth := (RX9, cX9_init, 1, none, yX9_init)
abbrev mX9_isCell : Mth := (RX9, cX9_isCell, 2, (some .boolean), yX9_isCell)
abbrev mX9_isIsle : Mth := (RX9, cX9_isIsle, 3, (some .boolean), yX9_isIsle)
abbrev mX9_isLand : Mth := (RX9, cX9_isLand, 2, (some .boolean), yX9_isLand)
abbrev mX9_isWater : Mth := (RX9, cX9_isWater, 2, (some .boolean), yX9_isWater)
abbrev mX9_isleNamed : Mth := (RX9, cX9_isleNamed, 3, (some .int), yX9_isleNamed)
abbrev mX9_measure : Mth := (RX9, cX9_measure, 2, none, yX9_measure)
abbrev mX9_spread : Mth := (RX9, cX9_spread, 9, none, yX9_spread)
abbrev mX9_step : Mth := (RX9, cX9_step, 4, (some .int), yX9_step)
theorem kw_142 : Cond.methodLink RL 17 yX11_init ∈ Gw := gt_1 (i := 27) rfl rfl
theorem kw_116 : Cond.initialized (yX11_init).cls ∈ Gw := gt_1 (i := 1) rfl rfl
theorem kw_144 : Cond.code yX11_init cX11_init 2 none ∈ Gw := gt_1 (i := 29) rfl rfl
theorem nh_0 : "PlateVote" ≠ "java/lang/invoke/MethodHandle" ∧ "PlateVote" ≠ "java/lang/invoke/VarHandle" := by decide +kernel
theorem pd_1 : (parseMethodDescriptor "()V").map (fun d => d.parameters.length) = some 0 := by decide +kernel
theorem kw_143 : Cond.instanceMethod yX11_init ∈ Gw := gt_1 (i := 28) rfl rfl
theorem cw_L_17 : Cw RL 17 mX11_init 0 ∧ Cond.instanceMethod yX11_init ∈ Gw := ⟨⟨kw_142, kw_116, kw_144, ⟨nh_0.1, nh_0.2, pd_1⟩, Nat.le_of_ble_eq_true rfl⟩, kw_143⟩
theorem kw_150 : Cond.methodLink RX11 19 yX0_init ∈ Gw := gt_1 (i := 35) rfl rfl
theorem kw_117 : Cond.initialized (yX0_init).cls ∈ Gw := gt_1 (i := 2) rfl rfl
theorem kw_152 : Cond.code yX0_init cX0_init 2 none ∈ Gw := gt_1 (i := 37) rfl rfl
theorem nh_2 : "PlateVote$Chart" ≠ "java/lang/invoke/MethodHandle" ∧ "PlateVote$Chart" ≠ "java/lang/invoke/VarHandle" := by decide +kernel
theorem kw_151 : Cond.instanceMethod yX0_init ∈ Gw := gt_1 (i := 36) rfl rfl
theorem cw_X11_19 : Cw RX11 19 mX0_init 0 ∧ Cond.instanceMethod yX0_init ∈ Gw := ⟨⟨kw_150, kw_117, kw_152, ⟨nh_2.1, nh_2.2, pd_1⟩, Nat.le_of_ble_eq_true rfl⟩, kw_151⟩
theorem kw_156 : Cond.methodLink RX0 11 yX9_init ∈ Gw := gt_1 (i := 41) rfl rfl
theorem kw_118 : Cond.initialized (yX9_init).cls ∈ Gw := gt_1 (i := 3) rfl rfl
theorem kw_158 : Cond.code yX9_init cX9_init 1 none ∈ Gw := gt_1 (i := 43) rfl rfl
theorem nh_3 : "PlateVote$Sea" ≠ "java/lang/invoke/MethodHandle" ∧ "PlateVote$Sea" ≠ "java/lang/invoke/VarHandle" := by decide +kernel
theorem kw_157 : Cond.instanceMethod yX9_init ∈ Gw := gt_1 (i := 42) rfl rfl
theorem cw_X0_11 : Cw RX0 11 mX9_init 0 ∧ Cond.instanceMethod yX9_init ∈ Gw := ⟨⟨kw_156, kw_118, kw_158, ⟨nh_3.1, nh_3.2, pd_1⟩, Nat.le_of_ble_eq_true rfl⟩, kw_157⟩
theorem kw_226 : Cond.methodLink RX0 20 yX1_init ∈ Gw := gt_1 (i := 111) rfl rfl
theorem kw_119 : Cond.initialized (yX1_init).cls ∈ Gw := gt_1 (i := 4) rfl rfl
theorem kw_228 : Cond.code yX1_init cX1_init 1 none ∈ Gw := gt_1 (i := 113) rfl rfl
theorem nh_4 : "PlateVote$Code" ≠ "java/lang/invoke/MethodHandle" ∧ "PlateVote$Code" ≠ "java/lang/invoke/VarHandle" := by decide +kernel
theorem kw_227 : Cond.instanceMethod yX1_init ∈ Gw := gt_1 (i := 112) rfl rfl
theorem cw_X0_20 : Cw RX0 20 mX1_init 0 ∧ Cond.instanceMethod yX1_init ∈ Gw := ⟨⟨kw_226, kw_119, kw_228, ⟨nh_4.1, nh_4.2, pd_1⟩, Nat.le_of_ble_eq_true rfl⟩, kw_227⟩
theorem kw_254 : Cond.methodLink RX0 69 yX4_init ∈ Gw := gt_1 (i := 139) rfl rfl
theorem kw_120 : Cond.initialized (yX4_init).cls ∈ Gw := gt_1 (i := 5) rfl rfl
theorem kw_256 : Cond.code yX4_init cX4_init 1 none ∈ Gw := gt_1 (i := 141) rfl rfl
theorem nh_5 : "PlateVote$Mouth" ≠ "java/lang/invoke/MethodHandle" ∧ "PlateVote$Mouth" ≠ "java/lang/invoke/VarHandle" := by decide +kernel
theorem kw_255 : Cond.instanceMethod yX4_init ∈ Gw := gt_1 (i := 140) rfl rfl
theorem cw_X0_69 : Cw RX0 69 mX4_init 0 ∧ Cond.instanceMethod yX4_init ∈ Gw := ⟨⟨kw_254, kw_120, kw_256, ⟨nh_5.1, nh_5.2, pd_1⟩, Nat.le_of_ble_eq_true rfl⟩, kw_255⟩
theorem kw_309 : Cond.methodLink RX0 70 yX0_clear ∈ Gw := gt_1 (i := 194) rfl rfl
theorem kw_312 : Cond.code yX0_clear cX0_clear 1 none ∈ Gw := gt_1 (i := 197) rfl rfl
theorem kw_310 : Cond.instanceMethod yX0_clear ∈ Gw := gt_1 (i := 195) rfl rfl
theorem kw_311 : Cond.selects (yX0_clear).cls yX0_clear yX0_clear ∈ Gw := gt_1 (i := 196) rfl rfl
theorem cw_X0_70 : CwV RX0 70 mX0_clear 0 := ⟨⟨kw_309, kw_117, kw_312, ⟨nh_2.1, nh_2.2, pd_1⟩, Nat.le_of_ble_eq_true rfl⟩, kw_310, kw_311⟩
theorem kw_313 : Cond.methodLink RX0 76 yX9_clear ∈ Gw := gt_1 (i := 198) rfl rfl
theorem kw_316 : Cond.code yX9_clear cX9_clear 1 none ∈ Gw := gt_1 (i := 201) rfl rfl
theorem kw_314 : Cond.instanceMethod yX9_clear ∈ Gw := gt_1 (i := 199) rfl rfl
theorem kw_315 : Cond.selects (yX9_clear).cls yX9_clear yX9_clear ∈ Gw := gt_1 (i := 200) rfl rfl
theorem cw_X0_76 : CwV RX0 76 mX9_clear 0 := ⟨⟨kw_313, kw_118, kw_316, ⟨nh_3.1, nh_3.2, pd_1⟩, Nat.le_of_ble_eq_true rfl⟩, kw_314, kw_315⟩
theorem kw_317 : Cond.methodLink RX0 73 yX9_measure ∈ Gw := gt_1 (i := 202) rfl rfl
theorem kw_320 : Cond.code yX9_measure cX9_measure 2 none ∈ Gw := gt_1 (i := 205) rfl rfl
theorem kw_318 : Cond.instanceMethod yX9_measure ∈ Gw := gt_1 (i := 203) rfl rfl
theorem kw_319 : Cond.selects (yX9_measure).cls yX9_measure yX9_measure ∈ Gw := gt_1 (i := 204) rfl rfl
theorem cw_X0_73 : CwV RX0 73 mX9_measure 0 := ⟨⟨kw_317, kw_118, kw_320, ⟨nh_3.1, nh_3.2, pd_1⟩, Nat.le_of_ble_eq_true rfl⟩, kw_318, kw_319⟩
theorem kw_321 : Cond.methodLink RX9 57 yX9_spread ∈ Gw := gt_1 (i := 206) rfl rfl
theorem kw_324 : Cond.code yX9_spread cX9_spread 9 none ∈ Gw := gt_1 (i := 209) rfl rfl
theorem pd_6 : (parseMethodDescriptor "(II)V").map (fun d => d.parameters.length) = some 2 := by decide +kernel
theorem kw_323 : Cond.instanceMethod yX9_spread ∈ Gw := gt_1 (i := 208) rfl rfl
theorem kw_0 : Cond.selects (yX9_spread).cls yX9_spread yX9_spread ∈ Gw := gt_0 (i := 0) (q := (yX9_spread, 13)) rfl
theorem cw_X9_57 : CwV RX9 57 mX9_spread 2 := ⟨⟨kw_321, kw_118, kw_324, ⟨nh_3.1, nh_3.2, pd_6⟩, Nat.le_of_ble_eq_true rfl⟩, kw_323, kw_0⟩
theorem kw_325 : Cond.methodLink RX9 61 yX9_isWater ∈ Gw := gt_1 (i := 210) rfl rfl
theorem kw_328 : Cond.code yX9_isWater cX9_isWater 2 (some .boolean) ∈ Gw := gt_1 (i := 213) rfl rfl
theorem pd_7 : (parseMethodDescriptor "(I)Z").map (fun d => d.parameters.length) = some 1 := by decide +kernel
theorem kw_326 : Cond.instanceMethod yX9_isWater ∈ Gw := gt_1 (i := 211) rfl rfl
theorem kw_327 : Cond.selects (yX9_isWater).cls yX9_isWater yX9_isWater ∈ Gw := gt_1 (i := 212) rfl rfl
theorem cw_X9_61 : CwV RX9 61 mX9_isWater 1 := ⟨⟨kw_325, kw_118, kw_328, ⟨nh_3.1, nh_3.2, pd_7⟩, Nat.le_of_ble_eq_true rfl⟩, kw_326, kw_327⟩
theorem kw_329 : Cond.methodLink RX9 53 yX9_isCell ∈ Gw := gt_1 (i := 214) rfl rfl
theorem kw_332 : Cond.code yX9_isCell cX9_isCell 2 (some .boolean) ∈ Gw := gt_1 (i := 217) rfl rfl
theorem kw_330 : Cond.instanceMethod yX9_isCell ∈ Gw := gt_1 (i := 215) rfl rfl
theorem kw_331 : Cond.selects (yX9_isCell).cls yX9_isCell yX9_isCell ∈ Gw := gt_1 (i := 216) rfl rfl
theorem cw_X9_53 : CwV RX9 53 mX9_isCell 1 := ⟨⟨kw_329, kw_118, kw_332, ⟨nh_3.1, nh_3.2, pd_7⟩, Nat.le_of_ble_eq_true rfl⟩, kw_330, kw_331⟩
theorem kw_333 : Cond.methodLink RX9 64 yX9_step ∈ Gw := gt_1 (i := 218) rfl rfl
theorem kw_336 : Cond.code yX9_step cX9_step 4 (some .int) ∈ Gw := gt_1 (i := 221) rfl rfl
theorem pd_8 : (parseMethodDescriptor "(II)I").map (fun d => d.parameters.length) = some 2 := by decide +kernel
theorem kw_334 : Cond.instanceMethod yX9_step ∈ Gw := gt_1 (i := 219) rfl rfl
theorem kw_335 : Cond.selects (yX9_step).cls yX9_step yX9_step ∈ Gw := gt_1 (i := 220) rfl rfl
theorem cw_X9_64 : CwV RX9 64 mX9_step 2 := ⟨⟨kw_333, kw_118, kw_336, ⟨nh_3.1, nh_3.2, pd_8⟩, Nat.le_of_ble_eq_true rfl⟩, kw_334, kw_335⟩
theorem kw_419 : Cond.methodLink RX11 29 yX7_init ∈ Gw := gt_2 (i := 64) rfl rfl
theorem kw_121 : Cond.initialized (yX7_init).cls ∈ Gw := gt_1 (i := 6) rfl rfl
theorem kw_421 : Cond.code yX7_init cX7_init 3 none ∈ Gw := gt_2 (i := 66) rfl rfl
theorem nh_9 : "PlateVote$Reader" ≠ "java/lang/invoke/MethodHandle" ∧ "PlateVote$Reader" ≠ "java/lang/invoke/VarHandle" := by decide +kernel
theorem pd_10 : (parseMethodDescriptor "([BLPlateVote$Chart;)V").map (fun d => d.parameters.length) = some 2 := by decide +kernel
theorem kw_420 : Cond.instanceMethod yX7_init ∈ Gw := gt_2 (i := 65) rfl rfl
theorem cw_X11_29 : Cw RX11 29 mX7_init 2 ∧ Cond.instanceMethod yX7_init ∈ Gw := ⟨⟨kw_419, kw_121, kw_421, ⟨nh_9.1, nh_9.2, pd_10⟩, Nat.le_of_ble_eq_true rfl⟩, kw_420⟩
theorem kw_425 : Cond.methodLink RX7 69 yX8_init ∈ Gw := gt_2 (i := 70) rfl rfl
theorem kw_122 : Cond.initialized (yX8_init).cls ∈ Gw := gt_1 (i := 7) rfl rfl
theorem kw_427 : Cond.code yX8_init cX8_init 7 none ∈ Gw := gt_2 (i := 72) rfl rfl
theorem nh_11 : "PlateVote$Scanner" ≠ "java/lang/invoke/MethodHandle" ∧ "PlateVote$Scanner" ≠ "java/lang/invoke/VarHandle" := by decide +kernel
theorem pd_12 : (parseMethodDescriptor "([B)V").map (fun d => d.parameters.length) = some 1 := by decide +kernel
theorem kw_426 : Cond.instanceMethod yX8_init ∈ Gw := gt_2 (i := 71) rfl rfl
theorem cw_X7_69 : Cw RX7 69 mX8_init 1 ∧ Cond.instanceMethod yX8_init ∈ Gw := ⟨⟨kw_425, kw_122, kw_427, ⟨nh_11.1, nh_11.2, pd_12⟩, Nat.le_of_ble_eq_true rfl⟩, kw_426⟩
theorem kw_576 : Cond.methodLink RX11 38 yX2_init ∈ Gw := gt_2 (i := 221) rfl rfl
theorem kw_127 : Cond.initialized (yX2_init).cls ∈ Gw := gt_1 (i := 12) rfl rfl
theorem kw_578 : Cond.code yX2_init cX2_init 2 none ∈ Gw := gt_2 (i := 223) rfl rfl
theorem nh_13 : "PlateVote$Galley" ≠ "java/lang/invoke/MethodHandle" ∧ "PlateVote$Galley" ≠ "java/lang/invoke/VarHandle" := by decide +kernel
theorem pd_14 : (parseMethodDescriptor "(LPlateVote$Chart;)V").map (fun d => d.parameters.length) = some 1 := by decide +kernel
theorem kw_577 : Cond.instanceMethod yX2_init ∈ Gw := gt_2 (i := 222) rfl rfl
theorem cw_X11_38 : Cw RX11 38 mX2_init 1 ∧ Cond.instanceMethod yX2_init ∈ Gw := ⟨⟨kw_576, kw_127, kw_578, ⟨nh_13.1, nh_13.2, pd_14⟩, Nat.le_of_ble_eq_true rfl⟩, kw_577⟩
theorem kw_625 : Cond.methodLink RX11 47 yX6_init ∈ Gw := gt_3 (i := 30) rfl rfl
theorem kw_128 : Cond.initialized (yX6_init).cls ∈ Gw := gt_1 (i := 13) rfl rfl
theorem kw_627 : Cond.code yX6_init cX6_init 3 none ∈ Gw := gt_3 (i := 32) rfl rfl
theorem nh_15 : "PlateVote$Planner" ≠ "java/lang/invoke/MethodHandle" ∧ "PlateVote$Planner" ≠ "java/lang/invoke/VarHandle" := by decide +kernel
theorem pd_16 : (parseMethodDescriptor "(LPlateVote$Galley;)V").map (fun d => d.parameters.length) = some 1 := by decide +kernel
theorem kw_626 : Cond.instanceMethod yX6_init ∈ Gw := gt_3 (i := 31) rfl rfl
theorem cw_X11_47 : Cw RX11 47 mX6_init 1 ∧ Cond.instanceMethod yX6_init ∈ Gw := ⟨⟨kw_625, kw_128, kw_627, ⟨nh_15.1, nh_15.2, pd_16⟩, Nat.le_of_ble_eq_true rfl⟩, kw_626⟩
theorem kw_632 : Cond.methodLink RX6 35 yX10_init ∈ Gw := gt_3 (i := 37) rfl rfl
theorem kw_129 : Cond.initialized (yX10_init).cls ∈ Gw := gt_1 (i := 14) rfl rfl
theorem kw_634 : Cond.code yX10_init cX10_init 1 none ∈ Gw := gt_3 (i := 39) rfl rfl
theorem nh_17 : "PlateVote$Voyage" ≠ "java/lang/invoke/MethodHandle" ∧ "PlateVote$Voyage" ≠ "java/lang/invoke/VarHandle" := by decide +kernel
theorem kw_633 : Cond.instanceMethod yX10_init ∈ Gw := gt_3 (i := 38) rfl rfl
theorem cw_X6_35 : Cw RX6 35 mX10_init 0 ∧ Cond.instanceMethod yX10_init ∈ Gw := ⟨⟨kw_632, kw_129, kw_634, ⟨nh_17.1, nh_17.2, pd_1⟩, Nat.le_of_ble_eq_true rfl⟩, kw_633⟩
theorem kw_703 : Cond.methodLink RX11 56 yX10_init ∈ Gw := gt_3 (i := 108) rfl rfl
theorem cw_X11_56 : Cw RX11 56 mX10_init 0 ∧ Cond.instanceMethod yX10_init ∈ Gw := ⟨⟨kw_703, kw_129, kw_634, ⟨nh_17.1, nh_17.2, pd_1⟩, Nat.le_of_ble_eq_true rfl⟩, kw_633⟩
theorem kw_706 : Cond.methodLink RX11 63 yX3_init ∈ Gw := gt_3 (i := 111) rfl rfl
theorem kw_130 : Cond.initialized (yX3_init).cls ∈ Gw := gt_1 (i := 15) rfl rfl
theorem kw_708 : Cond.code yX3_init cX3_init 1 none ∈ Gw := gt_3 (i := 113) rfl rfl
theorem nh_18 : "PlateVote$Log" ≠ "java/lang/invoke/MethodHandle" ∧ "PlateVote$Log" ≠ "java/lang/invoke/VarHandle" := by decide +kernel
theorem kw_707 : Cond.instanceMethod yX3_init ∈ Gw := gt_3 (i := 112) rfl rfl
theorem cw_X11_63 : Cw RX11 63 mX3_init 0 ∧ Cond.instanceMethod yX3_init ∈ Gw := ⟨⟨kw_706, kw_130, kw_708, ⟨nh_18.1, nh_18.2, pd_1⟩, Nat.le_of_ble_eq_true rfl⟩, kw_707⟩
theorem kw_733 : Cond.methodLink RX11 87 yX5_init ∈ Gw := gt_3 (i := 138) rfl rfl
theorem kw_131 : Cond.initialized (yX5_init).cls ∈ Gw := gt_1 (i := 16) rfl rfl
theorem kw_735 : Cond.code yX5_init cX5_init 1 none ∈ Gw := gt_3 (i := 140) rfl rfl
theorem nh_19 : "PlateVote$Notes" ≠ "java/lang/invoke/MethodHandle" ∧ "PlateVote$Notes" ≠ "java/lang/invoke/VarHandle" := by decide +kernel
theorem kw_734 : Cond.instanceMethod yX5_init ∈ Gw := gt_3 (i := 139) rfl rfl
theorem cw_X11_87 : Cw RX11 87 mX5_init 0 ∧ Cond.instanceMethod yX5_init ∈ Gw := ⟨⟨kw_733, kw_131, kw_735, ⟨nh_19.1, nh_19.2, pd_1⟩, Nat.le_of_ble_eq_true rfl⟩, kw_734⟩
theorem kw_759 : Cond.methodLink RX11 98 yX10_begin ∈ Gw := gt_3 (i := 164) rfl rfl
theorem kw_762 : Cond.code yX10_begin cX10_begin 3 none ∈ Gw := gt_3 (i := 167) rfl rfl
theorem kw_760 : Cond.instanceMethod yX10_begin ∈ Gw := gt_3 (i := 165) rfl rfl
theorem kw_761 : Cond.selects (yX10_begin).cls yX10_begin yX10_begin ∈ Gw := gt_3 (i := 166) rfl rfl
theorem cw_X11_98 : CwV RX11 98 mX10_begin 1 := ⟨⟨kw_759, kw_129, kw_762, ⟨nh_17.1, nh_17.2, pd_14⟩, Nat.le_of_ble_eq_true rfl⟩, kw_760, kw_761⟩
theorem kw_815 : Cond.methodLink RL 21 yX11_feed ∈ Gw := gt_3 (i := 220) rfl rfl
theorem kw_818 : Cond.code yX11_feed cX11_feed 6 (some .int) ∈ Gw := gt_3 (i := 223) rfl rfl
theorem pd_20 : (parseMethodDescriptor "(IIIII)I").map (fun d => d.parameters.length) = some 5 := by decide +kernel
theorem kw_816 : Cond.instanceMethod yX11_feed ∈ Gw := gt_3 (i := 221) rfl rfl
theorem kw_817 : Cond.selects (yX11_feed).cls yX11_feed yX11_feed ∈ Gw := gt_3 (i := 222) rfl rfl
theorem cw_L_21 : CwV RL 21 mX11_feed 5 := ⟨⟨kw_815, kw_116, kw_818, ⟨nh_0.1, nh_0.2, pd_20⟩, Nat.le_of_ble_eq_true rfl⟩, kw_816, kw_817⟩
theorem kw_819 : Cond.methodLink RX11 101 yX11_tapeNumber ∈ Gw := gt_3 (i := 224) rfl rfl
theorem kw_822 : Cond.code yX11_tapeNumber cX11_tapeNumber 3 none ∈ Gw := gt_3 (i := 227) rfl rfl
theorem pd_21 : (parseMethodDescriptor "(I)V").map (fun d => d.parameters.length) = some 1 := by decide +kernel
theorem kw_821 : Cond.instanceMethod yX11_tapeNumber ∈ Gw := gt_3 (i := 226) rfl rfl
theorem kw_1 : Cond.selects (yX11_tapeNumber).cls yX11_tapeNumber yX11_tapeNumber ∈ Gw := gt_0 (i := 1) (q := (yX11_tapeNumber, 17)) rfl
theorem cw_X11_101 : CwV RX11 101 mX11_tapeNumber 1 := ⟨⟨kw_819, kw_116, kw_822, ⟨nh_0.1, nh_0.2, pd_21⟩, Nat.le_of_ble_eq_true rfl⟩, kw_821, kw_1⟩
theorem kw_823 : Cond.methodLink RL 26 yX11_text ∈ Gw := gt_3 (i := 228) rfl rfl
theorem kw_826 : Cond.code yX11_text cX11_text 3 (some .int) ∈ Gw := gt_3 (i := 231) rfl rfl
theorem pd_22 : (parseMethodDescriptor "(I)I").map (fun d => d.parameters.length) = some 1 := by decide +kernel
theorem kw_824 : Cond.instanceMethod yX11_text ∈ Gw := gt_3 (i := 229) rfl rfl
theorem kw_825 : Cond.selects (yX11_text).cls yX11_text yX11_text ∈ Gw := gt_3 (i := 230) rfl rfl
theorem cw_L_26 : CwV RL 26 mX11_text 1 := ⟨⟨kw_823, kw_116, kw_826, ⟨nh_0.1, nh_0.2, pd_22⟩, Nat.le_of_ble_eq_true rfl⟩, kw_824, kw_825⟩
theorem kw_827 : Cond.methodLink RX11 105 yX7_read ∈ Gw := gt_3 (i := 232) rfl rfl
theorem kw_830 : Cond.code yX7_read cX7_read 4 (some .boolean) ∈ Gw := gt_3 (i := 235) rfl rfl
theorem pd_23 : (parseMethodDescriptor "(ILPlateVote$Chart;)Z").map (fun d => d.parameters.length) = some 2 := by decide +kernel
theorem kw_828 : Cond.instanceMethod yX7_read ∈ Gw := gt_3 (i := 233) rfl rfl
theorem kw_829 : Cond.selects (yX7_read).cls yX7_read yX7_read ∈ Gw := gt_3 (i := 234) rfl rfl
theorem cw_X11_105 : CwV RX11 105 mX7_read 2 := ⟨⟨kw_827, kw_121, kw_830, ⟨nh_9.1, nh_9.2, pd_23⟩, Nat.le_of_ble_eq_true rfl⟩, kw_828, kw_829⟩
theorem kw_831 : Cond.methodLink RX7 80 yX0_clear ∈ Gw := gt_3 (i := 236) rfl rfl
theorem cw_X7_80 : CwV RX7 80 mX0_clear 0 := ⟨⟨kw_831, kw_117, kw_312, ⟨nh_2.1, nh_2.2, pd_1⟩, Nat.le_of_ble_eq_true rfl⟩, kw_310, kw_311⟩
theorem kw_832 : Cond.methodLink RX7 85 yX8_scan ∈ Gw := gt_3 (i := 237) rfl rfl
theorem kw_835 : Cond.code yX8_scan cX8_scan 2 none ∈ Gw := gt_4 (i := 0) rfl rfl
theorem kw_833 : Cond.instanceMethod yX8_scan ∈ Gw := gt_3 (i := 238) rfl rfl
theorem kw_834 : Cond.selects (yX8_scan).cls yX8_scan yX8_scan ∈ Gw := gt_3 (i := 239) rfl rfl
theorem cw_X7_85 : CwV RX7 85 mX8_scan 1 := ⟨⟨kw_832, kw_122, kw_835, ⟨nh_11.1, nh_11.2, pd_21⟩, Nat.le_of_ble_eq_true rfl⟩, kw_833, kw_834⟩
theorem kw_836 : Cond.methodLink RX8 55 Lib.Math.min.name ∈ Gw := gt_4 (i := 1) rfl rfl
theorem kw_837 : Cond.static Lib.Math.min.name ∈ Gw := gt_4 (i := 2) rfl rfl
theorem kw_133 : Cond.initialized "java/lang/Math" ∈ Gw := gt_1 (i := 18) rfl rfl
theorem kw_838 : Cond.code Lib.Math.min.name Lib.Math.min.code 2 (some .int) ∈ Gw := gt_4 (i := 3) rfl rfl
theorem mw_X8_55 : Mw RX8 55 Lib.Math.min.name Lib.Math.min.code 2 (some .int) := ⟨kw_836, kw_837, kw_133, kw_838⟩
theorem kw_839 : Cond.methodLink RX8 61 Lib.Math.max.name ∈ Gw := gt_4 (i := 4) rfl rfl
theorem kw_840 : Cond.static Lib.Math.max.name ∈ Gw := gt_4 (i := 5) rfl rfl
theorem kw_841 : Cond.code Lib.Math.max.name Lib.Math.max.code 2 (some .int) ∈ Gw := gt_4 (i := 6) rfl rfl
theorem mw_X8_61 : Mw RX8 61 Lib.Math.max.name Lib.Math.max.code 2 (some .int) := ⟨kw_839, kw_840, kw_133, kw_841⟩
theorem kw_842 : Cond.methodLink RX8 64 yX8_isLetter ∈ Gw := gt_4 (i := 7) rfl rfl
theorem kw_844 : Cond.code yX8_isLetter cX8_isLetter 1 (some .boolean) ∈ Gw := gt_4 (i := 9) rfl rfl
theorem kw_843 : Cond.static yX8_isLetter ∈ Gw := gt_4 (i := 8) rfl rfl
theorem cw_X8_64 : CwS RX8 64 mX8_isLetter 1 := ⟨⟨kw_842, kw_122, kw_844, ⟨nh_11.1, nh_11.2, pd_7⟩, Nat.le_of_ble_eq_true rfl⟩, kw_843⟩
theorem kw_845 : Cond.methodLink RX8 68 yX8_scanWord ∈ Gw := gt_4 (i := 10) rfl rfl
theorem kw_848 : Cond.code yX8_scanWord cX8_scanWord 3 none ∈ Gw := gt_4 (i := 13) rfl rfl
theorem kw_847 : Cond.instanceMethod yX8_scanWord ∈ Gw := gt_4 (i := 12) rfl rfl
theorem kw_2 : Cond.selects (yX8_scanWord).cls yX8_scanWord yX8_scanWord ∈ Gw := gt_0 (i := 2) (q := (yX8_scanWord, 10)) rfl
theorem cw_X8_68 : CwV RX8 68 mX8_scanWord 0 := ⟨⟨kw_845, kw_122, kw_848, ⟨nh_11.1, nh_11.2, pd_1⟩, Nat.le_of_ble_eq_true rfl⟩, kw_847, kw_2⟩
theorem kw_849 : Cond.methodLink RX8 71 yX8_isDigit ∈ Gw := gt_4 (i := 14) rfl rfl
theorem kw_851 : Cond.code yX8_isDigit cX8_isDigit 1 (some .boolean) ∈ Gw := gt_4 (i := 16) rfl rfl
theorem kw_850 : Cond.static yX8_isDigit ∈ Gw := gt_4 (i := 15) rfl rfl
theorem cw_X8_71 : CwS RX8 71 mX8_isDigit 1 := ⟨⟨kw_849, kw_122, kw_851, ⟨nh_11.1, nh_11.2, pd_7⟩, Nat.le_of_ble_eq_true rfl⟩, kw_850⟩
theorem kw_852 : Cond.methodLink RX8 74 yX8_scanNumber ∈ Gw := gt_4 (i := 17) rfl rfl
theorem kw_855 : Cond.code yX8_scanNumber cX8_scanNumber 1 none ∈ Gw := gt_4 (i := 20) rfl rfl
theorem kw_854 : Cond.instanceMethod yX8_scanNumber ∈ Gw := gt_4 (i := 19) rfl rfl
theorem kw_3 : Cond.selects (yX8_scanNumber).cls yX8_scanNumber yX8_scanNumber ∈ Gw := gt_0 (i := 3) (q := (yX8_scanNumber, 10)) rfl
theorem cw_X8_74 : CwV RX8 74 mX8_scanNumber 0 := ⟨⟨kw_852, kw_122, kw_855, ⟨nh_11.1, nh_11.2, pd_1⟩, Nat.le_of_ble_eq_true rfl⟩, kw_854, kw_3⟩
theorem kw_857 : Cond.methodLink RX8 77 yX8_scanSign ∈ Gw := gt_4 (i := 22) rfl rfl
theorem kw_860 : Cond.code yX8_scanSign cX8_scanSign 2 none ∈ Gw := gt_4 (i := 25) rfl rfl
theorem kw_859 : Cond.instanceMethod yX8_scanSign ∈ Gw := gt_4 (i := 24) rfl rfl
theorem kw_4 : Cond.selects (yX8_scanSign).cls yX8_scanSign yX8_scanSign ∈ Gw := gt_0 (i := 4) (q := (yX8_scanSign, 10)) rfl
theorem cw_X8_77 : CwV RX8 77 mX8_scanSign 1 := ⟨⟨kw_857, kw_122, kw_860, ⟨nh_11.1, nh_11.2, pd_21⟩, Nat.le_of_ble_eq_true rfl⟩, kw_859, kw_4⟩
theorem kw_861 : Cond.methodLink RX8 84 yX8_follows ∈ Gw := gt_4 (i := 26) rfl rfl
theorem kw_864 : Cond.code yX8_follows cX8_follows 3 (some .boolean) ∈ Gw := gt_4 (i := 29) rfl rfl
theorem kw_863 : Cond.instanceMethod yX8_follows ∈ Gw := gt_4 (i := 28) rfl rfl
theorem kw_5 : Cond.selects (yX8_follows).cls yX8_follows yX8_follows ∈ Gw := gt_0 (i := 5) (q := (yX8_follows, 10)) rfl
theorem cw_X8_84 : CwV RX8 84 mX8_follows 1 := ⟨⟨kw_861, kw_122, kw_864, ⟨nh_11.1, nh_11.2, pd_7⟩, Nat.le_of_ble_eq_true rfl⟩, kw_863, kw_5⟩
theorem kw_865 : Cond.methodLink RX7 89 yX7_advance ∈ Gw := gt_4 (i := 30) rfl rfl
theorem kw_868 : Cond.code yX7_advance cX7_advance 1 none ∈ Gw := gt_4 (i := 33) rfl rfl
theorem kw_867 : Cond.instanceMethod yX7_advance ∈ Gw := gt_4 (i := 32) rfl rfl
theorem kw_6 : Cond.selects (yX7_advance).cls yX7_advance yX7_advance ∈ Gw := gt_0 (i := 6) (q := (yX7_advance, 19)) rfl
theorem cw_X7_89 : CwV RX7 89 mX7_advance 0 := ⟨⟨kw_865, kw_121, kw_868, ⟨nh_9.1, nh_9.2, pd_1⟩, Nat.le_of_ble_eq_true rfl⟩, kw_867, kw_6⟩
theorem kw_869 : Cond.methodLink RX7 102 Lib.Math.min.name ∈ Gw := gt_4 (i := 34) rfl rfl
theorem mw_X7_102 : Mw RX7 102 Lib.Math.min.name Lib.Math.min.code 2 (some .int) := ⟨kw_869, kw_837, kw_133, kw_838⟩
theorem kw_870 : Cond.methodLink RX7 108 Lib.Math.max.name ∈ Gw := gt_4 (i := 35) rfl rfl
theorem mw_X7_108 : Mw RX7 108 Lib.Math.max.name Lib.Math.max.code 2 (some .int) := ⟨kw_870, kw_840, kw_133, kw_841⟩
theorem kw_871 : Cond.methodLink RX7 92 yX7_readLine ∈ Gw := gt_4 (i := 36) rfl rfl
theorem kw_874 : Cond.code yX7_readLine cX7_readLine 4 (some .boolean) ∈ Gw := gt_4 (i := 39) rfl rfl
theorem pd_24 : (parseMethodDescriptor "()Z").map (fun d => d.parameters.length) = some 0 := by decide +kernel
theorem kw_873 : Cond.instanceMethod yX7_readLine ∈ Gw := gt_4 (i := 38) rfl rfl
theorem kw_7 : Cond.selects (yX7_readLine).cls yX7_readLine yX7_readLine ∈ Gw := gt_0 (i := 7) (q := (yX7_readLine, 19)) rfl
theorem cw_X7_92 : CwV RX7 92 mX7_readLine 0 := ⟨⟨kw_871, kw_121, kw_874, ⟨nh_9.1, nh_9.2, pd_24⟩, Nat.le_of_ble_eq_true rfl⟩, kw_873, kw_7⟩
theorem kw_875 : Cond.methodLink RX7 120 yX7_readSea ∈ Gw := gt_4 (i := 40) rfl rfl
theorem kw_878 : Cond.code yX7_readSea cX7_readSea 2 (some .boolean) ∈ Gw := gt_4 (i := 43) rfl rfl
theorem kw_877 : Cond.instanceMethod yX7_readSea ∈ Gw := gt_4 (i := 42) rfl rfl
theorem kw_8 : Cond.selects (yX7_readSea).cls yX7_readSea yX7_readSea ∈ Gw := gt_0 (i := 8) (q := (yX7_readSea, 19)) rfl
theorem cw_X7_120 : CwV RX7 120 mX7_readSea 1 := ⟨⟨kw_875, kw_121, kw_878, ⟨nh_9.1, nh_9.2, pd_7⟩, Nat.le_of_ble_eq_true rfl⟩, kw_877, kw_8⟩
theorem kw_879 : Cond.methodLink RX7 179 yX7_tellOnce ∈ Gw := gt_4 (i := 44) rfl rfl
theorem kw_882 : Cond.code yX7_tellOnce cX7_tellOnce 3 (some .boolean) ∈ Gw := gt_4 (i := 47) rfl rfl
theorem pd_25 : (parseMethodDescriptor "(II)Z").map (fun d => d.parameters.length) = some 2 := by decide +kernel
theorem kw_881 : Cond.instanceMethod yX7_tellOnce ∈ Gw := gt_4 (i := 46) rfl rfl
theorem kw_9 : Cond.selects (yX7_tellOnce).cls yX7_tellOnce yX7_tellOnce ∈ Gw := gt_0 (i := 9) (q := (yX7_tellOnce, 19)) rfl
theorem cw_X7_179 : CwV RX7 179 mX7_tellOnce 2 := ⟨⟨kw_879, kw_121, kw_882, ⟨nh_9.1, nh_9.2, pd_25⟩, Nat.le_of_ble_eq_true rfl⟩, kw_881, kw_9⟩
theorem kw_883 : Cond.methodLink RX7 155 yX7_isTold ∈ Gw := gt_4 (i := 48) rfl rfl
theorem kw_886 : Cond.code yX7_isTold cX7_isTold 2 (some .boolean) ∈ Gw := gt_4 (i := 51) rfl rfl
theorem kw_885 : Cond.instanceMethod yX7_isTold ∈ Gw := gt_4 (i := 50) rfl rfl
theorem kw_10 : Cond.selects (yX7_isTold).cls yX7_isTold yX7_isTold ∈ Gw := gt_0 (i := 10) (q := (yX7_isTold, 19)) rfl
theorem cw_X7_155 : CwV RX7 155 mX7_isTold 1 := ⟨⟨kw_883, kw_121, kw_886, ⟨nh_9.1, nh_9.2, pd_7⟩, Nat.le_of_ble_eq_true rfl⟩, kw_885, kw_10⟩
theorem kw_887 : Cond.methodLink RX7 149 yX7_wrong ∈ Gw := gt_4 (i := 52) rfl rfl
theorem kw_890 : Cond.code yX7_wrong cX7_wrong 3 (some .boolean) ∈ Gw := gt_4 (i := 55) rfl rfl
theorem kw_889 : Cond.instanceMethod yX7_wrong ∈ Gw := gt_4 (i := 54) rfl rfl
theorem kw_11 : Cond.selects (yX7_wrong).cls yX7_wrong yX7_wrong ∈ Gw := gt_0 (i := 11) (q := (yX7_wrong, 19)) rfl
theorem cw_X7_149 : CwV RX7 149 mX7_wrong 2 := ⟨⟨kw_887, kw_121, kw_890, ⟨nh_9.1, nh_9.2, pd_25⟩, Nat.le_of_ble_eq_true rfl⟩, kw_889, kw_11⟩
theorem kw_891 : Cond.methodLink RX7 167 yX7_readNumber ∈ Gw := gt_4 (i := 56) rfl rfl
theorem kw_894 : Cond.code yX7_readNumber cX7_readNumber 3 (some .boolean) ∈ Gw := gt_4 (i := 59) rfl rfl
theorem kw_893 : Cond.instanceMethod yX7_readNumber ∈ Gw := gt_4 (i := 58) rfl rfl
theorem kw_12 : Cond.selects (yX7_readNumber).cls yX7_readNumber yX7_readNumber ∈ Gw := gt_0 (i := 12) (q := (yX7_readNumber, 19)) rfl
theorem cw_X7_167 : CwV RX7 167 mX7_readNumber 2 := ⟨⟨kw_891, kw_121, kw_894, ⟨nh_9.1, nh_9.2, pd_25⟩, Nat.le_of_ble_eq_true rfl⟩, kw_893, kw_12⟩
theorem kw_895 : Cond.methodLink RX7 124 yX7_readLand ∈ Gw := gt_4 (i := 60) rfl rfl
theorem kw_898 : Cond.code yX7_readLand cX7_readLand 3 (some .boolean) ∈ Gw := gt_4 (i := 63) rfl rfl
theorem kw_897 : Cond.instanceMethod yX7_readLand ∈ Gw := gt_4 (i := 62) rfl rfl
theorem kw_13 : Cond.selects (yX7_readLand).cls yX7_readLand yX7_readLand ∈ Gw := gt_0 (i := 13) (q := (yX7_readLand, 19)) rfl
theorem cw_X7_124 : CwV RX7 124 mX7_readLand 1 := ⟨⟨kw_895, kw_121, kw_898, ⟨nh_9.1, nh_9.2, pd_7⟩, Nat.le_of_ble_eq_true rfl⟩, kw_897, kw_13⟩
theorem kw_899 : Cond.methodLink RX7 173 yX7_readCell ∈ Gw := gt_4 (i := 64) rfl rfl
theorem kw_902 : Cond.code yX7_readCell cX7_readCell 2 (some .boolean) ∈ Gw := gt_4 (i := 67) rfl rfl
theorem kw_901 : Cond.instanceMethod yX7_readCell ∈ Gw := gt_4 (i := 66) rfl rfl
theorem kw_14 : Cond.selects (yX7_readCell).cls yX7_readCell yX7_readCell ∈ Gw := gt_0 (i := 14) (q := (yX7_readCell, 19)) rfl
theorem cw_X7_173 : CwV RX7 173 mX7_readCell 0 := ⟨⟨kw_899, kw_121, kw_902, ⟨nh_9.1, nh_9.2, pd_24⟩, Nat.le_of_ble_eq_true rfl⟩, kw_901, kw_14⟩
theorem kw_903 : Cond.methodLink RX7 176 yX9_isLand ∈ Gw := gt_4 (i := 68) rfl rfl
theorem kw_906 : Cond.code yX9_isLand cX9_isLand 2 (some .boolean) ∈ Gw := gt_4 (i := 71) rfl rfl
theorem kw_904 : Cond.instanceMethod yX9_isLand ∈ Gw := gt_4 (i := 69) rfl rfl
theorem kw_905 : Cond.selects (yX9_isLand).cls yX9_isLand yX9_isLand ∈ Gw := gt_4 (i := 70) rfl rfl
theorem cw_X7_176 : CwV RX7 176 mX9_isLand 1 := ⟨⟨kw_903, kw_118, kw_906, ⟨nh_3.1, nh_3.2, pd_7⟩, Nat.le_of_ble_eq_true rfl⟩, kw_904, kw_905⟩
theorem kw_907 : Cond.methodLink RX7 191 yX9_isIsle ∈ Gw := gt_4 (i := 72) rfl rfl
theorem kw_910 : Cond.code yX9_isIsle cX9_isIsle 3 (some .boolean) ∈ Gw := gt_4 (i := 75) rfl rfl
theorem kw_908 : Cond.instanceMethod yX9_isIsle ∈ Gw := gt_4 (i := 73) rfl rfl
theorem kw_909 : Cond.selects (yX9_isIsle).cls yX9_isIsle yX9_isIsle ∈ Gw := gt_4 (i := 74) rfl rfl
theorem cw_X7_191 : CwV RX7 191 mX9_isIsle 1 := ⟨⟨kw_907, kw_118, kw_910, ⟨nh_3.1, nh_3.2, pd_7⟩, Nat.le_of_ble_eq_true rfl⟩, kw_908, kw_909⟩
theorem kw_911 : Cond.methodLink RX7 127 yX7_readShip ∈ Gw := gt_4 (i := 76) rfl rfl
theorem kw_914 : Cond.code yX7_readShip cX7_readShip 3 (some .boolean) ∈ Gw := gt_4 (i := 79) rfl rfl
theorem kw_913 : Cond.instanceMethod yX7_readShip ∈ Gw := gt_4 (i := 78) rfl rfl
theorem kw_15 : Cond.selects (yX7_readShip).cls yX7_readShip yX7_readShip ∈ Gw := gt_0 (i := 15) (q := (yX7_readShip, 19)) rfl
theorem cw_X7_127 : CwV RX7 127 mX7_readShip 2 := ⟨⟨kw_911, kw_121, kw_914, ⟨nh_9.1, nh_9.2, pd_25⟩, Nat.le_of_ble_eq_true rfl⟩, kw_913, kw_15⟩
theorem kw_915 : Cond.methodLink RX7 198 yX7_readCellOfWater ∈ Gw := gt_4 (i := 80) rfl rfl
theorem kw_918 : Cond.code yX7_readCellOfWater cX7_readCellOfWater 1 (some .boolean) ∈ Gw := gt_4 (i := 83) rfl rfl
theorem kw_917 : Cond.instanceMethod yX7_readCellOfWater ∈ Gw := gt_4 (i := 82) rfl rfl
theorem kw_16 : Cond.selects (yX7_readCellOfWater).cls yX7_readCellOfWater yX7_readCellOfWater ∈ Gw := gt_0 (i := 16) (q := (yX7_readCellOfWater, 19)) rfl
theorem cw_X7_198 : CwV RX7 198 mX7_readCellOfWater 0 := ⟨⟨kw_915, kw_121, kw_918, ⟨nh_9.1, nh_9.2, pd_24⟩, Nat.le_of_ble_eq_true rfl⟩, kw_917, kw_16⟩
theorem kw_919 : Cond.methodLink RX7 131 yX7_readIsle ∈ Gw := gt_4 (i := 84) rfl rfl
theorem kw_922 : Cond.code yX7_readIsle cX7_readIsle 4 (some .boolean) ∈ Gw := gt_4 (i := 87) rfl rfl
theorem kw_921 : Cond.instanceMethod yX7_readIsle ∈ Gw := gt_4 (i := 86) rfl rfl
theorem kw_17 : Cond.selects (yX7_readIsle).cls yX7_readIsle yX7_readIsle ∈ Gw := gt_0 (i := 17) (q := (yX7_readIsle, 19)) rfl
theorem cw_X7_131 : CwV RX7 131 mX7_readIsle 1 := ⟨⟨kw_919, kw_121, kw_922, ⟨nh_9.1, nh_9.2, pd_7⟩, Nat.le_of_ble_eq_true rfl⟩, kw_921, kw_17⟩
theorem kw_923 : Cond.methodLink RX7 204 yX9_isleNamed ∈ Gw := gt_4 (i := 88) rfl rfl
theorem kw_926 : Cond.code yX9_isleNamed cX9_isleNamed 3 (some .int) ∈ Gw := gt_4 (i := 91) rfl rfl
theorem kw_924 : Cond.instanceMethod yX9_isleNamed ∈ Gw := gt_4 (i := 89) rfl rfl
theorem kw_925 : Cond.selects (yX9_isleNamed).cls yX9_isleNamed yX9_isleNamed ∈ Gw := gt_4 (i := 90) rfl rfl
theorem cw_X7_204 : CwV RX7 204 mX9_isleNamed 1 := ⟨⟨kw_923, kw_118, kw_926, ⟨nh_3.1, nh_3.2, pd_22⟩, Nat.le_of_ble_eq_true rfl⟩, kw_924, kw_925⟩
theorem kw_927 : Cond.methodLink RX7 134 yX7_readWind ∈ Gw := gt_4 (i := 92) rfl rfl
theorem kw_930 : Cond.code yX7_readWind cX7_readWind 3 (some .boolean) ∈ Gw := gt_4 (i := 95) rfl rfl
theorem kw_929 : Cond.instanceMethod yX7_readWind ∈ Gw := gt_4 (i := 94) rfl rfl
theorem kw_18 : Cond.selects (yX7_readWind).cls yX7_readWind yX7_readWind ∈ Gw := gt_0 (i := 18) (q := (yX7_readWind, 19)) rfl
theorem cw_X7_134 : CwV RX7 134 mX7_readWind 1 := ⟨⟨kw_927, kw_121, kw_930, ⟨nh_9.1, nh_9.2, pd_7⟩, Nat.le_of_ble_eq_true rfl⟩, kw_929, kw_18⟩
theorem kw_931 : Cond.methodLink RX7 137 yX7_readGale ∈ Gw := gt_4 (i := 96) rfl rfl
theorem kw_934 : Cond.code yX7_readGale cX7_readGale 3 (some .boolean) ∈ Gw := gt_4 (i := 99) rfl rfl
theorem kw_933 : Cond.instanceMethod yX7_readGale ∈ Gw := gt_4 (i := 98) rfl rfl
theorem kw_19 : Cond.selects (yX7_readGale).cls yX7_readGale yX7_readGale ∈ Gw := gt_0 (i := 19) (q := (yX7_readGale, 19)) rfl
theorem cw_X7_137 : CwV RX7 137 mX7_readGale 1 := ⟨⟨kw_931, kw_121, kw_934, ⟨nh_9.1, nh_9.2, pd_7⟩, Nat.le_of_ble_eq_true rfl⟩, kw_933, kw_19⟩
theorem kw_935 : Cond.methodLink RX7 140 yX7_readStorm ∈ Gw := gt_4 (i := 100) rfl rfl
theorem kw_938 : Cond.code yX7_readStorm cX7_readStorm 2 (some .boolean) ∈ Gw := gt_4 (i := 103) rfl rfl
theorem kw_937 : Cond.instanceMethod yX7_readStorm ∈ Gw := gt_4 (i := 102) rfl rfl
theorem kw_20 : Cond.selects (yX7_readStorm).cls yX7_readStorm yX7_readStorm ∈ Gw := gt_0 (i := 20) (q := (yX7_readStorm, 19)) rfl
theorem cw_X7_140 : CwV RX7 140 mX7_readStorm 1 := ⟨⟨kw_935, kw_121, kw_938, ⟨nh_9.1, nh_9.2, pd_7⟩, Nat.le_of_ble_eq_true rfl⟩, kw_937, kw_20⟩
theorem kw_939 : Cond.methodLink RX7 143 yX7_readStore ∈ Gw := gt_4 (i := 104) rfl rfl
theorem kw_942 : Cond.code yX7_readStore cX7_readStore 3 (some .boolean) ∈ Gw := gt_4 (i := 107) rfl rfl
theorem kw_941 : Cond.instanceMethod yX7_readStore ∈ Gw := gt_4 (i := 106) rfl rfl
theorem kw_21 : Cond.selects (yX7_readStore).cls yX7_readStore yX7_readStore ∈ Gw := gt_0 (i := 21) (q := (yX7_readStore, 19)) rfl
theorem cw_X7_143 : CwV RX7 143 mX7_readStore 2 := ⟨⟨kw_939, kw_121, kw_942, ⟨nh_9.1, nh_9.2, pd_25⟩, Nat.le_of_ble_eq_true rfl⟩, kw_941, kw_21⟩
theorem kw_944 : Cond.methodLink RX7 146 yX7_readMouth ∈ Gw := gt_4 (i := 109) rfl rfl
theorem kw_947 : Cond.code yX7_readMouth cX7_readMouth 6 (some .boolean) ∈ Gw := gt_4 (i := 112) rfl rfl
theorem kw_946 : Cond.instanceMethod yX7_readMouth ∈ Gw := gt_4 (i := 111) rfl rfl
theorem kw_22 : Cond.selects (yX7_readMouth).cls yX7_readMouth yX7_readMouth ∈ Gw := gt_0 (i := 22) (q := (yX7_readMouth, 19)) rfl
theorem cw_X7_146 : CwV RX7 146 mX7_readMouth 2 := ⟨⟨kw_944, kw_121, kw_947, ⟨nh_9.1, nh_9.2, pd_25⟩, Nat.le_of_ble_eq_true rfl⟩, kw_946, kw_22⟩
theorem kw_948 : Cond.methodLink RX7 257 yX7_isCrewName ∈ Gw := gt_4 (i := 113) rfl rfl
theorem kw_951 : Cond.code yX7_isCrewName cX7_isCrewName 4 (some .boolean) ∈ Gw := gt_4 (i := 116) rfl rfl
theorem kw_950 : Cond.instanceMethod yX7_isCrewName ∈ Gw := gt_4 (i := 115) rfl rfl
theorem kw_23 : Cond.selects (yX7_isCrewName).cls yX7_isCrewName yX7_isCrewName ∈ Gw := gt_0 (i := 23) (q := (yX7_isCrewName, 19)) rfl
theorem cw_X7_257 : CwV RX7 257 mX7_isCrewName 1 := ⟨⟨kw_948, kw_121, kw_951, ⟨nh_9.1, nh_9.2, pd_7⟩, Nat.le_of_ble_eq_true rfl⟩, kw_950, kw_23⟩
theorem kw_952 : Cond.methodLink RX7 264 yX4_begin ∈ Gw := gt_4 (i := 117) rfl rfl
theorem kw_955 : Cond.code yX4_begin cX4_begin 2 none ∈ Gw := gt_4 (i := 120) rfl rfl
theorem kw_953 : Cond.instanceMethod yX4_begin ∈ Gw := gt_4 (i := 118) rfl rfl
theorem kw_954 : Cond.selects (yX4_begin).cls yX4_begin yX4_begin ∈ Gw := gt_4 (i := 119) rfl rfl
theorem cw_X7_264 : CwV RX7 264 mX4_begin 1 := ⟨⟨kw_952, kw_120, kw_955, ⟨nh_5.1, nh_5.2, pd_21⟩, Nat.le_of_ble_eq_true rfl⟩, kw_953, kw_954⟩
theorem kw_956 : Cond.methodLink RX7 272 yX7_readOdds ∈ Gw := gt_4 (i := 121) rfl rfl
theorem kw_959 : Cond.code yX7_readOdds cX7_readOdds 2 (some .boolean) ∈ Gw := gt_4 (i := 124) rfl rfl
theorem pd_26 : (parseMethodDescriptor "(LPlateVote$Mouth;)Z").map (fun d => d.parameters.length) = some 1 := by decide +kernel
theorem kw_958 : Cond.instanceMethod yX7_readOdds ∈ Gw := gt_4 (i := 123) rfl rfl
theorem kw_24 : Cond.selects (yX7_readOdds).cls yX7_readOdds yX7_readOdds ∈ Gw := gt_0 (i := 24) (q := (yX7_readOdds, 19)) rfl
theorem cw_X7_272 : CwV RX7 272 mX7_readOdds 1 := ⟨⟨kw_956, kw_121, kw_959, ⟨nh_9.1, nh_9.2, pd_26⟩, Nat.le_of_ble_eq_true rfl⟩, kw_958, kw_24⟩
theorem kw_960 : Cond.methodLink RX7 276 yX7_readRest ∈ Gw := gt_4 (i := 125) rfl rfl
theorem kw_963 : Cond.code yX7_readRest cX7_readRest 6 (some .boolean) ∈ Gw := gt_4 (i := 128) rfl rfl
theorem kw_962 : Cond.instanceMethod yX7_readRest ∈ Gw := gt_4 (i := 127) rfl rfl
theorem kw_25 : Cond.selects (yX7_readRest).cls yX7_readRest yX7_readRest ∈ Gw := gt_0 (i := 25) (q := (yX7_readRest, 19)) rfl
theorem cw_X7_276 : CwV RX7 276 mX7_readRest 1 := ⟨⟨kw_960, kw_121, kw_963, ⟨nh_9.1, nh_9.2, pd_26⟩, Nat.le_of_ble_eq_true rfl⟩, kw_962, kw_25⟩
theorem kw_964 : Cond.methodLink RX7 288 yX7_readSick ∈ Gw := gt_4 (i := 129) rfl rfl
theorem kw_967 : Cond.code yX7_readSick cX7_readSick 2 (some .boolean) ∈ Gw := gt_4 (i := 132) rfl rfl
theorem kw_966 : Cond.instanceMethod yX7_readSick ∈ Gw := gt_4 (i := 131) rfl rfl
theorem kw_26 : Cond.selects (yX7_readSick).cls yX7_readSick yX7_readSick ∈ Gw := gt_0 (i := 26) (q := (yX7_readSick, 19)) rfl
theorem cw_X7_288 : CwV RX7 288 mX7_readSick 1 := ⟨⟨kw_964, kw_121, kw_967, ⟨nh_9.1, nh_9.2, pd_26⟩, Nat.le_of_ble_eq_true rfl⟩, kw_966, kw_26⟩
theorem kw_968 : Cond.methodLink RX7 291 yX7_readLoses ∈ Gw := gt_4 (i := 133) rfl rfl
theorem kw_971 : Cond.code yX7_readLoses cX7_readLoses 2 (some .boolean) ∈ Gw := gt_4 (i := 136) rfl rfl
theorem kw_970 : Cond.instanceMethod yX7_readLoses ∈ Gw := gt_4 (i := 135) rfl rfl
theorem kw_27 : Cond.selects (yX7_readLoses).cls yX7_readLoses yX7_readLoses ∈ Gw := gt_0 (i := 27) (q := (yX7_readLoses, 19)) rfl
theorem cw_X7_291 : CwV RX7 291 mX7_readLoses 1 := ⟨⟨kw_968, kw_121, kw_971, ⟨nh_9.1, nh_9.2, pd_26⟩, Nat.le_of_ble_eq_true rfl⟩, kw_970, kw_27⟩
theorem kw_972 : Cond.methodLink RX7 294 yX7_readStay ∈ Gw := gt_4 (i := 137) rfl rfl
theorem kw_975 : Cond.code yX7_readStay cX7_readStay 3 (some .boolean) ∈ Gw := gt_4 (i := 140) rfl rfl
theorem pd_27 : (parseMethodDescriptor "(LPlateVote$Mouth;I)Z").map (fun d => d.parameters.length) = some 2 := by decide +kernel
theorem kw_974 : Cond.instanceMethod yX7_readStay ∈ Gw := gt_4 (i := 139) rfl rfl
theorem kw_28 : Cond.selects (yX7_readStay).cls yX7_readStay yX7_readStay ∈ Gw := gt_0 (i := 28) (q := (yX7_readStay, 19)) rfl
theorem cw_X7_294 : CwV RX7 294 mX7_readStay 2 := ⟨⟨kw_972, kw_121, kw_975, ⟨nh_9.1, nh_9.2, pd_27⟩, Nat.le_of_ble_eq_true rfl⟩, kw_974, kw_28⟩
theorem kw_976 : Cond.methodLink RX7 279 yX7_readExpression ∈ Gw := gt_4 (i := 141) rfl rfl
theorem kw_979 : Cond.code yX7_readExpression cX7_readExpression 3 (some .boolean) ∈ Gw := gt_4 (i := 144) rfl rfl
theorem kw_978 : Cond.instanceMethod yX7_readExpression ∈ Gw := gt_4 (i := 143) rfl rfl
theorem kw_29 : Cond.selects (yX7_readExpression).cls yX7_readExpression yX7_readExpression ∈ Gw := gt_0 (i := 29) (q := (yX7_readExpression, 19)) rfl
theorem cw_X7_279 : CwV RX7 279 mX7_readExpression 1 := ⟨⟨kw_976, kw_121, kw_979, ⟨nh_9.1, nh_9.2, pd_26⟩, Nat.le_of_ble_eq_true rfl⟩, kw_978, kw_29⟩
theorem kw_980 : Cond.methodLink RX7 321 yX7_goesOn ∈ Gw := gt_4 (i := 145) rfl rfl
theorem kw_983 : Cond.code yX7_goesOn cX7_goesOn 1 (some .boolean) ∈ Gw := gt_4 (i := 148) rfl rfl
theorem kw_982 : Cond.instanceMethod yX7_goesOn ∈ Gw := gt_4 (i := 147) rfl rfl
theorem kw_30 : Cond.selects (yX7_goesOn).cls yX7_goesOn yX7_goesOn ∈ Gw := gt_0 (i := 30) (q := (yX7_goesOn, 19)) rfl
theorem cw_X7_321 : CwV RX7 321 mX7_goesOn 0 := ⟨⟨kw_980, kw_121, kw_983, ⟨nh_9.1, nh_9.2, pd_24⟩, Nat.le_of_ble_eq_true rfl⟩, kw_982, kw_30⟩
theorem kw_984 : Cond.methodLink RX7 324 yX7_takePart ∈ Gw := gt_4 (i := 149) rfl rfl
theorem kw_987 : Cond.code yX7_takePart cX7_takePart 1 (some .boolean) ∈ Gw := gt_4 (i := 152) rfl rfl
theorem kw_986 : Cond.instanceMethod yX7_takePart ∈ Gw := gt_4 (i := 151) rfl rfl
theorem kw_31 : Cond.selects (yX7_takePart).cls yX7_takePart yX7_takePart ∈ Gw := gt_0 (i := 31) (q := (yX7_takePart, 19)) rfl
theorem cw_X7_324 : CwV RX7 324 mX7_takePart 0 := ⟨⟨kw_984, kw_121, kw_987, ⟨nh_9.1, nh_9.2, pd_24⟩, Nat.le_of_ble_eq_true rfl⟩, kw_986, kw_31⟩
theorem kw_988 : Cond.methodLink RX7 336 yX7_countKnot ∈ Gw := gt_4 (i := 153) rfl rfl
theorem kw_991 : Cond.code yX7_countKnot cX7_countKnot 1 (some .boolean) ∈ Gw := gt_4 (i := 156) rfl rfl
theorem kw_990 : Cond.instanceMethod yX7_countKnot ∈ Gw := gt_4 (i := 155) rfl rfl
theorem kw_32 : Cond.selects (yX7_countKnot).cls yX7_countKnot yX7_countKnot ∈ Gw := gt_0 (i := 32) (q := (yX7_countKnot, 19)) rfl
theorem cw_X7_336 : CwV RX7 336 mX7_countKnot 0 := ⟨⟨kw_988, kw_121, kw_991, ⟨nh_9.1, nh_9.2, pd_24⟩, Nat.le_of_ble_eq_true rfl⟩, kw_990, kw_32⟩
theorem kw_992 : Cond.methodLink RX7 339 yX7_addLeaf ∈ Gw := gt_4 (i := 157) rfl rfl
theorem kw_995 : Cond.code yX7_addLeaf cX7_addLeaf 1 (some .boolean) ∈ Gw := gt_4 (i := 160) rfl rfl
theorem kw_994 : Cond.instanceMethod yX7_addLeaf ∈ Gw := gt_4 (i := 159) rfl rfl
theorem kw_33 : Cond.selects (yX7_addLeaf).cls yX7_addLeaf yX7_addLeaf ∈ Gw := gt_0 (i := 33) (q := (yX7_addLeaf, 19)) rfl
theorem cw_X7_339 : CwV RX7 339 mX7_addLeaf 0 := ⟨⟨kw_992, kw_121, kw_995, ⟨nh_9.1, nh_9.2, pd_24⟩, Nat.le_of_ble_eq_true rfl⟩, kw_994, kw_33⟩
theorem kw_996 : Cond.methodLink RX7 349 yX1_add ∈ Gw := gt_4 (i := 161) rfl rfl
theorem kw_999 : Cond.code yX1_add cX1_add 3 none ∈ Gw := gt_4 (i := 164) rfl rfl
theorem kw_997 : Cond.instanceMethod yX1_add ∈ Gw := gt_4 (i := 162) rfl rfl
theorem kw_998 : Cond.selects (yX1_add).cls yX1_add yX1_add ∈ Gw := gt_4 (i := 163) rfl rfl
theorem cw_X7_349 : CwV RX7 349 mX1_add 2 := ⟨⟨kw_996, kw_119, kw_999, ⟨nh_4.1, nh_4.2, pd_6⟩, Nat.le_of_ble_eq_true rfl⟩, kw_997, kw_998⟩
theorem kw_1000 : Cond.methodLink RX7 342 yX7_defer ∈ Gw := gt_4 (i := 165) rfl rfl
theorem kw_1003 : Cond.code yX7_defer cX7_defer 2 (some .boolean) ∈ Gw := gt_4 (i := 168) rfl rfl
theorem kw_1002 : Cond.instanceMethod yX7_defer ∈ Gw := gt_4 (i := 167) rfl rfl
theorem kw_34 : Cond.selects (yX7_defer).cls yX7_defer yX7_defer ∈ Gw := gt_0 (i := 34) (q := (yX7_defer, 19)) rfl
theorem cw_X7_342 : CwV RX7 342 mX7_defer 1 := ⟨⟨kw_1000, kw_121, kw_1003, ⟨nh_9.1, nh_9.2, pd_7⟩, Nat.le_of_ble_eq_true rfl⟩, kw_1002, kw_34⟩
theorem kw_1004 : Cond.methodLink RX7 345 yX7_rankOnTop ∈ Gw := gt_4 (i := 169) rfl rfl
theorem kw_1007 : Cond.code yX7_rankOnTop cX7_rankOnTop 1 (some .int) ∈ Gw := gt_4 (i := 172) rfl rfl
theorem pd_28 : (parseMethodDescriptor "()I").map (fun d => d.parameters.length) = some 0 := by decide +kernel
theorem kw_1006 : Cond.instanceMethod yX7_rankOnTop ∈ Gw := gt_4 (i := 171) rfl rfl
theorem kw_35 : Cond.selects (yX7_rankOnTop).cls yX7_rankOnTop yX7_rankOnTop ∈ Gw := gt_0 (i := 35) (q := (yX7_rankOnTop, 19)) rfl
theorem cw_X7_345 : CwV RX7 345 mX7_rankOnTop 0 := ⟨⟨kw_1004, kw_121, kw_1007, ⟨nh_9.1, nh_9.2, pd_28⟩, Nat.le_of_ble_eq_true rfl⟩, kw_1006, kw_35⟩
theorem kw_1008 : Cond.methodLink RX7 353 yX7_rankOf ∈ Gw := gt_4 (i := 173) rfl rfl
theorem kw_1010 : Cond.code yX7_rankOf cX7_rankOf 1 (some .int) ∈ Gw := gt_4 (i := 175) rfl rfl
theorem kw_1009 : Cond.static yX7_rankOf ∈ Gw := gt_4 (i := 174) rfl rfl
theorem cw_X7_353 : CwS RX7 353 mX7_rankOf 1 := ⟨⟨kw_1008, kw_121, kw_1010, ⟨nh_9.1, nh_9.2, pd_22⟩, Nat.le_of_ble_eq_true rfl⟩, kw_1009⟩
theorem kw_1013 : Cond.methodLink RX7 327 yX7_takeSign ∈ Gw := gt_4 (i := 178) rfl rfl
theorem kw_1016 : Cond.code yX7_takeSign cX7_takeSign 2 (some .boolean) ∈ Gw := gt_4 (i := 181) rfl rfl
theorem kw_1015 : Cond.instanceMethod yX7_takeSign ∈ Gw := gt_4 (i := 180) rfl rfl
theorem kw_36 : Cond.selects (yX7_takeSign).cls yX7_takeSign yX7_takeSign ∈ Gw := gt_0 (i := 36) (q := (yX7_takeSign, 19)) rfl
theorem cw_X7_327 : CwV RX7 327 mX7_takeSign 0 := ⟨⟨kw_1013, kw_121, kw_1016, ⟨nh_9.1, nh_9.2, pd_24⟩, Nat.le_of_ble_eq_true rfl⟩, kw_1015, kw_36⟩
theorem kw_1017 : Cond.methodLink RX7 330 yX7_release ∈ Gw := gt_4 (i := 182) rfl rfl
theorem kw_1020 : Cond.code yX7_release cX7_release 2 none ∈ Gw := gt_4 (i := 185) rfl rfl
theorem kw_1019 : Cond.instanceMethod yX7_release ∈ Gw := gt_4 (i := 184) rfl rfl
theorem kw_37 : Cond.selects (yX7_release).cls yX7_release yX7_release ∈ Gw := gt_0 (i := 37) (q := (yX7_release, 19)) rfl
theorem cw_X7_330 : CwV RX7 330 mX7_release 1 := ⟨⟨kw_1017, kw_121, kw_1020, ⟨nh_9.1, nh_9.2, pd_21⟩, Nat.le_of_ble_eq_true rfl⟩, kw_1019, kw_37⟩
theorem kw_1021 : Cond.methodLink RX7 152 yX7_endLine ∈ Gw := gt_4 (i := 186) rfl rfl
theorem kw_1024 : Cond.code yX7_endLine cX7_endLine 1 (some .boolean) ∈ Gw := gt_4 (i := 189) rfl rfl
theorem kw_1023 : Cond.instanceMethod yX7_endLine ∈ Gw := gt_4 (i := 188) rfl rfl
theorem kw_38 : Cond.selects (yX7_endLine).cls yX7_endLine yX7_endLine ∈ Gw := gt_0 (i := 38) (q := (yX7_endLine, 19)) rfl
theorem cw_X7_152 : CwV RX7 152 mX7_endLine 0 := ⟨⟨kw_1021, kw_121, kw_1024, ⟨nh_9.1, nh_9.2, pd_24⟩, Nat.le_of_ble_eq_true rfl⟩, kw_1023, kw_38⟩
theorem kw_1025 : Cond.methodLink RX7 96 yX0_close ∈ Gw := gt_4 (i := 190) rfl rfl
theorem kw_1028 : Cond.code yX0_close cX0_close 3 none ∈ Gw := gt_4 (i := 193) rfl rfl
theorem kw_1026 : Cond.instanceMethod yX0_close ∈ Gw := gt_4 (i := 191) rfl rfl
theorem kw_1027 : Cond.selects (yX0_close).cls yX0_close yX0_close ∈ Gw := gt_4 (i := 192) rfl rfl
theorem cw_X7_96 : CwV RX7 96 mX0_close 0 := ⟨⟨kw_1025, kw_117, kw_1028, ⟨nh_2.1, nh_2.2, pd_1⟩, Nat.le_of_ble_eq_true rfl⟩, kw_1026, kw_1027⟩
theorem kw_1029 : Cond.methodLink RX11 110 yX5_clear ∈ Gw := gt_4 (i := 194) rfl rfl
theorem kw_1032 : Cond.code yX5_clear cX5_clear 1 none ∈ Gw := gt_4 (i := 197) rfl rfl
theorem kw_1030 : Cond.instanceMethod yX5_clear ∈ Gw := gt_4 (i := 195) rfl rfl
theorem kw_1031 : Cond.selects (yX5_clear).cls yX5_clear yX5_clear ∈ Gw := gt_4 (i := 196) rfl rfl
theorem cw_X11_110 : CwV RX11 110 mX5_clear 0 := ⟨⟨kw_1029, kw_131, kw_1032, ⟨nh_19.1, nh_19.2, pd_1⟩, Nat.le_of_ble_eq_true rfl⟩, kw_1030, kw_1031⟩
theorem kw_1033 : Cond.methodLink RL 31 yX11_fault ∈ Gw := gt_4 (i := 198) rfl rfl
theorem kw_1036 : Cond.code yX11_fault cX11_fault 2 (some .int) ∈ Gw := gt_4 (i := 201) rfl rfl
theorem kw_1034 : Cond.instanceMethod yX11_fault ∈ Gw := gt_4 (i := 199) rfl rfl
theorem kw_1035 : Cond.selects (yX11_fault).cls yX11_fault yX11_fault ∈ Gw := gt_4 (i := 200) rfl rfl
theorem cw_L_31 : CwV RL 31 mX11_fault 1 := ⟨⟨kw_1033, kw_116, kw_1036, ⟨nh_0.1, nh_0.2, pd_22⟩, Nat.le_of_ble_eq_true rfl⟩, kw_1034, kw_1035⟩
theorem kw_1037 : Cond.methodLink RL 35 yX11_named ∈ Gw := gt_4 (i := 202) rfl rfl
theorem kw_1040 : Cond.code yX11_named cX11_named 3 (some .int) ∈ Gw := gt_4 (i := 205) rfl rfl
theorem kw_1038 : Cond.instanceMethod yX11_named ∈ Gw := gt_4 (i := 203) rfl rfl
theorem kw_1039 : Cond.selects (yX11_named).cls yX11_named yX11_named ∈ Gw := gt_4 (i := 204) rfl rfl
theorem cw_L_35 : CwV RL 35 mX11_named 2 := ⟨⟨kw_1037, kw_116, kw_1040, ⟨nh_0.1, nh_0.2, pd_8⟩, Nat.le_of_ble_eq_true rfl⟩, kw_1038, kw_1039⟩
theorem kw_1041 : Cond.methodLink RX11 126 yX9_isleNamed ∈ Gw := gt_4 (i := 206) rfl rfl
theorem cw_X11_126 : CwV RX11 126 mX9_isleNamed 1 := ⟨⟨kw_1041, kw_118, kw_926, ⟨nh_3.1, nh_3.2, pd_22⟩, Nat.le_of_ble_eq_true rfl⟩, kw_924, kw_925⟩
theorem kw_1042 : Cond.methodLink RX11 132 yX0_mouthNamed ∈ Gw := gt_4 (i := 207) rfl rfl
theorem kw_1045 : Cond.code yX0_mouthNamed cX0_mouthNamed 3 (some .int) ∈ Gw := gt_4 (i := 210) rfl rfl
theorem kw_1043 : Cond.instanceMethod yX0_mouthNamed ∈ Gw := gt_4 (i := 208) rfl rfl
theorem kw_1044 : Cond.selects (yX0_mouthNamed).cls yX0_mouthNamed yX0_mouthNamed ∈ Gw := gt_4 (i := 209) rfl rfl
theorem cw_X11_132 : CwV RX11 132 mX0_mouthNamed 1 := ⟨⟨kw_1042, kw_117, kw_1045, ⟨nh_2.1, nh_2.2, pd_22⟩, Nat.le_of_ble_eq_true rfl⟩, kw_1043, kw_1044⟩
theorem kw_1046 : Cond.methodLink RX0 86 yX0_size ∈ Gw := gt_4 (i := 211) rfl rfl
theorem kw_1049 : Cond.code yX0_size cX0_size 1 (some .int) ∈ Gw := gt_4 (i := 214) rfl rfl
theorem kw_1047 : Cond.instanceMethod yX0_size ∈ Gw := gt_4 (i := 212) rfl rfl
theorem kw_1048 : Cond.selects (yX0_size).cls yX0_size yX0_size ∈ Gw := gt_4 (i := 213) rfl rfl
theorem cw_X0_86 : CwV RX0 86 mX0_size 0 := ⟨⟨kw_1046, kw_117, kw_1049, ⟨nh_2.1, nh_2.2, pd_28⟩, Nat.le_of_ble_eq_true rfl⟩, kw_1047, kw_1048⟩
theorem kw_1050 : Cond.methodLink RX0 80 Lib.Math.min.name ∈ Gw := gt_4 (i := 215) rfl rfl
theorem mw_X0_80 : Mw RX0 80 Lib.Math.min.name Lib.Math.min.code 2 (some .int) := ⟨kw_1050, kw_837, kw_133, kw_838⟩
theorem kw_1051 : Cond.methodLink RL 49 yX11_ship ∈ Gw := gt_4 (i := 216) rfl rfl
theorem kw_1054 : Cond.code yX11_ship cX11_ship 2 (some .int) ∈ Gw := gt_4 (i := 219) rfl rfl
theorem kw_1052 : Cond.instanceMethod yX11_ship ∈ Gw := gt_4 (i := 217) rfl rfl
theorem kw_1053 : Cond.selects (yX11_ship).cls yX11_ship yX11_ship ∈ Gw := gt_4 (i := 218) rfl rfl
theorem cw_L_49 : CwV RL 49 mX11_ship 1 := ⟨⟨kw_1051, kw_116, kw_1054, ⟨nh_0.1, nh_0.2, pd_22⟩, Nat.le_of_ble_eq_true rfl⟩, kw_1052, kw_1053⟩
theorem kw_1055 : Cond.methodLink RL 53 yX11_far ∈ Gw := gt_4 (i := 220) rfl rfl
theorem kw_1058 : Cond.code yX11_far cX11_far 3 (some .int) ∈ Gw := gt_4 (i := 223) rfl rfl
theorem kw_1056 : Cond.instanceMethod yX11_far ∈ Gw := gt_4 (i := 221) rfl rfl
theorem kw_1057 : Cond.selects (yX11_far).cls yX11_far yX11_far ∈ Gw := gt_4 (i := 222) rfl rfl
theorem cw_L_53 : CwV RL 53 mX11_far 2 := ⟨⟨kw_1055, kw_116, kw_1058, ⟨nh_0.1, nh_0.2, pd_8⟩, Nat.le_of_ble_eq_true rfl⟩, kw_1056, kw_1057⟩
theorem kw_1059 : Cond.methodLink RX11 185 yX9_isCell ∈ Gw := gt_4 (i := 224) rfl rfl
theorem cw_X11_185 : CwV RX11 185 mX9_isCell 1 := ⟨⟨kw_1059, kw_118, kw_332, ⟨nh_3.1, nh_3.2, pd_7⟩, Nat.le_of_ble_eq_true rfl⟩, kw_330, kw_331⟩
theorem kw_1060 : Cond.methodLink RX11 188 yX9_between ∈ Gw := gt_4 (i := 225) rfl rfl
theorem kw_1063 : Cond.code yX9_between cX9_between 3 (some .int) ∈ Gw := gt_4 (i := 228) rfl rfl
theorem kw_1061 : Cond.instanceMethod yX9_between ∈ Gw := gt_4 (i := 226) rfl rfl
theorem kw_1062 : Cond.selects (yX9_between).cls yX9_between yX9_between ∈ Gw := gt_4 (i := 227) rfl rfl
theorem cw_X11_188 : CwV RX11 188 mX9_between 2 := ⟨⟨kw_1060, kw_118, kw_1063, ⟨nh_3.1, nh_3.2, pd_8⟩, Nat.le_of_ble_eq_true rfl⟩, kw_1061, kw_1062⟩
theorem kw_1064 : Cond.methodLink RL 57 yX11_land ∈ Gw := gt_4 (i := 229) rfl rfl
theorem kw_1067 : Cond.code yX11_land cX11_land 2 (some .int) ∈ Gw := gt_4 (i := 232) rfl rfl
theorem kw_1065 : Cond.instanceMethod yX11_land ∈ Gw := gt_4 (i := 230) rfl rfl
theorem kw_1066 : Cond.selects (yX11_land).cls yX11_land yX11_land ∈ Gw := gt_4 (i := 231) rfl rfl
theorem cw_L_57 : CwV RL 57 mX11_land 1 := ⟨⟨kw_1064, kw_116, kw_1067, ⟨nh_0.1, nh_0.2, pd_22⟩, Nat.le_of_ble_eq_true rfl⟩, kw_1065, kw_1066⟩
theorem kw_1068 : Cond.methodLink RX11 192 yX9_isLand ∈ Gw := gt_4 (i := 233) rfl rfl
theorem cw_X11_192 : CwV RX11 192 mX9_isLand 1 := ⟨⟨kw_1068, kw_118, kw_906, ⟨nh_3.1, nh_3.2, pd_7⟩, Nat.le_of_ble_eq_true rfl⟩, kw_904, kw_905⟩
theorem kw_1069 : Cond.methodLink RL 61 yX11_wish ∈ Gw := gt_4 (i := 234) rfl rfl
theorem kw_1072 : Cond.code yX11_wish cX11_wish 4 (some .int) ∈ Gw := gt_4 (i := 237) rfl rfl
theorem kw_1070 : Cond.instanceMethod yX11_wish ∈ Gw := gt_4 (i := 235) rfl rfl
theorem kw_1071 : Cond.selects (yX11_wish).cls yX11_wish yX11_wish ∈ Gw := gt_4 (i := 236) rfl rfl
theorem cw_L_61 : CwV RL 61 mX11_wish 1 := ⟨⟨kw_1069, kw_116, kw_1072, ⟨nh_0.1, nh_0.2, pd_22⟩, Nat.le_of_ble_eq_true rfl⟩, kw_1070, kw_1071⟩
theorem kw_1073 : Cond.methodLink RX11 135 yX0_isMouth ∈ Gw := gt_4 (i := 238) rfl rfl
theorem kw_1076 : Cond.code yX0_isMouth cX0_isMouth 2 (some .boolean) ∈ Gw := gt_5 (i := 1) rfl rfl
theorem kw_1074 : Cond.instanceMethod yX0_isMouth ∈ Gw := gt_4 (i := 239) rfl rfl
theorem kw_1075 : Cond.selects (yX0_isMouth).cls yX0_isMouth yX0_isMouth ∈ Gw := gt_5 (i := 0) rfl rfl
theorem cw_X11_135 : CwV RX11 135 mX0_isMouth 1 := ⟨⟨kw_1073, kw_117, kw_1076, ⟨nh_2.1, nh_2.2, pd_7⟩, Nat.le_of_ble_eq_true rfl⟩, kw_1074, kw_1075⟩
theorem kw_1077 : Cond.methodLink RX11 198 yX11_mealIsNext ∈ Gw := gt_5 (i := 2) rfl rfl
theorem kw_1080 : Cond.code yX11_mealIsNext cX11_mealIsNext 1 (some .boolean) ∈ Gw := gt_5 (i := 5) rfl rfl
theorem kw_1079 : Cond.instanceMethod yX11_mealIsNext ∈ Gw := gt_5 (i := 4) rfl rfl
theorem kw_39 : Cond.selects (yX11_mealIsNext).cls yX11_mealIsNext yX11_mealIsNext ∈ Gw := gt_0 (i := 39) (q := (yX11_mealIsNext, 17)) rfl
theorem cw_X11_198 : CwV RX11 198 mX11_mealIsNext 0 := ⟨⟨kw_1077, kw_116, kw_1080, ⟨nh_0.1, nh_0.2, pd_24⟩, Nat.le_of_ble_eq_true rfl⟩, kw_1079, kw_39⟩
theorem kw_1081 : Cond.methodLink RX11 202 yX2_serve ∈ Gw := gt_5 (i := 6) rfl rfl
theorem kw_1084 : Cond.code yX2_serve cX2_serve 5 none ∈ Gw := gt_5 (i := 9) rfl rfl
theorem pd_29 : (parseMethodDescriptor "(LPlateVote$Voyage;I)V").map (fun d => d.parameters.length) = some 2 := by decide +kernel
theorem kw_1082 : Cond.instanceMethod yX2_serve ∈ Gw := gt_5 (i := 7) rfl rfl
theorem kw_1083 : Cond.selects (yX2_serve).cls yX2_serve yX2_serve ∈ Gw := gt_5 (i := 8) rfl rfl
theorem cw_X11_202 : CwV RX11 202 mX2_serve 2 := ⟨⟨kw_1081, kw_127, kw_1084, ⟨nh_13.1, nh_13.2, pd_29⟩, Nat.le_of_ble_eq_true rfl⟩, kw_1082, kw_1083⟩
theorem kw_1085 : Cond.methodLink RX2 79 yX0_size ∈ Gw := gt_5 (i := 10) rfl rfl
theorem cw_X2_79 : CwV RX2 79 mX0_size 0 := ⟨⟨kw_1085, kw_117, kw_1049, ⟨nh_2.1, nh_2.2, pd_28⟩, Nat.le_of_ble_eq_true rfl⟩, kw_1047, kw_1048⟩
theorem kw_1086 : Cond.methodLink RX2 102 yX2_isFed ∈ Gw := gt_5 (i := 11) rfl rfl
theorem kw_1089 : Cond.code yX2_isFed cX2_isFed 3 (some .boolean) ∈ Gw := gt_5 (i := 14) rfl rfl
theorem kw_1087 : Cond.instanceMethod yX2_isFed ∈ Gw := gt_5 (i := 12) rfl rfl
theorem kw_1088 : Cond.selects (yX2_isFed).cls yX2_isFed yX2_isFed ∈ Gw := gt_5 (i := 13) rfl rfl
theorem cw_X2_102 : CwV RX2 102 mX2_isFed 2 := ⟨⟨kw_1086, kw_127, kw_1089, ⟨nh_13.1, nh_13.2, pd_25⟩, Nat.le_of_ble_eq_true rfl⟩, kw_1087, kw_1088⟩
theorem kw_1090 : Cond.methodLink RX2 83 yX2_isAboard ∈ Gw := gt_5 (i := 15) rfl rfl
theorem kw_1093 : Cond.code yX2_isAboard cX2_isAboard 4 (some .boolean) ∈ Gw := gt_5 (i := 18) rfl rfl
theorem pd_30 : (parseMethodDescriptor "(LPlateVote$Voyage;I)Z").map (fun d => d.parameters.length) = some 2 := by decide +kernel
theorem kw_1091 : Cond.instanceMethod yX2_isAboard ∈ Gw := gt_5 (i := 16) rfl rfl
theorem kw_1092 : Cond.selects (yX2_isAboard).cls yX2_isAboard yX2_isAboard ∈ Gw := gt_5 (i := 17) rfl rfl
theorem cw_X2_83 : CwV RX2 83 mX2_isAboard 2 := ⟨⟨kw_1090, kw_127, kw_1093, ⟨nh_13.1, nh_13.2, pd_30⟩, Nat.le_of_ble_eq_true rfl⟩, kw_1091, kw_1092⟩
theorem kw_1094 : Cond.methodLink RX2 47 yX0_isMouth ∈ Gw := gt_5 (i := 19) rfl rfl
theorem cw_X2_47 : CwV RX2 47 mX0_isMouth 1 := ⟨⟨kw_1094, kw_117, kw_1076, ⟨nh_2.1, nh_2.2, pd_7⟩, Nat.le_of_ble_eq_true rfl⟩, kw_1074, kw_1075⟩
theorem kw_1095 : Cond.methodLink RX2 95 yX2_portion ∈ Gw := gt_5 (i := 20) rfl rfl
theorem kw_1098 : Cond.code yX2_portion cX2_portion 5 (some .int) ∈ Gw := gt_5 (i := 23) rfl rfl
theorem pd_31 : (parseMethodDescriptor "(LPlateVote$Voyage;I)I").map (fun d => d.parameters.length) = some 2 := by decide +kernel
theorem kw_1096 : Cond.instanceMethod yX2_portion ∈ Gw := gt_5 (i := 21) rfl rfl
theorem kw_1097 : Cond.selects (yX2_portion).cls yX2_portion yX2_portion ∈ Gw := gt_5 (i := 22) rfl rfl
theorem cw_X2_95 : CwV RX2 95 mX2_portion 2 := ⟨⟨kw_1095, kw_127, kw_1098, ⟨nh_13.1, nh_13.2, pd_31⟩, Nat.le_of_ble_eq_true rfl⟩, kw_1096, kw_1097⟩
theorem kw_1099 : Cond.methodLink RX2 106 Lib.Math.min.name ∈ Gw := gt_5 (i := 24) rfl rfl
theorem mw_X2_106 : Mw RX2 106 Lib.Math.min.name Lib.Math.min.code 2 (some .int) := ⟨kw_1099, kw_837, kw_133, kw_838⟩
theorem kw_1100 : Cond.methodLink RX11 209 yX2_wishOf ∈ Gw := gt_5 (i := 25) rfl rfl
theorem kw_1103 : Cond.code yX2_wishOf cX2_wishOf 13 (some .int) ∈ Gw := gt_5 (i := 28) rfl rfl
theorem pd_32 : (parseMethodDescriptor "(LPlateVote$Voyage;II)I").map (fun d => d.parameters.length) = some 3 := by decide +kernel
theorem kw_1101 : Cond.instanceMethod yX2_wishOf ∈ Gw := gt_5 (i := 26) rfl rfl
theorem kw_1102 : Cond.selects (yX2_wishOf).cls yX2_wishOf yX2_wishOf ∈ Gw := gt_5 (i := 27) rfl rfl
theorem cw_X11_209 : CwV RX11 209 mX2_wishOf 3 := ⟨⟨kw_1100, kw_127, kw_1103, ⟨nh_13.1, nh_13.2, pd_32⟩, Nat.le_of_ble_eq_true rfl⟩, kw_1101, kw_1102⟩
theorem kw_1104 : Cond.methodLink RX2 160 yX9_step ∈ Gw := gt_5 (i := 29) rfl rfl
theorem cw_X2_160 : CwV RX2 160 mX9_step 2 := ⟨⟨kw_1104, kw_118, kw_336, ⟨nh_3.1, nh_3.2, pd_8⟩, Nat.le_of_ble_eq_true rfl⟩, kw_334, kw_335⟩
theorem kw_1105 : Cond.methodLink RX2 163 yX9_isWater ∈ Gw := gt_5 (i := 30) rfl rfl
theorem cw_X2_163 : CwV RX2 163 mX9_isWater 1 := ⟨⟨kw_1105, kw_118, kw_328, ⟨nh_3.1, nh_3.2, pd_7⟩, Nat.le_of_ble_eq_true rfl⟩, kw_326, kw_327⟩
theorem kw_1106 : Cond.methodLink RX2 166 yX2_value ∈ Gw := gt_5 (i := 31) rfl rfl
theorem kw_1109 : Cond.code yX2_value cX2_value 7 (some .long) ∈ Gw := gt_5 (i := 34) rfl rfl
theorem pd_33 : (parseMethodDescriptor "(LPlateVote$Voyage;IIII)J").map (fun d => d.parameters.length) = some 5 := by decide +kernel
theorem kw_1107 : Cond.instanceMethod yX2_value ∈ Gw := gt_5 (i := 32) rfl rfl
theorem kw_1108 : Cond.selects (yX2_value).cls yX2_value yX2_value ∈ Gw := gt_5 (i := 33) rfl rfl
theorem cw_X2_166 : CwV RX2 166 mX2_value 5 := ⟨⟨kw_1106, kw_127, kw_1109, ⟨nh_13.1, nh_13.2, pd_33⟩, Nat.le_of_ble_eq_true rfl⟩, kw_1107, kw_1108⟩
theorem kw_1111 : Cond.methodLink RX2 128 yX9_fromBahia ∈ Gw := gt_5 (i := 36) rfl rfl
theorem kw_1114 : Cond.code yX9_fromBahia cX9_fromBahia 2 (some .int) ∈ Gw := gt_5 (i := 39) rfl rfl
theorem kw_1112 : Cond.instanceMethod yX9_fromBahia ∈ Gw := gt_5 (i := 37) rfl rfl
theorem kw_1113 : Cond.selects (yX9_fromBahia).cls yX9_fromBahia yX9_fromBahia ∈ Gw := gt_5 (i := 38) rfl rfl
theorem cw_X2_128 : CwV RX2 128 mX9_fromBahia 1 := ⟨⟨kw_1111, kw_118, kw_1114, ⟨nh_3.1, nh_3.2, pd_22⟩, Nat.le_of_ble_eq_true rfl⟩, kw_1112, kw_1113⟩
theorem kw_1115 : Cond.methodLink RX2 134 yX0_windAt ∈ Gw := gt_5 (i := 40) rfl rfl
theorem kw_1118 : Cond.code yX0_windAt cX0_windAt 2 (some .int) ∈ Gw := gt_5 (i := 43) rfl rfl
theorem kw_1116 : Cond.instanceMethod yX0_windAt ∈ Gw := gt_5 (i := 41) rfl rfl
theorem kw_1117 : Cond.selects (yX0_windAt).cls yX0_windAt yX0_windAt ∈ Gw := gt_5 (i := 42) rfl rfl
theorem cw_X2_134 : CwV RX2 134 mX0_windAt 1 := ⟨⟨kw_1115, kw_117, kw_1118, ⟨nh_2.1, nh_2.2, pd_22⟩, Nat.le_of_ble_eq_true rfl⟩, kw_1116, kw_1117⟩
theorem kw_1119 : Cond.methodLink RX2 146 yX1_work ∈ Gw := gt_5 (i := 44) rfl rfl
theorem kw_1122 : Cond.code yX1_work cX1_work 8 (some .long) ∈ Gw := gt_5 (i := 47) rfl rfl
theorem pd_34 : (parseMethodDescriptor "(II)J").map (fun d => d.parameters.length) = some 2 := by decide +kernel
theorem kw_1120 : Cond.instanceMethod yX1_work ∈ Gw := gt_5 (i := 45) rfl rfl
theorem kw_1121 : Cond.selects (yX1_work).cls yX1_work yX1_work ∈ Gw := gt_5 (i := 46) rfl rfl
theorem cw_X2_146 : CwV RX2 146 mX1_work 2 := ⟨⟨kw_1119, kw_119, kw_1122, ⟨nh_4.1, nh_4.2, pd_34⟩, Nat.le_of_ble_eq_true rfl⟩, kw_1120, kw_1121⟩
theorem kw_1123 : Cond.methodLink RX1 27 Lib.Math.max.name ∈ Gw := gt_5 (i := 48) rfl rfl
theorem mw_X1_27 : Mw RX1 27 Lib.Math.max.name Lib.Math.max.code 2 (some .int) := ⟨kw_1123, kw_840, kw_133, kw_841⟩
theorem kw_1125 : Cond.methodLink RX1 35 yX1_join ∈ Gw := gt_5 (i := 50) rfl rfl
theorem kw_1127 : Cond.code yX1_join cX1_join 5 (some .long) ∈ Gw := gt_5 (i := 52) rfl rfl
theorem pd_35 : (parseMethodDescriptor "(IJJ)J").map (fun d => d.parameters.length) = some 3 := by decide +kernel
theorem kw_1126 : Cond.static yX1_join ∈ Gw := gt_5 (i := 51) rfl rfl
theorem cw_X1_35 : CwS RX1 35 mX1_join 3 := ⟨⟨kw_1125, kw_119, kw_1127, ⟨nh_4.1, nh_4.2, pd_35⟩, Nat.le_of_ble_eq_true rfl⟩, kw_1126⟩
theorem kw_1128 : Cond.methodLink RX1 43 Lib.MathLoose.abs_long.x ∈ Gw := gt_5 (i := 53) rfl rfl
theorem kw_1129 : Cond.static Lib.MathLoose.abs_long.x ∈ Gw := gt_5 (i := 54) rfl rfl
theorem kw_1130 : Cond.code Lib.MathLoose.abs_long.x Lib.MathLoose.abs_long.code 2 (some .long) ∈ Gw := gt_5 (i := 55) rfl rfl
theorem mw_X1_43 : Mw RX1 43 Lib.MathLoose.abs_long.x Lib.MathLoose.abs_long.code 2 (some .long) := ⟨kw_1128, kw_1129, kw_133, kw_1130⟩
theorem kw_1133 : Cond.methodLink RL 65 yX11_law ∈ Gw := gt_5 (i := 58) rfl rfl
theorem kw_1136 : Cond.code yX11_law cX11_law 5 (some .long) ∈ Gw := gt_5 (i := 61) rfl rfl
theorem pd_36 : (parseMethodDescriptor "(III)J").map (fun d => d.parameters.length) = some 3 := by decide +kernel
theorem kw_1134 : Cond.instanceMethod yX11_law ∈ Gw := gt_5 (i := 59) rfl rfl
theorem kw_1135 : Cond.selects (yX11_law).cls yX11_law yX11_law ∈ Gw := gt_5 (i := 60) rfl rfl
theorem cw_L_65 : CwV RL 65 mX11_law 3 := ⟨⟨kw_1133, kw_116, kw_1136, ⟨nh_0.1, nh_0.2, pd_36⟩, Nat.le_of_ble_eq_true rfl⟩, kw_1134, kw_1135⟩
theorem kw_1137 : Cond.methodLink RX11 213 yX11_isCourse ∈ Gw := gt_5 (i := 62) rfl rfl
theorem kw_1139 : Cond.code yX11_isCourse cX11_isCourse 1 (some .boolean) ∈ Gw := gt_5 (i := 64) rfl rfl
theorem kw_1138 : Cond.static yX11_isCourse ∈ Gw := gt_5 (i := 63) rfl rfl
theorem cw_X11_213 : CwS RX11 213 mX11_isCourse 1 := ⟨⟨kw_1137, kw_116, kw_1139, ⟨nh_0.1, nh_0.2, pd_7⟩, Nat.le_of_ble_eq_true rfl⟩, kw_1138⟩
theorem kw_1141 : Cond.methodLink RX11 220 yX9_step ∈ Gw := gt_5 (i := 66) rfl rfl
theorem cw_X11_220 : CwV RX11 220 mX9_step 2 := ⟨⟨kw_1141, kw_118, kw_336, ⟨nh_3.1, nh_3.2, pd_8⟩, Nat.le_of_ble_eq_true rfl⟩, kw_334, kw_335⟩
theorem kw_1142 : Cond.methodLink RX11 223 yX2_value ∈ Gw := gt_5 (i := 67) rfl rfl
theorem cw_X11_223 : CwV RX11 223 mX2_value 5 := ⟨⟨kw_1142, kw_127, kw_1109, ⟨nh_13.1, nh_13.2, pd_33⟩, Nat.le_of_ble_eq_true rfl⟩, kw_1107, kw_1108⟩
theorem kw_1143 : Cond.methodLink RL 70 yX11_votes ∈ Gw := gt_5 (i := 68) rfl rfl
theorem kw_1146 : Cond.code yX11_votes cX11_votes 2 (some .int) ∈ Gw := gt_5 (i := 71) rfl rfl
theorem kw_1144 : Cond.instanceMethod yX11_votes ∈ Gw := gt_5 (i := 69) rfl rfl
theorem kw_1145 : Cond.selects (yX11_votes).cls yX11_votes yX11_votes ∈ Gw := gt_5 (i := 70) rfl rfl
theorem cw_L_70 : CwV RL 70 mX11_votes 1 := ⟨⟨kw_1143, kw_116, kw_1146, ⟨nh_0.1, nh_0.2, pd_22⟩, Nat.le_of_ble_eq_true rfl⟩, kw_1144, kw_1145⟩
theorem kw_1147 : Cond.methodLink RX11 227 yX2_poll ∈ Gw := gt_5 (i := 72) rfl rfl
theorem kw_1150 : Cond.code yX2_poll cX2_poll 4 none ∈ Gw := gt_5 (i := 75) rfl rfl
theorem pd_37 : (parseMethodDescriptor "(LPlateVote$Voyage;)V").map (fun d => d.parameters.length) = some 1 := by decide +kernel
theorem kw_1148 : Cond.instanceMethod yX2_poll ∈ Gw := gt_5 (i := 73) rfl rfl
theorem kw_1149 : Cond.selects (yX2_poll).cls yX2_poll yX2_poll ∈ Gw := gt_5 (i := 74) rfl rfl
theorem cw_X11_227 : CwV RX11 227 mX2_poll 1 := ⟨⟨kw_1147, kw_127, kw_1150, ⟨nh_13.1, nh_13.2, pd_37⟩, Nat.le_of_ble_eq_true rfl⟩, kw_1148, kw_1149⟩
theorem kw_1151 : Cond.methodLink RX2 170 yX2_wishOf ∈ Gw := gt_5 (i := 76) rfl rfl
theorem cw_X2_170 : CwV RX2 170 mX2_wishOf 3 := ⟨⟨kw_1151, kw_127, kw_1103, ⟨nh_13.1, nh_13.2, pd_32⟩, Nat.le_of_ble_eq_true rfl⟩, kw_1101, kw_1102⟩
theorem kw_1152 : Cond.methodLink RX2 174 yX2_give ∈ Gw := gt_5 (i := 77) rfl rfl
theorem kw_1155 : Cond.code yX2_give cX2_give 3 none ∈ Gw := gt_5 (i := 80) rfl rfl
theorem kw_1154 : Cond.instanceMethod yX2_give ∈ Gw := gt_5 (i := 79) rfl rfl
theorem kw_40 : Cond.selects (yX2_give).cls yX2_give yX2_give ∈ Gw := gt_0 (i := 40) (q := (yX2_give, 11)) rfl
theorem cw_X2_174 : CwV RX2 174 mX2_give 2 := ⟨⟨kw_1152, kw_127, kw_1155, ⟨nh_13.1, nh_13.2, pd_6⟩, Nat.le_of_ble_eq_true rfl⟩, kw_1154, kw_40⟩
theorem kw_1157 : Cond.methodLink RX2 181 yX9_fromIsle ∈ Gw := gt_5 (i := 82) rfl rfl
theorem kw_1160 : Cond.code yX9_fromIsle cX9_fromIsle 4 (some .int) ∈ Gw := gt_5 (i := 85) rfl rfl
theorem kw_1158 : Cond.instanceMethod yX9_fromIsle ∈ Gw := gt_5 (i := 83) rfl rfl
theorem kw_1159 : Cond.selects (yX9_fromIsle).cls yX9_fromIsle yX9_fromIsle ∈ Gw := gt_5 (i := 84) rfl rfl
theorem cw_X2_181 : CwV RX2 181 mX9_fromIsle 2 := ⟨⟨kw_1157, kw_118, kw_1160, ⟨nh_3.1, nh_3.2, pd_8⟩, Nat.le_of_ble_eq_true rfl⟩, kw_1158, kw_1159⟩
theorem kw_1161 : Cond.methodLink RX2 187 yX2_bribe ∈ Gw := gt_5 (i := 86) rfl rfl
theorem kw_1164 : Cond.code yX2_bribe cX2_bribe 7 (some .int) ∈ Gw := gt_5 (i := 89) rfl rfl
theorem kw_1163 : Cond.instanceMethod yX2_bribe ∈ Gw := gt_5 (i := 88) rfl rfl
theorem kw_41 : Cond.selects (yX2_bribe).cls yX2_bribe yX2_bribe ∈ Gw := gt_0 (i := 41) (q := (yX2_bribe, 11)) rfl
theorem cw_X2_187 : CwV RX2 187 mX2_bribe 2 := ⟨⟨kw_1161, kw_127, kw_1164, ⟨nh_13.1, nh_13.2, pd_31⟩, Nat.le_of_ble_eq_true rfl⟩, kw_1163, kw_41⟩
theorem kw_1165 : Cond.methodLink RL 74 yX11_fed ∈ Gw := gt_5 (i := 90) rfl rfl
theorem kw_1168 : Cond.code yX11_fed cX11_fed 2 (some .boolean) ∈ Gw := gt_5 (i := 93) rfl rfl
theorem kw_1166 : Cond.instanceMethod yX11_fed ∈ Gw := gt_5 (i := 91) rfl rfl
theorem kw_1167 : Cond.selects (yX11_fed).cls yX11_fed yX11_fed ∈ Gw := gt_5 (i := 92) rfl rfl
theorem cw_L_74 : CwV RL 74 mX11_fed 1 := ⟨⟨kw_1165, kw_116, kw_1168, ⟨nh_0.1, nh_0.2, pd_7⟩, Nat.le_of_ble_eq_true rfl⟩, kw_1166, kw_1167⟩
theorem kw_1169 : Cond.methodLink RL 79 yX11_truth ∈ Gw := gt_5 (i := 94) rfl rfl
theorem kw_1172 : Cond.code yX11_truth cX11_truth 2 (some .boolean) ∈ Gw := gt_5 (i := 97) rfl rfl
theorem kw_1170 : Cond.instanceMethod yX11_truth ∈ Gw := gt_5 (i := 95) rfl rfl
theorem kw_1171 : Cond.selects (yX11_truth).cls yX11_truth yX11_truth ∈ Gw := gt_5 (i := 96) rfl rfl
theorem cw_L_79 : CwV RL 79 mX11_truth 1 := ⟨⟨kw_1169, kw_116, kw_1172, ⟨nh_0.1, nh_0.2, pd_7⟩, Nat.le_of_ble_eq_true rfl⟩, kw_1170, kw_1171⟩
theorem kw_1173 : Cond.methodLink RL 83 yX11_meals ∈ Gw := gt_5 (i := 98) rfl rfl
theorem kw_1176 : Cond.code yX11_meals cX11_meals 3 (some .int) ∈ Gw := gt_5 (i := 101) rfl rfl
theorem kw_1174 : Cond.instanceMethod yX11_meals ∈ Gw := gt_5 (i := 99) rfl rfl
theorem kw_1175 : Cond.selects (yX11_meals).cls yX11_meals yX11_meals ∈ Gw := gt_5 (i := 100) rfl rfl
theorem cw_L_83 : CwV RL 83 mX11_meals 1 := ⟨⟨kw_1173, kw_116, kw_1176, ⟨nh_0.1, nh_0.2, pd_22⟩, Nat.le_of_ble_eq_true rfl⟩, kw_1174, kw_1175⟩
theorem kw_1177 : Cond.methodLink RX11 243 yX11_holdMeal ∈ Gw := gt_5 (i := 102) rfl rfl
theorem kw_1180 : Cond.code yX11_holdMeal cX11_holdMeal 3 none ∈ Gw := gt_5 (i := 105) rfl rfl
theorem kw_1179 : Cond.instanceMethod yX11_holdMeal ∈ Gw := gt_5 (i := 104) rfl rfl
theorem kw_42 : Cond.selects (yX11_holdMeal).cls yX11_holdMeal yX11_holdMeal ∈ Gw := gt_0 (i := 42) (q := (yX11_holdMeal, 17)) rfl
theorem cw_X11_243 : CwV RX11 243 mX11_holdMeal 0 := ⟨⟨kw_1177, kw_116, kw_1180, ⟨nh_0.1, nh_0.2, pd_1⟩, Nat.le_of_ble_eq_true rfl⟩, kw_1179, kw_42⟩
theorem kw_1181 : Cond.methodLink RX11 246 yX10_copyFrom ∈ Gw := gt_5 (i := 106) rfl rfl
theorem kw_1184 : Cond.code yX10_copyFrom cX10_copyFrom 3 none ∈ Gw := gt_5 (i := 109) rfl rfl
theorem kw_1182 : Cond.instanceMethod yX10_copyFrom ∈ Gw := gt_5 (i := 107) rfl rfl
theorem kw_1183 : Cond.selects (yX10_copyFrom).cls yX10_copyFrom yX10_copyFrom ∈ Gw := gt_5 (i := 108) rfl rfl
theorem cw_X11_246 : CwV RX11 246 mX10_copyFrom 1 := ⟨⟨kw_1181, kw_129, kw_1184, ⟨nh_17.1, nh_17.2, pd_37⟩, Nat.le_of_ble_eq_true rfl⟩, kw_1182, kw_1183⟩
theorem kw_1185 : Cond.methodLink RX11 249 Lib.Math.min.name ∈ Gw := gt_5 (i := 110) rfl rfl
theorem mw_X11_249 : Mw RX11 249 Lib.Math.min.name Lib.Math.min.code 2 (some .int) := ⟨kw_1185, kw_837, kw_133, kw_838⟩
theorem kw_1186 : Cond.methodLink RX11 254 yX2_hold ∈ Gw := gt_5 (i := 111) rfl rfl
theorem kw_1189 : Cond.code yX2_hold cX2_hold 4 (some .int) ∈ Gw := gt_5 (i := 114) rfl rfl
theorem kw_1187 : Cond.instanceMethod yX2_hold ∈ Gw := gt_5 (i := 112) rfl rfl
theorem kw_1188 : Cond.selects (yX2_hold).cls yX2_hold yX2_hold ∈ Gw := gt_5 (i := 113) rfl rfl
theorem cw_X11_254 : CwV RX11 254 mX2_hold 2 := ⟨⟨kw_1186, kw_127, kw_1189, ⟨nh_13.1, nh_13.2, pd_31⟩, Nat.le_of_ble_eq_true rfl⟩, kw_1187, kw_1188⟩
theorem kw_1190 : Cond.methodLink RX2 229 yX2_serve ∈ Gw := gt_5 (i := 115) rfl rfl
theorem cw_X2_229 : CwV RX2 229 mX2_serve 2 := ⟨⟨kw_1190, kw_127, kw_1084, ⟨nh_13.1, nh_13.2, pd_29⟩, Nat.le_of_ble_eq_true rfl⟩, kw_1082, kw_1083⟩
theorem kw_1191 : Cond.methodLink RX2 233 yX2_poll ∈ Gw := gt_5 (i := 116) rfl rfl
theorem cw_X2_233 : CwV RX2 233 mX2_poll 1 := ⟨⟨kw_1191, kw_127, kw_1150, ⟨nh_13.1, nh_13.2, pd_37⟩, Nat.le_of_ble_eq_true rfl⟩, kw_1148, kw_1149⟩
theorem kw_1192 : Cond.methodLink RX2 237 yX2_blow ∈ Gw := gt_5 (i := 117) rfl rfl
theorem kw_1195 : Cond.code yX2_blow cX2_blow 3 none ∈ Gw := gt_5 (i := 120) rfl rfl
theorem kw_1194 : Cond.instanceMethod yX2_blow ∈ Gw := gt_5 (i := 119) rfl rfl
theorem kw_43 : Cond.selects (yX2_blow).cls yX2_blow yX2_blow ∈ Gw := gt_0 (i := 43) (q := (yX2_blow, 11)) rfl
theorem cw_X2_237 : CwV RX2 237 mX2_blow 1 := ⟨⟨kw_1192, kw_127, kw_1195, ⟨nh_13.1, nh_13.2, pd_37⟩, Nat.le_of_ble_eq_true rfl⟩, kw_1194, kw_43⟩
theorem kw_1196 : Cond.methodLink RX2 211 yX10_draw ∈ Gw := gt_5 (i := 121) rfl rfl
theorem kw_1199 : Cond.code yX10_draw cX10_draw 1 (some .int) ∈ Gw := gt_5 (i := 124) rfl rfl
theorem kw_1197 : Cond.instanceMethod yX10_draw ∈ Gw := gt_5 (i := 122) rfl rfl
theorem kw_1198 : Cond.selects (yX10_draw).cls yX10_draw yX10_draw ∈ Gw := gt_5 (i := 123) rfl rfl
theorem cw_X2_211 : CwV RX2 211 mX10_draw 0 := ⟨⟨kw_1196, kw_129, kw_1199, ⟨nh_17.1, nh_17.2, pd_28⟩, Nat.le_of_ble_eq_true rfl⟩, kw_1197, kw_1198⟩
theorem kw_1204 : Cond.methodLink RX2 240 yX2_winner ∈ Gw := gt_5 (i := 129) rfl rfl
theorem kw_1207 : Cond.code yX2_winner cX2_winner 5 (some .int) ∈ Gw := gt_5 (i := 132) rfl rfl
theorem pd_38 : (parseMethodDescriptor "(LPlateVote$Voyage;)I").map (fun d => d.parameters.length) = some 1 := by decide +kernel
theorem kw_1205 : Cond.instanceMethod yX2_winner ∈ Gw := gt_5 (i := 130) rfl rfl
theorem kw_1206 : Cond.selects (yX2_winner).cls yX2_winner yX2_winner ∈ Gw := gt_5 (i := 131) rfl rfl
theorem cw_X2_240 : CwV RX2 240 mX2_winner 1 := ⟨⟨kw_1204, kw_127, kw_1207, ⟨nh_13.1, nh_13.2, pd_38⟩, Nat.le_of_ble_eq_true rfl⟩, kw_1205, kw_1206⟩
theorem kw_1208 : Cond.methodLink RX2 244 yX2_sail ∈ Gw := gt_5 (i := 133) rfl rfl
theorem kw_1211 : Cond.code yX2_sail cX2_sail 4 none ∈ Gw := gt_5 (i := 136) rfl rfl
theorem kw_1209 : Cond.instanceMethod yX2_sail ∈ Gw := gt_5 (i := 134) rfl rfl
theorem kw_1210 : Cond.selects (yX2_sail).cls yX2_sail yX2_sail ∈ Gw := gt_5 (i := 135) rfl rfl
theorem cw_X2_244 : CwV RX2 244 mX2_sail 2 := ⟨⟨kw_1208, kw_127, kw_1211, ⟨nh_13.1, nh_13.2, pd_29⟩, Nat.le_of_ble_eq_true rfl⟩, kw_1209, kw_1210⟩
theorem kw_1212 : Cond.methodLink RX2 217 yX2_comesTo ∈ Gw := gt_5 (i := 137) rfl rfl
theorem kw_1215 : Cond.code yX2_comesTo cX2_comesTo 4 (some .int) ∈ Gw := gt_5 (i := 140) rfl rfl
theorem kw_1213 : Cond.instanceMethod yX2_comesTo ∈ Gw := gt_5 (i := 138) rfl rfl
theorem kw_1214 : Cond.selects (yX2_comesTo).cls yX2_comesTo yX2_comesTo ∈ Gw := gt_5 (i := 139) rfl rfl
theorem cw_X2_217 : CwV RX2 217 mX2_comesTo 2 := ⟨⟨kw_1212, kw_127, kw_1215, ⟨nh_13.1, nh_13.2, pd_31⟩, Nat.le_of_ble_eq_true rfl⟩, kw_1213, kw_1214⟩
theorem kw_1216 : Cond.methodLink RL 87 yX11_log ∈ Gw := gt_5 (i := 141) rfl rfl
theorem kw_1219 : Cond.code yX11_log cX11_log 3 (some .int) ∈ Gw := gt_5 (i := 144) rfl rfl
theorem kw_1217 : Cond.instanceMethod yX11_log ∈ Gw := gt_5 (i := 142) rfl rfl
theorem kw_1218 : Cond.selects (yX11_log).cls yX11_log yX11_log ∈ Gw := gt_5 (i := 143) rfl rfl
theorem cw_L_87 : CwV RL 87 mX11_log 2 := ⟨⟨kw_1216, kw_116, kw_1219, ⟨nh_0.1, nh_0.2, pd_8⟩, Nat.le_of_ble_eq_true rfl⟩, kw_1217, kw_1218⟩
theorem kw_1220 : Cond.methodLink RX11 273 yX11_isGone ∈ Gw := gt_5 (i := 145) rfl rfl
theorem kw_1223 : Cond.code yX11_isGone cX11_isGone 2 (some .boolean) ∈ Gw := gt_5 (i := 148) rfl rfl
theorem kw_1222 : Cond.instanceMethod yX11_isGone ∈ Gw := gt_5 (i := 147) rfl rfl
theorem kw_44 : Cond.selects (yX11_isGone).cls yX11_isGone yX11_isGone ∈ Gw := gt_0 (i := 44) (q := (yX11_isGone, 17)) rfl
theorem cw_X11_273 : CwV RX11 273 mX11_isGone 1 := ⟨⟨kw_1220, kw_116, kw_1223, ⟨nh_0.1, nh_0.2, pd_7⟩, Nat.le_of_ble_eq_true rfl⟩, kw_1222, kw_44⟩
theorem kw_1224 : Cond.methodLink RL 91 yX11_plan ∈ Gw := gt_5 (i := 149) rfl rfl
theorem kw_1227 : Cond.code yX11_plan cX11_plan 3 (some .int) ∈ Gw := gt_5 (i := 152) rfl rfl
theorem kw_1225 : Cond.instanceMethod yX11_plan ∈ Gw := gt_5 (i := 150) rfl rfl
theorem kw_1226 : Cond.selects (yX11_plan).cls yX11_plan yX11_plan ∈ Gw := gt_5 (i := 151) rfl rfl
theorem cw_L_91 : CwV RL 91 mX11_plan 2 := ⟨⟨kw_1224, kw_116, kw_1227, ⟨nh_0.1, nh_0.2, pd_8⟩, Nat.le_of_ble_eq_true rfl⟩, kw_1225, kw_1226⟩
theorem kw_1228 : Cond.methodLink RX11 276 yX6_find ∈ Gw := gt_5 (i := 153) rfl rfl
theorem kw_1231 : Cond.code yX6_find cX6_find 3 none ∈ Gw := gt_5 (i := 156) rfl rfl
theorem kw_1229 : Cond.instanceMethod yX6_find ∈ Gw := gt_5 (i := 154) rfl rfl
theorem kw_1230 : Cond.selects (yX6_find).cls yX6_find yX6_find ∈ Gw := gt_5 (i := 155) rfl rfl
theorem cw_X11_276 : CwV RX11 276 mX6_find 2 := ⟨⟨kw_1228, kw_128, kw_1231, ⟨nh_15.1, nh_15.2, pd_29⟩, Nat.le_of_ble_eq_true rfl⟩, kw_1229, kw_1230⟩
theorem kw_1232 : Cond.methodLink RX6 56 yX10_copyFrom ∈ Gw := gt_5 (i := 157) rfl rfl
theorem cw_X6_56 : CwV RX6 56 mX10_copyFrom 1 := ⟨⟨kw_1232, kw_129, kw_1184, ⟨nh_17.1, nh_17.2, pd_37⟩, Nat.le_of_ble_eq_true rfl⟩, kw_1182, kw_1183⟩
theorem kw_1233 : Cond.methodLink RX6 60 yX6_search ∈ Gw := gt_5 (i := 158) rfl rfl
theorem kw_1236 : Cond.code yX6_search cX6_search 9 none ∈ Gw := gt_5 (i := 161) rfl rfl
theorem pd_39 : (parseMethodDescriptor "(III)V").map (fun d => d.parameters.length) = some 3 := by decide +kernel
theorem kw_1235 : Cond.instanceMethod yX6_search ∈ Gw := gt_5 (i := 160) rfl rfl
theorem kw_45 : Cond.selects (yX6_search).cls yX6_search yX6_search ∈ Gw := gt_0 (i := 45) (q := (yX6_search, 6)) rfl
theorem cw_X6_60 : CwV RX6 60 mX6_search 3 := ⟨⟨kw_1233, kw_128, kw_1236, ⟨nh_15.1, nh_15.2, pd_39⟩, Nat.le_of_ble_eq_true rfl⟩, kw_1235, kw_45⟩
theorem kw_1237 : Cond.methodLink RX6 68 yX6_isTooFar ∈ Gw := gt_5 (i := 162) rfl rfl
theorem kw_1240 : Cond.code yX6_isTooFar cX6_isTooFar 4 (some .boolean) ∈ Gw := gt_5 (i := 165) rfl rfl
theorem kw_1239 : Cond.instanceMethod yX6_isTooFar ∈ Gw := gt_5 (i := 164) rfl rfl
theorem kw_46 : Cond.selects (yX6_isTooFar).cls yX6_isTooFar yX6_isTooFar ∈ Gw := gt_0 (i := 46) (q := (yX6_isTooFar, 6)) rfl
theorem cw_X6_68 : CwV RX6 68 mX6_isTooFar 2 := ⟨⟨kw_1237, kw_128, kw_1240, ⟨nh_15.1, nh_15.2, pd_30⟩, Nat.le_of_ble_eq_true rfl⟩, kw_1239, kw_46⟩
theorem kw_1241 : Cond.methodLink RX6 107 yX9_isWater ∈ Gw := gt_5 (i := 166) rfl rfl
theorem cw_X6_107 : CwV RX6 107 mX9_isWater 1 := ⟨⟨kw_1241, kw_118, kw_328, ⟨nh_3.1, nh_3.2, pd_7⟩, Nat.le_of_ble_eq_true rfl⟩, kw_326, kw_327⟩
theorem kw_1242 : Cond.methodLink RX6 111 yX9_fromBahia ∈ Gw := gt_5 (i := 167) rfl rfl
theorem cw_X6_111 : CwV RX6 111 mX9_fromBahia 1 := ⟨⟨kw_1242, kw_118, kw_1114, ⟨nh_3.1, nh_3.2, pd_22⟩, Nat.le_of_ble_eq_true rfl⟩, kw_1112, kw_1113⟩
theorem kw_1243 : Cond.methodLink RX6 72 yX2_hungry ∈ Gw := gt_5 (i := 168) rfl rfl
theorem kw_1246 : Cond.code yX2_hungry cX2_hungry 4 (some .int) ∈ Gw := gt_5 (i := 171) rfl rfl
theorem kw_1244 : Cond.instanceMethod yX2_hungry ∈ Gw := gt_5 (i := 169) rfl rfl
theorem kw_1245 : Cond.selects (yX2_hungry).cls yX2_hungry yX2_hungry ∈ Gw := gt_5 (i := 170) rfl rfl
theorem cw_X6_72 : CwV RX6 72 mX2_hungry 1 := ⟨⟨kw_1243, kw_127, kw_1246, ⟨nh_13.1, nh_13.2, pd_38⟩, Nat.le_of_ble_eq_true rfl⟩, kw_1244, kw_1245⟩
theorem kw_1247 : Cond.methodLink RX6 76 yX2_openPage ∈ Gw := gt_5 (i := 172) rfl rfl
theorem kw_1250 : Cond.code yX2_openPage cX2_openPage 3 none ∈ Gw := gt_5 (i := 175) rfl rfl
theorem kw_1248 : Cond.instanceMethod yX2_openPage ∈ Gw := gt_5 (i := 173) rfl rfl
theorem kw_1249 : Cond.selects (yX2_openPage).cls yX2_openPage yX2_openPage ∈ Gw := gt_5 (i := 174) rfl rfl
theorem cw_X6_76 : CwV RX6 76 mX2_openPage 1 := ⟨⟨kw_1247, kw_127, kw_1250, ⟨nh_13.1, nh_13.2, pd_21⟩, Nat.le_of_ble_eq_true rfl⟩, kw_1248, kw_1249⟩
theorem kw_1251 : Cond.methodLink RX2 150 yX2_usePage ∈ Gw := gt_5 (i := 176) rfl rfl
theorem kw_1254 : Cond.code yX2_usePage cX2_usePage 2 none ∈ Gw := gt_5 (i := 179) rfl rfl
theorem kw_1252 : Cond.instanceMethod yX2_usePage ∈ Gw := gt_5 (i := 177) rfl rfl
theorem kw_1253 : Cond.selects (yX2_usePage).cls yX2_usePage yX2_usePage ∈ Gw := gt_5 (i := 178) rfl rfl
theorem cw_X2_150 : CwV RX2 150 mX2_usePage 1 := ⟨⟨kw_1251, kw_127, kw_1254, ⟨nh_13.1, nh_13.2, pd_21⟩, Nat.le_of_ble_eq_true rfl⟩, kw_1252, kw_1253⟩
theorem kw_1255 : Cond.methodLink RX2 154 Lib.Math.max.name ∈ Gw := gt_5 (i := 180) rfl rfl
theorem mw_X2_154 : Mw RX2 154 Lib.Math.max.name Lib.Math.max.code 2 (some .int) := ⟨kw_1255, kw_840, kw_133, kw_841⟩
theorem kw_1256 : Cond.methodLink RX6 64 yX2_usePage ∈ Gw := gt_5 (i := 181) rfl rfl
theorem cw_X6_64 : CwV RX6 64 mX2_usePage 1 := ⟨⟨kw_1256, kw_127, kw_1254, ⟨nh_13.1, nh_13.2, pd_21⟩, Nat.le_of_ble_eq_true rfl⟩, kw_1252, kw_1253⟩
theorem kw_1257 : Cond.methodLink RX6 79 yX2_serve ∈ Gw := gt_5 (i := 182) rfl rfl
theorem cw_X6_79 : CwV RX6 79 mX2_serve 2 := ⟨⟨kw_1257, kw_127, kw_1084, ⟨nh_13.1, nh_13.2, pd_29⟩, Nat.le_of_ble_eq_true rfl⟩, kw_1082, kw_1083⟩
theorem kw_1258 : Cond.methodLink RX6 86 yX6_isWorse ∈ Gw := gt_5 (i := 183) rfl rfl
theorem kw_1261 : Cond.code yX6_isWorse cX6_isWorse 3 (some .boolean) ∈ Gw := gt_5 (i := 186) rfl rfl
theorem kw_1260 : Cond.instanceMethod yX6_isWorse ∈ Gw := gt_5 (i := 185) rfl rfl
theorem kw_47 : Cond.selects (yX6_isWorse).cls yX6_isWorse yX6_isWorse ∈ Gw := gt_0 (i := 47) (q := (yX6_isWorse, 6)) rfl
theorem cw_X6_86 : CwV RX6 86 mX6_isWorse 2 := ⟨⟨kw_1258, kw_128, kw_1261, ⟨nh_15.1, nh_15.2, pd_25⟩, Nat.le_of_ble_eq_true rfl⟩, kw_1260, kw_47⟩
theorem kw_1262 : Cond.methodLink RX6 90 yX2_poll ∈ Gw := gt_5 (i := 187) rfl rfl
theorem cw_X6_90 : CwV RX6 90 mX2_poll 1 := ⟨⟨kw_1262, kw_127, kw_1150, ⟨nh_13.1, nh_13.2, pd_37⟩, Nat.le_of_ble_eq_true rfl⟩, kw_1148, kw_1149⟩
theorem kw_1263 : Cond.methodLink RX6 93 yX2_winner ∈ Gw := gt_5 (i := 188) rfl rfl
theorem cw_X6_93 : CwV RX6 93 mX2_winner 1 := ⟨⟨kw_1263, kw_127, kw_1207, ⟨nh_13.1, nh_13.2, pd_38⟩, Nat.le_of_ble_eq_true rfl⟩, kw_1205, kw_1206⟩
theorem kw_1264 : Cond.methodLink RX6 96 yX2_comesTo ∈ Gw := gt_5 (i := 189) rfl rfl
theorem cw_X6_96 : CwV RX6 96 mX2_comesTo 2 := ⟨⟨kw_1264, kw_127, kw_1215, ⟨nh_13.1, nh_13.2, pd_31⟩, Nat.le_of_ble_eq_true rfl⟩, kw_1213, kw_1214⟩
theorem kw_1265 : Cond.methodLink RX6 100 yX6_take ∈ Gw := gt_5 (i := 190) rfl rfl
theorem kw_1268 : Cond.code yX6_take cX6_take 4 none ∈ Gw := gt_5 (i := 193) rfl rfl
theorem kw_1267 : Cond.instanceMethod yX6_take ∈ Gw := gt_5 (i := 192) rfl rfl
theorem kw_48 : Cond.selects (yX6_take).cls yX6_take yX6_take ∈ Gw := gt_0 (i := 48) (q := (yX6_take, 6)) rfl
theorem cw_X6_100 : CwV RX6 100 mX6_take 2 := ⟨⟨kw_1265, kw_128, kw_1268, ⟨nh_15.1, nh_15.2, pd_6⟩, Nat.le_of_ble_eq_true rfl⟩, kw_1267, kw_48⟩
theorem kw_1269 : Cond.methodLink RX6 104 yX2_sail ∈ Gw := gt_5 (i := 194) rfl rfl
theorem cw_X6_104 : CwV RX6 104 mX2_sail 2 := ⟨⟨kw_1269, kw_127, kw_1211, ⟨nh_13.1, nh_13.2, pd_29⟩, Nat.le_of_ble_eq_true rfl⟩, kw_1209, kw_1210⟩
theorem kw_1270 : Cond.methodLink RL 95 yX11_power ∈ Gw := gt_5 (i := 195) rfl rfl
theorem kw_1273 : Cond.code yX11_power cX11_power 5 (some .int) ∈ Gw := gt_5 (i := 198) rfl rfl
theorem kw_1271 : Cond.instanceMethod yX11_power ∈ Gw := gt_5 (i := 196) rfl rfl
theorem kw_1272 : Cond.selects (yX11_power).cls yX11_power yX11_power ∈ Gw := gt_5 (i := 197) rfl rfl
theorem cw_L_95 : CwV RL 95 mX11_power 2 := ⟨⟨kw_1270, kw_116, kw_1273, ⟨nh_0.1, nh_0.2, pd_8⟩, Nat.le_of_ble_eq_true rfl⟩, kw_1271, kw_1272⟩
theorem kw_1274 : Cond.methodLink RX11 146 yX2_isAboard ∈ Gw := gt_5 (i := 199) rfl rfl
theorem cw_X11_146 : CwV RX11 146 mX2_isAboard 2 := ⟨⟨kw_1274, kw_127, kw_1093, ⟨nh_13.1, nh_13.2, pd_30⟩, Nat.le_of_ble_eq_true rfl⟩, kw_1091, kw_1092⟩
theorem kw_1275 : Cond.methodLink RX11 288 yX2_aboard ∈ Gw := gt_5 (i := 200) rfl rfl
theorem kw_1278 : Cond.code yX2_aboard cX2_aboard 4 (some .int) ∈ Gw := gt_5 (i := 203) rfl rfl
theorem kw_1276 : Cond.instanceMethod yX2_aboard ∈ Gw := gt_5 (i := 201) rfl rfl
theorem kw_1277 : Cond.selects (yX2_aboard).cls yX2_aboard yX2_aboard ∈ Gw := gt_5 (i := 202) rfl rfl
theorem cw_X11_288 : CwV RX11 288 mX2_aboard 1 := ⟨⟨kw_1275, kw_127, kw_1278, ⟨nh_13.1, nh_13.2, pd_38⟩, Nat.le_of_ble_eq_true rfl⟩, kw_1276, kw_1277⟩
theorem kw_1281 : Cond.methodLink RX11 295 yX2_ordersDecidedBy ∈ Gw := gt_5 (i := 206) rfl rfl
theorem kw_1284 : Cond.code yX2_ordersDecidedBy cX2_ordersDecidedBy 11 (some .int) ∈ Gw := gt_5 (i := 209) rfl rfl
theorem kw_1282 : Cond.instanceMethod yX2_ordersDecidedBy ∈ Gw := gt_5 (i := 207) rfl rfl
theorem kw_1283 : Cond.selects (yX2_ordersDecidedBy).cls yX2_ordersDecidedBy yX2_ordersDecidedBy ∈ Gw := gt_5 (i := 208) rfl rfl
theorem cw_X11_295 : CwV RX11 295 mX2_ordersDecidedBy 2 := ⟨⟨kw_1281, kw_127, kw_1284, ⟨nh_13.1, nh_13.2, pd_31⟩, Nat.le_of_ble_eq_true rfl⟩, kw_1282, kw_1283⟩
theorem kw_1285 : Cond.methodLink RX2 247 yJ6_bitCount_0f7a4 ∈ Gw := gt_5 (i := 210) rfl rfl
theorem kw_139 : Cond.initialized (yJ6_bitCount_0f7a4).cls ∈ Gw := gt_1 (i := 24) rfl rfl
theorem kw_1287 : Cond.code yJ6_bitCount_0f7a4 cJ6_bitCount_0f7a4 1 (some .int) ∈ Gw := gt_5 (i := 212) rfl rfl
theorem nh_40 : "java/lang/Integer" ≠ "java/lang/invoke/MethodHandle" ∧ "java/lang/Integer" ≠ "java/lang/invoke/VarHandle" := by decide +kernel
theorem kw_1286 : Cond.static yJ6_bitCount_0f7a4 ∈ Gw := gt_5 (i := 211) rfl rfl
theorem cw_X2_247 : CwS RX2 247 mJ6_bitCount_0f7a4 1 := ⟨⟨kw_1285, kw_139, kw_1287, ⟨nh_40.1, nh_40.2, pd_22⟩, Nat.le_of_ble_eq_true rfl⟩, kw_1286⟩
theorem kw_1292 : Cond.methodLink RX11 298 yX11_part ∈ Gw := gt_5 (i := 217) rfl rfl
theorem kw_1294 : Cond.code yX11_part cX11_part 7 (some .int) ∈ Gw := gt_5 (i := 219) rfl rfl
theorem pd_41 : (parseMethodDescriptor "(III)I").map (fun d => d.parameters.length) = some 3 := by decide +kernel
theorem kw_1293 : Cond.static yX11_part ∈ Gw := gt_5 (i := 218) rfl rfl
theorem cw_X11_298 : CwS RX11 298 mX11_part 3 := ⟨⟨kw_1292, kw_116, kw_1294, ⟨nh_0.1, nh_0.2, pd_41⟩, Nat.le_of_ble_eq_true rfl⟩, kw_1293⟩
theorem kw_1295 : Cond.methodLink RL 99 yX11_taken ∈ Gw := gt_5 (i := 220) rfl rfl
theorem kw_1298 : Cond.code yX11_taken cX11_taken 3 (some .int) ∈ Gw := gt_5 (i := 223) rfl rfl
theorem kw_1296 : Cond.instanceMethod yX11_taken ∈ Gw := gt_5 (i := 221) rfl rfl
theorem kw_1297 : Cond.selects (yX11_taken).cls yX11_taken yX11_taken ∈ Gw := gt_5 (i := 222) rfl rfl
theorem cw_L_99 : CwV RL 99 mX11_taken 2 := ⟨⟨kw_1295, kw_116, kw_1298, ⟨nh_0.1, nh_0.2, pd_8⟩, Nat.le_of_ble_eq_true rfl⟩, kw_1296, kw_1297⟩
theorem kw_1299 : Cond.methodLink RX11 302 yX11_note ∈ Gw := gt_5 (i := 224) rfl rfl
theorem kw_1302 : Cond.code yX11_note cX11_note 4 (some .int) ∈ Gw := gt_5 (i := 227) rfl rfl
theorem kw_1301 : Cond.instanceMethod yX11_note ∈ Gw := gt_5 (i := 226) rfl rfl
theorem kw_49 : Cond.selects (yX11_note).cls yX11_note yX11_note ∈ Gw := gt_0 (i := 49) (q := (yX11_note, 17)) rfl
theorem cw_X11_302 : CwV RX11 302 mX11_note 3 := ⟨⟨kw_1299, kw_116, kw_1302, ⟨nh_0.1, nh_0.2, pd_41⟩, Nat.le_of_ble_eq_true rfl⟩, kw_1301, kw_49⟩
theorem kw_1303 : Cond.methodLink RX11 308 yX5_add ∈ Gw := gt_5 (i := 228) rfl rfl
theorem kw_1306 : Cond.code yX5_add cX5_add 4 (some .int) ∈ Gw := gt_5 (i := 231) rfl rfl
theorem kw_1304 : Cond.instanceMethod yX5_add ∈ Gw := gt_5 (i := 229) rfl rfl
theorem kw_1305 : Cond.selects (yX5_add).cls yX5_add yX5_add ∈ Gw := gt_5 (i := 230) rfl rfl
theorem cw_X11_308 : CwV RX11 308 mX5_add 3 := ⟨⟨kw_1303, kw_131, kw_1306, ⟨nh_19.1, nh_19.2, pd_41⟩, Nat.le_of_ble_eq_true rfl⟩, kw_1304, kw_1305⟩
theorem kw_1307 : Cond.methodLink RL 103 yX11_washed ∈ Gw := gt_5 (i := 232) rfl rfl
theorem kw_1310 : Cond.code yX11_washed cX11_washed 3 (some .int) ∈ Gw := gt_5 (i := 235) rfl rfl
theorem kw_1308 : Cond.instanceMethod yX11_washed ∈ Gw := gt_5 (i := 233) rfl rfl
theorem kw_1309 : Cond.selects (yX11_washed).cls yX11_washed yX11_washed ∈ Gw := gt_5 (i := 234) rfl rfl
theorem cw_L_103 : CwV RL 103 mX11_washed 2 := ⟨⟨kw_1307, kw_116, kw_1310, ⟨nh_0.1, nh_0.2, pd_8⟩, Nat.le_of_ble_eq_true rfl⟩, kw_1308, kw_1309⟩
theorem kw_1311 : Cond.methodLink RL 107 yX11_strike ∈ Gw := gt_5 (i := 236) rfl rfl
theorem kw_1314 : Cond.code yX11_strike cX11_strike 2 (some .int) ∈ Gw := gt_5 (i := 239) rfl rfl
theorem kw_1312 : Cond.instanceMethod yX11_strike ∈ Gw := gt_5 (i := 237) rfl rfl
theorem kw_1313 : Cond.selects (yX11_strike).cls yX11_strike yX11_strike ∈ Gw := gt_5 (i := 238) rfl rfl
theorem cw_L_107 : CwV RL 107 mX11_strike 1 := ⟨⟨kw_1311, kw_116, kw_1314, ⟨nh_0.1, nh_0.2, pd_22⟩, Nat.le_of_ble_eq_true rfl⟩, kw_1312, kw_1313⟩
theorem kw_1315 : Cond.methodLink RL 111 yX11_known ∈ Gw := gt_6 (i := 0) rfl rfl
theorem kw_1318 : Cond.code yX11_known cX11_known 2 (some .boolean) ∈ Gw := gt_6 (i := 3) rfl rfl
theorem kw_1316 : Cond.instanceMethod yX11_known ∈ Gw := gt_6 (i := 1) rfl rfl
theorem kw_1317 : Cond.selects (yX11_known).cls yX11_known yX11_known ∈ Gw := gt_6 (i := 2) rfl rfl
theorem cw_L_111 : CwV RL 111 mX11_known 1 := ⟨⟨kw_1315, kw_116, kw_1318, ⟨nh_0.1, nh_0.2, pd_7⟩, Nat.le_of_ble_eq_true rfl⟩, kw_1316, kw_1317⟩
theorem kw_1319 : Cond.methodLink RL 115 yX11_fits ∈ Gw := gt_6 (i := 4) rfl rfl
theorem kw_1322 : Cond.code yX11_fits cX11_fits 1 (some .int) ∈ Gw := gt_6 (i := 7) rfl rfl
theorem kw_1320 : Cond.instanceMethod yX11_fits ∈ Gw := gt_6 (i := 5) rfl rfl
theorem kw_1321 : Cond.selects (yX11_fits).cls yX11_fits yX11_fits ∈ Gw := gt_6 (i := 6) rfl rfl
theorem cw_L_115 : CwV RL 115 mX11_fits 0 := ⟨⟨kw_1319, kw_116, kw_1322, ⟨nh_0.1, nh_0.2, pd_28⟩, Nat.le_of_ble_eq_true rfl⟩, kw_1320, kw_1321⟩
theorem kw_1323 : Cond.methodLink RX11 314 yX11_fitting ∈ Gw := gt_6 (i := 8) rfl rfl
theorem kw_1326 : Cond.code yX11_fitting cX11_fitting 7 (some .int) ∈ Gw := gt_6 (i := 11) rfl rfl
theorem kw_1325 : Cond.instanceMethod yX11_fitting ∈ Gw := gt_6 (i := 10) rfl rfl
theorem kw_50 : Cond.selects (yX11_fitting).cls yX11_fitting yX11_fitting ∈ Gw := gt_0 (i := 50) (q := (yX11_fitting, 17)) rfl
theorem cw_X11_314 : CwV RX11 314 mX11_fitting 0 := ⟨⟨kw_1323, kw_116, kw_1326, ⟨nh_0.1, nh_0.2, pd_28⟩, Nat.le_of_ble_eq_true rfl⟩, kw_1325, kw_50⟩
theorem kw_1327 : Cond.methodLink RX11 318 yX5_sift ∈ Gw := gt_6 (i := 12) rfl rfl
theorem kw_1330 : Cond.code yX5_sift cX5_sift 3 none ∈ Gw := gt_6 (i := 15) rfl rfl
theorem kw_1328 : Cond.instanceMethod yX5_sift ∈ Gw := gt_6 (i := 13) rfl rfl
theorem kw_1329 : Cond.selects (yX5_sift).cls yX5_sift yX5_sift ∈ Gw := gt_6 (i := 14) rfl rfl
theorem cw_X11_318 : CwV RX11 318 mX5_sift 0 := ⟨⟨kw_1327, kw_131, kw_1330, ⟨nh_19.1, nh_19.2, pd_1⟩, Nat.le_of_ble_eq_true rfl⟩, kw_1328, kw_1329⟩
theorem kw_1331 : Cond.methodLink RX5 32 yX5_inForce ∈ Gw := gt_6 (i := 16) rfl rfl
theorem kw_1334 : Cond.code yX5_inForce cX5_inForce 1 (some .int) ∈ Gw := gt_6 (i := 19) rfl rfl
theorem kw_1332 : Cond.instanceMethod yX5_inForce ∈ Gw := gt_6 (i := 17) rfl rfl
theorem kw_1333 : Cond.selects (yX5_inForce).cls yX5_inForce yX5_inForce ∈ Gw := gt_6 (i := 18) rfl rfl
theorem cw_X5_32 : CwV RX5 32 mX5_inForce 0 := ⟨⟨kw_1331, kw_131, kw_1334, ⟨nh_19.1, nh_19.2, pd_28⟩, Nat.le_of_ble_eq_true rfl⟩, kw_1332, kw_1333⟩
theorem kw_1335 : Cond.methodLink RX5 36 Lib.Math.min.name ∈ Gw := gt_6 (i := 20) rfl rfl
theorem mw_X5_36 : Mw RX5 36 Lib.Math.min.name Lib.Math.min.code 2 (some .int) := ⟨kw_1335, kw_837, kw_133, kw_838⟩
theorem kw_1336 : Cond.methodLink RX11 321 yX5_latestMeal ∈ Gw := gt_6 (i := 21) rfl rfl
theorem kw_1339 : Cond.code yX5_latestMeal cX5_latestMeal 3 (some .int) ∈ Gw := gt_6 (i := 24) rfl rfl
theorem kw_1337 : Cond.instanceMethod yX5_latestMeal ∈ Gw := gt_6 (i := 22) rfl rfl
theorem kw_1338 : Cond.selects (yX5_latestMeal).cls yX5_latestMeal yX5_latestMeal ∈ Gw := gt_6 (i := 23) rfl rfl
theorem cw_X11_321 : CwV RX11 321 mX5_latestMeal 0 := ⟨⟨kw_1336, kw_131, kw_1339, ⟨nh_19.1, nh_19.2, pd_28⟩, Nat.le_of_ble_eq_true rfl⟩, kw_1337, kw_1338⟩
theorem kw_1340 : Cond.methodLink RX5 42 yX5_counts ∈ Gw := gt_6 (i := 25) rfl rfl
theorem kw_1343 : Cond.code yX5_counts cX5_counts 2 (some .boolean) ∈ Gw := gt_6 (i := 28) rfl rfl
theorem kw_1342 : Cond.instanceMethod yX5_counts ∈ Gw := gt_6 (i := 27) rfl rfl
theorem kw_51 : Cond.selects (yX5_counts).cls yX5_counts yX5_counts ∈ Gw := gt_0 (i := 51) (q := (yX5_counts, 6)) rfl
theorem cw_X5_42 : CwV RX5 42 mX5_counts 1 := ⟨⟨kw_1340, kw_131, kw_1343, ⟨nh_19.1, nh_19.2, pd_7⟩, Nat.le_of_ble_eq_true rfl⟩, kw_1342, kw_51⟩
theorem kw_1344 : Cond.methodLink RX5 46 Lib.Math.max.name ∈ Gw := gt_6 (i := 29) rfl rfl
theorem mw_X5_46 : Mw RX5 46 Lib.Math.max.name Lib.Math.max.code 2 (some .int) := ⟨kw_1344, kw_840, kw_133, kw_841⟩
theorem kw_1345 : Cond.methodLink RX11 324 yX5_firstFalse ∈ Gw := gt_6 (i := 30) rfl rfl
theorem kw_1348 : Cond.code yX5_firstFalse cX5_firstFalse 5 (some .int) ∈ Gw := gt_6 (i := 33) rfl rfl
theorem kw_1346 : Cond.instanceMethod yX5_firstFalse ∈ Gw := gt_6 (i := 31) rfl rfl
theorem kw_1347 : Cond.selects (yX5_firstFalse).cls yX5_firstFalse yX5_firstFalse ∈ Gw := gt_6 (i := 32) rfl rfl
theorem cw_X11_324 : CwV RX11 324 mX5_firstFalse 3 := ⟨⟨kw_1345, kw_131, kw_1348, ⟨nh_19.1, nh_19.2, pd_41⟩, Nat.le_of_ble_eq_true rfl⟩, kw_1346, kw_1347⟩
theorem kw_1349 : Cond.methodLink RL 119 yX11_sure ∈ Gw := gt_6 (i := 34) rfl rfl
theorem kw_1352 : Cond.code yX11_sure cX11_sure 7 (some .int) ∈ Gw := gt_6 (i := 37) rfl rfl
theorem kw_1350 : Cond.instanceMethod yX11_sure ∈ Gw := gt_6 (i := 35) rfl rfl
theorem kw_1351 : Cond.selects (yX11_sure).cls yX11_sure yX11_sure ∈ Gw := gt_6 (i := 36) rfl rfl
theorem cw_L_119 : CwV RL 119 mX11_sure 1 := ⟨⟨kw_1349, kw_116, kw_1352, ⟨nh_0.1, nh_0.2, pd_22⟩, Nat.le_of_ble_eq_true rfl⟩, kw_1350, kw_1351⟩
theorem kw_1353 : Cond.methodLink RL 123 yX11_odds ∈ Gw := gt_6 (i := 38) rfl rfl
theorem kw_1356 : Cond.code yX11_odds cX11_odds 8 (some .int) ∈ Gw := gt_6 (i := 41) rfl rfl
theorem kw_1354 : Cond.instanceMethod yX11_odds ∈ Gw := gt_6 (i := 39) rfl rfl
theorem kw_1355 : Cond.selects (yX11_odds).cls yX11_odds yX11_odds ∈ Gw := gt_6 (i := 40) rfl rfl
theorem cw_L_123 : CwV RL 123 mX11_odds 2 := ⟨⟨kw_1353, kw_116, kw_1356, ⟨nh_0.1, nh_0.2, pd_8⟩, Nat.le_of_ble_eq_true rfl⟩, kw_1354, kw_1355⟩
theorem kw_1357 : Cond.methodLink RX11 327 yX0_weight ∈ Gw := gt_6 (i := 42) rfl rfl
theorem kw_1360 : Cond.code yX0_weight cX0_weight 5 (some .int) ∈ Gw := gt_6 (i := 45) rfl rfl
theorem kw_1358 : Cond.instanceMethod yX0_weight ∈ Gw := gt_6 (i := 43) rfl rfl
theorem kw_1359 : Cond.selects (yX0_weight).cls yX0_weight yX0_weight ∈ Gw := gt_6 (i := 44) rfl rfl
theorem cw_X11_327 : CwV RX11 327 mX0_weight 1 := ⟨⟨kw_1357, kw_117, kw_1360, ⟨nh_2.1, nh_2.2, pd_22⟩, Nat.le_of_ble_eq_true rfl⟩, kw_1358, kw_1359⟩
theorem kw_1361 : Cond.methodLink RL 127 yX11_fraud ∈ Gw := gt_6 (i := 46) rfl rfl
theorem kw_1364 : Cond.code yX11_fraud cX11_fraud 4 (some .int) ∈ Gw := gt_6 (i := 49) rfl rfl
theorem kw_1362 : Cond.instanceMethod yX11_fraud ∈ Gw := gt_6 (i := 47) rfl rfl
theorem kw_1363 : Cond.selects (yX11_fraud).cls yX11_fraud yX11_fraud ∈ Gw := gt_6 (i := 48) rfl rfl
theorem cw_L_127 : CwV RL 127 mX11_fraud 0 := ⟨⟨kw_1361, kw_116, kw_1364, ⟨nh_0.1, nh_0.2, pd_28⟩, Nat.le_of_ble_eq_true rfl⟩, kw_1362, kw_1363⟩
theorem kw_1365 : Cond.methodLink RX11 330 yX5_firstFrom ∈ Gw := gt_6 (i := 50) rfl rfl
theorem kw_1368 : Cond.code yX5_firstFrom cX5_firstFrom 3 (some .int) ∈ Gw := gt_6 (i := 53) rfl rfl
theorem kw_1366 : Cond.instanceMethod yX5_firstFrom ∈ Gw := gt_6 (i := 51) rfl rfl
theorem kw_1367 : Cond.selects (yX5_firstFrom).cls yX5_firstFrom yX5_firstFrom ∈ Gw := gt_6 (i := 52) rfl rfl
theorem cw_X11_330 : CwV RX11 330 mX5_firstFrom 1 := ⟨⟨kw_1365, kw_131, kw_1368, ⟨nh_19.1, nh_19.2, pd_22⟩, Nat.le_of_ble_eq_true rfl⟩, kw_1366, kw_1367⟩
theorem kw_1369 : Cond.methodLink RL 131 yX11_tried ∈ Gw := gt_6 (i := 54) rfl rfl
theorem kw_1372 : Cond.code yX11_tried cX11_tried 5 (some .int) ∈ Gw := gt_6 (i := 57) rfl rfl
theorem kw_1370 : Cond.instanceMethod yX11_tried ∈ Gw := gt_6 (i := 55) rfl rfl
theorem kw_1371 : Cond.selects (yX11_tried).cls yX11_tried yX11_tried ∈ Gw := gt_6 (i := 56) rfl rfl
theorem cw_L_131 : CwV RL 131 mX11_tried 3 := ⟨⟨kw_1369, kw_116, kw_1372, ⟨nh_0.1, nh_0.2, pd_41⟩, Nat.le_of_ble_eq_true rfl⟩, kw_1370, kw_1371⟩
theorem kw_1373 : Cond.methodLink RL 136 yX11_undo ∈ Gw := gt_6 (i := 58) rfl rfl
theorem kw_1376 : Cond.code yX11_undo cX11_undo 2 (some .int) ∈ Gw := gt_6 (i := 61) rfl rfl
theorem kw_1374 : Cond.instanceMethod yX11_undo ∈ Gw := gt_6 (i := 59) rfl rfl
theorem kw_1375 : Cond.selects (yX11_undo).cls yX11_undo yX11_undo ∈ Gw := gt_6 (i := 60) rfl rfl
theorem cw_L_136 : CwV RL 136 mX11_undo 0 := ⟨⟨kw_1373, kw_116, kw_1376, ⟨nh_0.1, nh_0.2, pd_28⟩, Nat.le_of_ble_eq_true rfl⟩, kw_1374, kw_1375⟩
theorem kw_1377 : Cond.methodLink RL 140 yX11_keep ∈ Gw := gt_6 (i := 62) rfl rfl
theorem kw_1380 : Cond.code yX11_keep cX11_keep 1 (some .int) ∈ Gw := gt_6 (i := 65) rfl rfl
theorem kw_1378 : Cond.instanceMethod yX11_keep ∈ Gw := gt_6 (i := 63) rfl rfl
theorem kw_1379 : Cond.selects (yX11_keep).cls yX11_keep yX11_keep ∈ Gw := gt_6 (i := 64) rfl rfl
theorem cw_L_140 : CwV RL 140 mX11_keep 0 := ⟨⟨kw_1377, kw_116, kw_1380, ⟨nh_0.1, nh_0.2, pd_28⟩, Nat.le_of_ble_eq_true rfl⟩, kw_1378, kw_1379⟩
theorem kw_1381 : Cond.methodLink RX11 339 yX3_copyFrom ∈ Gw := gt_6 (i := 66) rfl rfl
theorem kw_1384 : Cond.code yX3_copyFrom cX3_copyFrom 3 none ∈ Gw := gt_6 (i := 69) rfl rfl
theorem pd_42 : (parseMethodDescriptor "(LPlateVote$Log;)V").map (fun d => d.parameters.length) = some 1 := by decide +kernel
theorem kw_1382 : Cond.instanceMethod yX3_copyFrom ∈ Gw := gt_6 (i := 67) rfl rfl
theorem kw_1383 : Cond.selects (yX3_copyFrom).cls yX3_copyFrom yX3_copyFrom ∈ Gw := gt_6 (i := 68) rfl rfl
theorem cw_X11_339 : CwV RX11 339 mX3_copyFrom 1 := ⟨⟨kw_1381, kw_130, kw_1384, ⟨nh_18.1, nh_18.2, pd_42⟩, Nat.le_of_ble_eq_true rfl⟩, kw_1382, kw_1383⟩
theorem kw_1385 : Cond.methodLink RL 144 yX11_back ∈ Gw := gt_6 (i := 70) rfl rfl
theorem kw_1388 : Cond.code yX11_back cX11_back 1 (some .int) ∈ Gw := gt_6 (i := 73) rfl rfl
theorem kw_1386 : Cond.instanceMethod yX11_back ∈ Gw := gt_6 (i := 71) rfl rfl
theorem kw_1387 : Cond.selects (yX11_back).cls yX11_back yX11_back ∈ Gw := gt_6 (i := 72) rfl rfl
theorem cw_L_144 : CwV RL 144 mX11_back 0 := ⟨⟨kw_1385, kw_116, kw_1388, ⟨nh_0.1, nh_0.2, pd_28⟩, Nat.le_of_ble_eq_true rfl⟩, kw_1386, kw_1387⟩
theorem kw_1389 : Cond.methodLink RL 148 yX11_count ∈ Gw := gt_6 (i := 74) rfl rfl
theorem kw_1392 : Cond.code yX11_count cX11_count 2 (some .int) ∈ Gw := gt_6 (i := 77) rfl rfl
theorem kw_1390 : Cond.instanceMethod yX11_count ∈ Gw := gt_6 (i := 75) rfl rfl
theorem kw_1391 : Cond.selects (yX11_count).cls yX11_count yX11_count ∈ Gw := gt_6 (i := 76) rfl rfl
theorem cw_L_148 : CwV RL 148 mX11_count 1 := ⟨⟨kw_1389, kw_116, kw_1392, ⟨nh_0.1, nh_0.2, pd_22⟩, Nat.le_of_ble_eq_true rfl⟩, kw_1390, kw_1391⟩
theorem kw_1393 : Cond.methodLink RX11 356 yX5_inForce ∈ Gw := gt_6 (i := 78) rfl rfl
theorem cw_X11_356 : CwV RX11 356 mX5_inForce 0 := ⟨⟨kw_1393, kw_131, kw_1334, ⟨nh_19.1, nh_19.2, pd_28⟩, Nat.le_of_ble_eq_true rfl⟩, kw_1332, kw_1333⟩
theorem kw_1399 : Cond.methodLink RL 7 yX11_look ∈ Gw := gt_6 (i := 84) rfl rfl
theorem kw_1402 : Cond.code yX11_look cX11_look 3 (some .int) ∈ Gw := gt_6 (i := 87) rfl rfl
theorem kw_1400 : Cond.instanceMethod yX11_look ∈ Gw := gt_6 (i := 85) rfl rfl
theorem kw_1401 : Cond.selects (yX11_look).cls yX11_look yX11_look ∈ Gw := gt_6 (i := 86) rfl rfl
theorem cw_L_7 : CwV RL 7 mX11_look 2 := ⟨⟨kw_1399, kw_116, kw_1402, ⟨nh_0.1, nh_0.2, pd_8⟩, Nat.le_of_ble_eq_true rfl⟩, kw_1400, kw_1401⟩
theorem kw_1469 : Cond.methodLink RX11 150 yX2_portion ∈ Gw := gt_6 (i := 154) rfl rfl
theorem cw_X11_150 : CwV RX11 150 mX2_portion 2 := ⟨⟨kw_1469, kw_127, kw_1098, ⟨nh_13.1, nh_13.2, pd_31⟩, Nat.le_of_ble_eq_true rfl⟩, kw_1096, kw_1097⟩
theorem kw_1470 : Cond.methodLink RX11 164 yX2_isFed ∈ Gw := gt_6 (i := 155) rfl rfl
theorem cw_X11_164 : CwV RX11 164 mX2_isFed 2 := ⟨⟨kw_1470, kw_127, kw_1089, ⟨nh_13.1, nh_13.2, pd_25⟩, Nat.le_of_ble_eq_true rfl⟩, kw_1087, kw_1088⟩
theorem kw_1489 : Cond.methodLink RL 20 yX12_init ∈ Gw := gt_6 (i := 174) rfl rfl
theorem kw_132 : Cond.initialized (yX12_init).cls ∈ Gw := gt_1 (i := 17) rfl rfl
theorem kw_1491 : Cond.code yX12_init cX12_init 1 none ∈ Gw := gt_6 (i := 176) rfl rfl
theorem nh_43 : "PlateVoteModel" ≠ "java/lang/invoke/MethodHandle" ∧ "PlateVoteModel" ≠ "java/lang/invoke/VarHandle" := by decide +kernel
theorem kw_1490 : Cond.instanceMethod yX12_init ∈ Gw := gt_6 (i := 175) rfl rfl
theorem cw_L_20 : Cw RL 20 mX12_init 0 ∧ Cond.instanceMethod yX12_init ∈ Gw := ⟨⟨kw_1489, kw_132, kw_1491, ⟨nh_43.1, nh_43.2, pd_1⟩, Nat.le_of_ble_eq_true rfl⟩, kw_1490⟩
theorem kw_1493 : Cond.methodLink RX12 187 yX12_layFar ∈ Gw := gt_6 (i := 178) rfl rfl
theorem kw_1496 : Cond.code yX12_layFar cX12_layFar 7 none ∈ Gw := gt_6 (i := 181) rfl rfl
theorem kw_1495 : Cond.instanceMethod yX12_layFar ∈ Gw := gt_6 (i := 180) rfl rfl
theorem kw_53 : Cond.selects (yX12_layFar).cls yX12_layFar yX12_layFar ∈ Gw := gt_0 (i := 53) (q := (yX12_layFar, 80)) rfl
theorem cw_X12_187 : CwV RX12 187 mX12_layFar 0 := ⟨⟨kw_1493, kw_132, kw_1496, ⟨nh_43.1, nh_43.2, pd_1⟩, Nat.le_of_ble_eq_true rfl⟩, kw_1495, kw_53⟩
theorem kw_1497 : Cond.methodLink RX12 374 yX12_cells ∈ Gw := gt_6 (i := 182) rfl rfl
theorem kw_1500 : Cond.code yX12_cells cX12_cells 1 (some .int) ∈ Gw := gt_6 (i := 185) rfl rfl
theorem kw_1499 : Cond.instanceMethod yX12_cells ∈ Gw := gt_6 (i := 184) rfl rfl
theorem kw_54 : Cond.selects (yX12_cells).cls yX12_cells yX12_cells ∈ Gw := gt_0 (i := 54) (q := (yX12_cells, 80)) rfl
theorem cw_X12_374 : CwV RX12 374 mX12_cells 0 := ⟨⟨kw_1497, kw_132, kw_1500, ⟨nh_43.1, nh_43.2, pd_28⟩, Nat.le_of_ble_eq_true rfl⟩, kw_1499, kw_54⟩
theorem kw_1501 : Cond.methodLink RX12 377 yX12_leads ∈ Gw := gt_6 (i := 186) rfl rfl
theorem kw_1504 : Cond.code yX12_leads cX12_leads 5 (some .int) ∈ Gw := gt_6 (i := 189) rfl rfl
theorem kw_1503 : Cond.instanceMethod yX12_leads ∈ Gw := gt_6 (i := 188) rfl rfl
theorem kw_55 : Cond.selects (yX12_leads).cls yX12_leads yX12_leads ∈ Gw := gt_0 (i := 55) (q := (yX12_leads, 80)) rfl
theorem cw_X12_377 : CwV RX12 377 mX12_leads 2 := ⟨⟨kw_1501, kw_132, kw_1504, ⟨nh_43.1, nh_43.2, pd_8⟩, Nat.le_of_ble_eq_true rfl⟩, kw_1503, kw_55⟩
theorem kw_1505 : Cond.methodLink RX12 190 yX12_begins ∈ Gw := gt_6 (i := 190) rfl rfl
theorem kw_1508 : Cond.code yX12_begins cX12_begins 3 none ∈ Gw := gt_6 (i := 193) rfl rfl
theorem kw_1507 : Cond.instanceMethod yX12_begins ∈ Gw := gt_6 (i := 192) rfl rfl
theorem kw_56 : Cond.selects (yX12_begins).cls yX12_begins yX12_begins ∈ Gw := gt_0 (i := 56) (q := (yX12_begins, 80)) rfl
theorem cw_X12_190 : CwV RX12 190 mX12_begins 1 := ⟨⟨kw_1505, kw_132, kw_1508, ⟨nh_43.1, nh_43.2, pd_21⟩, Nat.le_of_ble_eq_true rfl⟩, kw_1507, kw_56⟩
theorem kw_1750 : Cond.methodLink RL 45 yX12_thrown ∈ Gw := gt_7 (i := 195) rfl rfl
theorem kw_1753 : Cond.code yX12_thrown cX12_thrown 1 (some .int) ∈ Gw := gt_7 (i := 198) rfl rfl
theorem kw_1751 : Cond.instanceMethod yX12_thrown ∈ Gw := gt_7 (i := 196) rfl rfl
theorem kw_1752 : Cond.selects (yX12_thrown).cls yX12_thrown yX12_thrown ∈ Gw := gt_7 (i := 197) rfl rfl
theorem cw_L_45 : CwV RL 45 mX12_thrown 0 := ⟨⟨kw_1750, kw_132, kw_1753, ⟨nh_43.1, nh_43.2, pd_28⟩, Nat.le_of_ble_eq_true rfl⟩, kw_1751, kw_1752⟩
theorem kw_1754 : Cond.methodLink RL 25 yX12_feed ∈ Gw := gt_7 (i := 199) rfl rfl
theorem kw_1757 : Cond.code yX12_feed cX12_feed 8 (some .int) ∈ Gw := gt_7 (i := 202) rfl rfl
theorem kw_1755 : Cond.instanceMethod yX12_feed ∈ Gw := gt_7 (i := 200) rfl rfl
theorem kw_1756 : Cond.selects (yX12_feed).cls yX12_feed yX12_feed ∈ Gw := gt_7 (i := 201) rfl rfl
theorem cw_L_25 : CwV RL 25 mX12_feed 5 := ⟨⟨kw_1754, kw_132, kw_1757, ⟨nh_43.1, nh_43.2, pd_20⟩, Nat.le_of_ble_eq_true rfl⟩, kw_1755, kw_1756⟩
theorem kw_1758 : Cond.methodLink RL 30 yX12_text ∈ Gw := gt_7 (i := 203) rfl rfl
theorem kw_1761 : Cond.code yX12_text cX12_text 3 (some .int) ∈ Gw := gt_7 (i := 206) rfl rfl
theorem kw_1759 : Cond.instanceMethod yX12_text ∈ Gw := gt_7 (i := 204) rfl rfl
theorem kw_1760 : Cond.selects (yX12_text).cls yX12_text yX12_text ∈ Gw := gt_7 (i := 205) rfl rfl
theorem cw_L_30 : CwV RL 30 mX12_text 1 := ⟨⟨kw_1758, kw_132, kw_1761, ⟨nh_43.1, nh_43.2, pd_22⟩, Nat.le_of_ble_eq_true rfl⟩, kw_1759, kw_1760⟩
theorem kw_1762 : Cond.methodLink RX12 288 yX12_reads ∈ Gw := gt_7 (i := 207) rfl rfl
theorem kw_1765 : Cond.code yX12_reads cX12_reads 3 none ∈ Gw := gt_7 (i := 210) rfl rfl
theorem kw_1764 : Cond.instanceMethod yX12_reads ∈ Gw := gt_7 (i := 209) rfl rfl
theorem kw_57 : Cond.selects (yX12_reads).cls yX12_reads yX12_reads ∈ Gw := gt_0 (i := 57) (q := (yX12_reads, 80)) rfl
theorem cw_X12_288 : CwV RX12 288 mX12_reads 2 := ⟨⟨kw_1762, kw_132, kw_1765, ⟨nh_43.1, nh_43.2, pd_6⟩, Nat.le_of_ble_eq_true rfl⟩, kw_1764, kw_57⟩
theorem kw_1766 : Cond.methodLink RX12 253 yX12_token ∈ Gw := gt_7 (i := 211) rfl rfl
theorem kw_1769 : Cond.code yX12_token cX12_token 2 none ∈ Gw := gt_7 (i := 214) rfl rfl
theorem kw_1768 : Cond.instanceMethod yX12_token ∈ Gw := gt_7 (i := 213) rfl rfl
theorem kw_58 : Cond.selects (yX12_token).cls yX12_token yX12_token ∈ Gw := gt_0 (i := 58) (q := (yX12_token, 80)) rfl
theorem cw_X12_253 : CwV RX12 253 mX12_token 0 := ⟨⟨kw_1766, kw_132, kw_1769, ⟨nh_43.1, nh_43.2, pd_1⟩, Nat.le_of_ble_eq_true rfl⟩, kw_1768, kw_58⟩
theorem kw_1770 : Cond.methodLink RX12 206 yX12_here ∈ Gw := gt_7 (i := 215) rfl rfl
theorem kw_1773 : Cond.code yX12_here cX12_here 1 (some .int) ∈ Gw := gt_7 (i := 218) rfl rfl
theorem kw_1772 : Cond.instanceMethod yX12_here ∈ Gw := gt_7 (i := 217) rfl rfl
theorem kw_59 : Cond.selects (yX12_here).cls yX12_here yX12_here ∈ Gw := gt_0 (i := 59) (q := (yX12_here, 80)) rfl
theorem cw_X12_206 : CwV RX12 206 mX12_here 0 := ⟨⟨kw_1770, kw_132, kw_1773, ⟨nh_43.1, nh_43.2, pd_28⟩, Nat.le_of_ble_eq_true rfl⟩, kw_1772, kw_59⟩
theorem kw_1774 : Cond.methodLink RX12 216 yX12_isSmall ∈ Gw := gt_7 (i := 219) rfl rfl
theorem kw_1776 : Cond.code yX12_isSmall cX12_isSmall 1 (some .boolean) ∈ Gw := gt_7 (i := 221) rfl rfl
theorem kw_1775 : Cond.static yX12_isSmall ∈ Gw := gt_7 (i := 220) rfl rfl
theorem cw_X12_216 : CwS RX12 216 mX12_isSmall 1 := ⟨⟨kw_1774, kw_132, kw_1776, ⟨nh_43.1, nh_43.2, pd_7⟩, Nat.le_of_ble_eq_true rfl⟩, kw_1775⟩
theorem kw_1777 : Cond.methodLink RX12 220 yX12_word ∈ Gw := gt_7 (i := 222) rfl rfl
theorem kw_1780 : Cond.code yX12_word cX12_word 4 (some .int) ∈ Gw := gt_7 (i := 225) rfl rfl
theorem kw_1779 : Cond.instanceMethod yX12_word ∈ Gw := gt_7 (i := 224) rfl rfl
theorem kw_60 : Cond.selects (yX12_word).cls yX12_word yX12_word ∈ Gw := gt_0 (i := 60) (q := (yX12_word, 80)) rfl
theorem cw_X12_220 : CwV RX12 220 mX12_word 0 := ⟨⟨kw_1777, kw_132, kw_1780, ⟨nh_43.1, nh_43.2, pd_28⟩, Nat.le_of_ble_eq_true rfl⟩, kw_1779, kw_60⟩
theorem kw_1784 : Cond.methodLink RX12 226 yX12_name ∈ Gw := gt_7 (i := 229) rfl rfl
theorem kw_1787 : Cond.code yX12_name cX12_name 2 none ∈ Gw := gt_7 (i := 232) rfl rfl
theorem kw_1786 : Cond.instanceMethod yX12_name ∈ Gw := gt_7 (i := 231) rfl rfl
theorem kw_61 : Cond.selects (yX12_name).cls yX12_name yX12_name ∈ Gw := gt_0 (i := 61) (q := (yX12_name, 80)) rfl
theorem cw_X12_226 : CwV RX12 226 mX12_name 0 := ⟨⟨kw_1784, kw_132, kw_1787, ⟨nh_43.1, nh_43.2, pd_1⟩, Nat.le_of_ble_eq_true rfl⟩, kw_1786, kw_61⟩
theorem kw_1788 : Cond.methodLink RX12 229 yX12_isDigit ∈ Gw := gt_7 (i := 233) rfl rfl
theorem kw_1790 : Cond.code yX12_isDigit cX12_isDigit 1 (some .boolean) ∈ Gw := gt_7 (i := 235) rfl rfl
theorem kw_1789 : Cond.static yX12_isDigit ∈ Gw := gt_7 (i := 234) rfl rfl
theorem cw_X12_229 : CwS RX12 229 mX12_isDigit 1 := ⟨⟨kw_1788, kw_132, kw_1790, ⟨nh_43.1, nh_43.2, pd_7⟩, Nat.le_of_ble_eq_true rfl⟩, kw_1789⟩
theorem kw_1792 : Cond.methodLink RX12 233 yX12_sign ∈ Gw := gt_7 (i := 237) rfl rfl
theorem kw_1795 : Cond.code yX12_sign cX12_sign 2 none ∈ Gw := gt_8 (i := 0) rfl rfl
theorem kw_1794 : Cond.instanceMethod yX12_sign ∈ Gw := gt_7 (i := 239) rfl rfl
theorem kw_62 : Cond.selects (yX12_sign).cls yX12_sign yX12_sign ∈ Gw := gt_0 (i := 62) (q := (yX12_sign, 80)) rfl
theorem cw_X12_233 : CwV RX12 233 mX12_sign 1 := ⟨⟨kw_1792, kw_132, kw_1795, ⟨nh_43.1, nh_43.2, pd_21⟩, Nat.le_of_ble_eq_true rfl⟩, kw_1794, kw_62⟩
theorem kw_1796 : Cond.methodLink RX12 354 yX12_line ∈ Gw := gt_8 (i := 1) rfl rfl
theorem kw_1799 : Cond.code yX12_line cX12_line 3 none ∈ Gw := gt_8 (i := 4) rfl rfl
theorem kw_1798 : Cond.instanceMethod yX12_line ∈ Gw := gt_8 (i := 3) rfl rfl
theorem kw_63 : Cond.selects (yX12_line).cls yX12_line yX12_line ∈ Gw := gt_0 (i := 63) (q := (yX12_line, 80)) rfl
theorem cw_X12_354 : CwV RX12 354 mX12_line 0 := ⟨⟨kw_1796, kw_132, kw_1799, ⟨nh_43.1, nh_43.2, pd_1⟩, Nat.le_of_ble_eq_true rfl⟩, kw_1798, kw_63⟩
theorem kw_1800 : Cond.methodLink RX12 256 yX12_wrong ∈ Gw := gt_8 (i := 5) rfl rfl
theorem kw_1803 : Cond.code yX12_wrong cX12_wrong 2 none ∈ Gw := gt_8 (i := 8) rfl rfl
theorem kw_1802 : Cond.instanceMethod yX12_wrong ∈ Gw := gt_8 (i := 7) rfl rfl
theorem kw_64 : Cond.selects (yX12_wrong).cls yX12_wrong yX12_wrong ∈ Gw := gt_0 (i := 64) (q := (yX12_wrong, 80)) rfl
theorem cw_X12_256 : CwV RX12 256 mX12_wrong 1 := ⟨⟨kw_1800, kw_132, kw_1803, ⟨nh_43.1, nh_43.2, pd_21⟩, Nat.le_of_ble_eq_true rfl⟩, kw_1802, kw_64⟩
theorem kw_1804 : Cond.methodLink RX12 279 yX12_isFull ∈ Gw := gt_8 (i := 9) rfl rfl
theorem kw_1807 : Cond.code yX12_isFull cX12_isFull 2 (some .boolean) ∈ Gw := gt_8 (i := 12) rfl rfl
theorem kw_1806 : Cond.instanceMethod yX12_isFull ∈ Gw := gt_8 (i := 11) rfl rfl
theorem kw_65 : Cond.selects (yX12_isFull).cls yX12_isFull yX12_isFull ∈ Gw := gt_0 (i := 65) (q := (yX12_isFull, 80)) rfl
theorem cw_X12_279 : CwV RX12 279 mX12_isFull 1 := ⟨⟨kw_1804, kw_132, kw_1807, ⟨nh_43.1, nh_43.2, pd_7⟩, Nat.le_of_ble_eq_true rfl⟩, kw_1806, kw_65⟩
theorem kw_1808 : Cond.methodLink RX12 266 yX12_fresher ∈ Gw := gt_8 (i := 13) rfl rfl
theorem kw_1811 : Cond.code yX12_fresher cX12_fresher 2 (some .int) ∈ Gw := gt_8 (i := 16) rfl rfl
theorem kw_1810 : Cond.instanceMethod yX12_fresher ∈ Gw := gt_8 (i := 15) rfl rfl
theorem kw_66 : Cond.selects (yX12_fresher).cls yX12_fresher yX12_fresher ∈ Gw := gt_0 (i := 66) (q := (yX12_fresher, 80)) rfl
theorem cw_X12_266 : CwV RX12 266 mX12_fresher 1 := ⟨⟨kw_1808, kw_132, kw_1811, ⟨nh_43.1, nh_43.2, pd_22⟩, Nat.le_of_ble_eq_true rfl⟩, kw_1810, kw_66⟩
theorem kw_1812 : Cond.methodLink RX12 282 yX12_isOnce ∈ Gw := gt_8 (i := 17) rfl rfl
theorem kw_1814 : Cond.code yX12_isOnce cX12_isOnce 1 (some .boolean) ∈ Gw := gt_8 (i := 19) rfl rfl
theorem kw_1813 : Cond.static yX12_isOnce ∈ Gw := gt_8 (i := 18) rfl rfl
theorem cw_X12_282 : CwS RX12 282 mX12_isOnce 1 := ⟨⟨kw_1812, kw_132, kw_1814, ⟨nh_43.1, nh_43.2, pd_7⟩, Nat.le_of_ble_eq_true rfl⟩, kw_1813⟩
theorem kw_1815 : Cond.methodLink RX12 285 yX12_isTold ∈ Gw := gt_8 (i := 20) rfl rfl
theorem kw_1818 : Cond.code yX12_isTold cX12_isTold 2 (some .boolean) ∈ Gw := gt_8 (i := 23) rfl rfl
theorem kw_1817 : Cond.instanceMethod yX12_isTold ∈ Gw := gt_8 (i := 22) rfl rfl
theorem kw_67 : Cond.selects (yX12_isTold).cls yX12_isTold yX12_isTold ∈ Gw := gt_0 (i := 67) (q := (yX12_isTold, 80)) rfl
theorem cw_X12_285 : CwV RX12 285 mX12_isTold 1 := ⟨⟨kw_1815, kw_132, kw_1818, ⟨nh_43.1, nh_43.2, pd_7⟩, Nat.le_of_ble_eq_true rfl⟩, kw_1817, kw_67⟩
theorem kw_1819 : Cond.methodLink RX12 270 yX12_numeral ∈ Gw := gt_8 (i := 24) rfl rfl
theorem kw_1822 : Cond.code yX12_numeral cX12_numeral 4 (some .int) ∈ Gw := gt_8 (i := 27) rfl rfl
theorem kw_1821 : Cond.instanceMethod yX12_numeral ∈ Gw := gt_8 (i := 26) rfl rfl
theorem kw_68 : Cond.selects (yX12_numeral).cls yX12_numeral yX12_numeral ∈ Gw := gt_0 (i := 68) (q := (yX12_numeral, 80)) rfl
theorem cw_X12_270 : CwV RX12 270 mX12_numeral 2 := ⟨⟨kw_1819, kw_132, kw_1822, ⟨nh_43.1, nh_43.2, pd_8⟩, Nat.le_of_ble_eq_true rfl⟩, kw_1821, kw_68⟩
theorem kw_1823 : Cond.methodLink RX12 259 yX12_numeralAtHand ∈ Gw := gt_8 (i := 28) rfl rfl
theorem kw_1826 : Cond.code yX12_numeralAtHand cX12_numeralAtHand 3 (some .int) ∈ Gw := gt_8 (i := 31) rfl rfl
theorem kw_1825 : Cond.instanceMethod yX12_numeralAtHand ∈ Gw := gt_8 (i := 30) rfl rfl
theorem kw_69 : Cond.selects (yX12_numeralAtHand).cls yX12_numeralAtHand yX12_numeralAtHand ∈ Gw := gt_0 (i := 69) (q := (yX12_numeralAtHand, 80)) rfl
theorem cw_X12_259 : CwV RX12 259 mX12_numeralAtHand 2 := ⟨⟨kw_1823, kw_132, kw_1826, ⟨nh_43.1, nh_43.2, pd_8⟩, Nat.le_of_ble_eq_true rfl⟩, kw_1825, kw_69⟩
theorem kw_1827 : Cond.methodLink RX12 263 yX12_goOn ∈ Gw := gt_8 (i := 32) rfl rfl
theorem kw_1830 : Cond.code yX12_goOn cX12_goOn 1 none ∈ Gw := gt_8 (i := 35) rfl rfl
theorem kw_1829 : Cond.instanceMethod yX12_goOn ∈ Gw := gt_8 (i := 34) rfl rfl
theorem kw_70 : Cond.selects (yX12_goOn).cls yX12_goOn yX12_goOn ∈ Gw := gt_0 (i := 70) (q := (yX12_goOn, 80)) rfl
theorem cw_X12_263 : CwV RX12 263 mX12_goOn 0 := ⟨⟨kw_1827, kw_132, kw_1830, ⟨nh_43.1, nh_43.2, pd_1⟩, Nat.le_of_ble_eq_true rfl⟩, kw_1829, kw_70⟩
theorem kw_1831 : Cond.methodLink RX12 292 yX12_landLine ∈ Gw := gt_8 (i := 36) rfl rfl
theorem kw_1834 : Cond.code yX12_landLine cX12_landLine 4 none ∈ Gw := gt_8 (i := 39) rfl rfl
theorem kw_1833 : Cond.instanceMethod yX12_landLine ∈ Gw := gt_8 (i := 38) rfl rfl
theorem kw_71 : Cond.selects (yX12_landLine).cls yX12_landLine yX12_landLine ∈ Gw := gt_0 (i := 71) (q := (yX12_landLine, 80)) rfl
theorem cw_X12_292 : CwV RX12 292 mX12_landLine 0 := ⟨⟨kw_1831, kw_132, kw_1834, ⟨nh_43.1, nh_43.2, pd_1⟩, Nat.le_of_ble_eq_true rfl⟩, kw_1833, kw_71⟩
theorem kw_1835 : Cond.methodLink RX12 273 yX12_cellAtHand ∈ Gw := gt_8 (i := 40) rfl rfl
theorem kw_1838 : Cond.code yX12_cellAtHand cX12_cellAtHand 3 (some .int) ∈ Gw := gt_8 (i := 43) rfl rfl
theorem kw_1837 : Cond.instanceMethod yX12_cellAtHand ∈ Gw := gt_8 (i := 42) rfl rfl
theorem kw_72 : Cond.selects (yX12_cellAtHand).cls yX12_cellAtHand yX12_cellAtHand ∈ Gw := gt_0 (i := 72) (q := (yX12_cellAtHand, 80)) rfl
theorem cw_X12_273 : CwV RX12 273 mX12_cellAtHand 0 := ⟨⟨kw_1835, kw_132, kw_1838, ⟨nh_43.1, nh_43.2, pd_28⟩, Nat.le_of_ble_eq_true rfl⟩, kw_1837, kw_72⟩
theorem kw_1839 : Cond.methodLink RX12 295 yX12_water ∈ Gw := gt_8 (i := 44) rfl rfl
theorem kw_1842 : Cond.code yX12_water cX12_water 2 (some .int) ∈ Gw := gt_8 (i := 47) rfl rfl
theorem kw_1841 : Cond.instanceMethod yX12_water ∈ Gw := gt_8 (i := 46) rfl rfl
theorem kw_73 : Cond.selects (yX12_water).cls yX12_water yX12_water ∈ Gw := gt_0 (i := 73) (q := (yX12_water, 80)) rfl
theorem cw_X12_295 : CwV RX12 295 mX12_water 0 := ⟨⟨kw_1839, kw_132, kw_1842, ⟨nh_43.1, nh_43.2, pd_28⟩, Nat.le_of_ble_eq_true rfl⟩, kw_1841, kw_73⟩
theorem kw_1843 : Cond.methodLink RX12 298 yX12_isleLine ∈ Gw := gt_8 (i := 48) rfl rfl
theorem kw_1846 : Cond.code yX12_isleLine cX12_isleLine 2 none ∈ Gw := gt_8 (i := 51) rfl rfl
theorem kw_1845 : Cond.instanceMethod yX12_isleLine ∈ Gw := gt_8 (i := 50) rfl rfl
theorem kw_74 : Cond.selects (yX12_isleLine).cls yX12_isleLine yX12_isleLine ∈ Gw := gt_0 (i := 74) (q := (yX12_isleLine, 80)) rfl
theorem cw_X12_298 : CwV RX12 298 mX12_isleLine 1 := ⟨⟨kw_1843, kw_132, kw_1846, ⟨nh_43.1, nh_43.2, pd_21⟩, Nat.le_of_ble_eq_true rfl⟩, kw_1845, kw_74⟩
theorem kw_1847 : Cond.methodLink RX12 314 yX12_found ∈ Gw := gt_8 (i := 52) rfl rfl
theorem kw_1849 : Cond.code yX12_found cX12_found 5 (some .int) ∈ Gw := gt_8 (i := 54) rfl rfl
theorem pd_44 : (parseMethodDescriptor "([IIII)I").map (fun d => d.parameters.length) = some 4 := by decide +kernel
theorem kw_1848 : Cond.static yX12_found ∈ Gw := gt_8 (i := 53) rfl rfl
theorem cw_X12_314 : CwS RX12 314 mX12_found 4 := ⟨⟨kw_1847, kw_132, kw_1849, ⟨nh_43.1, nh_43.2, pd_44⟩, Nat.le_of_ble_eq_true rfl⟩, kw_1848⟩
theorem kw_1850 : Cond.methodLink RX12 301 yX12_windLine ∈ Gw := gt_8 (i := 55) rfl rfl
theorem kw_1853 : Cond.code yX12_windLine cX12_windLine 3 none ∈ Gw := gt_8 (i := 58) rfl rfl
theorem kw_1852 : Cond.instanceMethod yX12_windLine ∈ Gw := gt_8 (i := 57) rfl rfl
theorem kw_75 : Cond.selects (yX12_windLine).cls yX12_windLine yX12_windLine ∈ Gw := gt_0 (i := 75) (q := (yX12_windLine, 80)) rfl
theorem cw_X12_301 : CwV RX12 301 mX12_windLine 0 := ⟨⟨kw_1850, kw_132, kw_1853, ⟨nh_43.1, nh_43.2, pd_1⟩, Nat.le_of_ble_eq_true rfl⟩, kw_1852, kw_75⟩
theorem kw_1854 : Cond.methodLink RX12 304 yX12_mouthLine ∈ Gw := gt_8 (i := 59) rfl rfl
theorem kw_1857 : Cond.code yX12_mouthLine cX12_mouthLine 5 none ∈ Gw := gt_8 (i := 62) rfl rfl
theorem pd_45 : (parseMethodDescriptor "(IZ)V").map (fun d => d.parameters.length) = some 2 := by decide +kernel
theorem kw_1856 : Cond.instanceMethod yX12_mouthLine ∈ Gw := gt_8 (i := 61) rfl rfl
theorem kw_76 : Cond.selects (yX12_mouthLine).cls yX12_mouthLine yX12_mouthLine ∈ Gw := gt_0 (i := 76) (q := (yX12_mouthLine, 80)) rfl
theorem cw_X12_304 : CwV RX12 304 mX12_mouthLine 2 := ⟨⟨kw_1854, kw_132, kw_1857, ⟨nh_43.1, nh_43.2, pd_45⟩, Nat.le_of_ble_eq_true rfl⟩, kw_1856, kw_76⟩
theorem kw_1858 : Cond.methodLink RX12 318 yX12_mouthNamed ∈ Gw := gt_8 (i := 63) rfl rfl
theorem kw_1861 : Cond.code yX12_mouthNamed cX12_mouthNamed 3 (some .int) ∈ Gw := gt_8 (i := 66) rfl rfl
theorem kw_1860 : Cond.instanceMethod yX12_mouthNamed ∈ Gw := gt_8 (i := 65) rfl rfl
theorem kw_77 : Cond.selects (yX12_mouthNamed).cls yX12_mouthNamed yX12_mouthNamed ∈ Gw := gt_0 (i := 77) (q := (yX12_mouthNamed, 80)) rfl
theorem cw_X12_318 : CwV RX12 318 mX12_mouthNamed 1 := ⟨⟨kw_1858, kw_132, kw_1861, ⟨nh_43.1, nh_43.2, pd_22⟩, Nat.le_of_ble_eq_true rfl⟩, kw_1860, kw_77⟩
theorem kw_1862 : Cond.methodLink RX12 321 yX12_isWord ∈ Gw := gt_8 (i := 67) rfl rfl
theorem kw_1865 : Cond.code yX12_isWord cX12_isWord 2 (some .boolean) ∈ Gw := gt_8 (i := 70) rfl rfl
theorem kw_1864 : Cond.instanceMethod yX12_isWord ∈ Gw := gt_8 (i := 69) rfl rfl
theorem kw_78 : Cond.selects (yX12_isWord).cls yX12_isWord yX12_isWord ∈ Gw := gt_0 (i := 78) (q := (yX12_isWord, 80)) rfl
theorem cw_X12_321 : CwV RX12 321 mX12_isWord 1 := ⟨⟨kw_1862, kw_132, kw_1865, ⟨nh_43.1, nh_43.2, pd_7⟩, Nat.le_of_ble_eq_true rfl⟩, kw_1864, kw_78⟩
theorem kw_1866 : Cond.methodLink RX12 324 yX12_expression ∈ Gw := gt_8 (i := 71) rfl rfl
theorem kw_1869 : Cond.code yX12_expression cX12_expression 1 none ∈ Gw := gt_8 (i := 74) rfl rfl
theorem kw_1868 : Cond.instanceMethod yX12_expression ∈ Gw := gt_8 (i := 73) rfl rfl
theorem kw_79 : Cond.selects (yX12_expression).cls yX12_expression yX12_expression ∈ Gw := gt_0 (i := 79) (q := (yX12_expression, 80)) rfl
theorem cw_X12_324 : CwV RX12 324 mX12_expression 0 := ⟨⟨kw_1866, kw_132, kw_1869, ⟨nh_43.1, nh_43.2, pd_1⟩, Nat.le_of_ble_eq_true rfl⟩, kw_1868, kw_79⟩
theorem kw_1870 : Cond.methodLink RX12 330 yX12_conjunction ∈ Gw := gt_8 (i := 75) rfl rfl
theorem kw_1873 : Cond.code yX12_conjunction cX12_conjunction 1 none ∈ Gw := gt_8 (i := 78) rfl rfl
theorem kw_1872 : Cond.instanceMethod yX12_conjunction ∈ Gw := gt_8 (i := 77) rfl rfl
theorem kw_80 : Cond.selects (yX12_conjunction).cls yX12_conjunction yX12_conjunction ∈ Gw := gt_0 (i := 80) (q := (yX12_conjunction, 80)) rfl
theorem cw_X12_330 : CwV RX12 330 mX12_conjunction 0 := ⟨⟨kw_1870, kw_132, kw_1873, ⟨nh_43.1, nh_43.2, pd_1⟩, Nat.le_of_ble_eq_true rfl⟩, kw_1872, kw_80⟩
theorem kw_1874 : Cond.methodLink RX12 339 yX12_negation ∈ Gw := gt_8 (i := 79) rfl rfl
theorem kw_1877 : Cond.code yX12_negation cX12_negation 2 none ∈ Gw := gt_8 (i := 82) rfl rfl
theorem kw_1876 : Cond.instanceMethod yX12_negation ∈ Gw := gt_8 (i := 81) rfl rfl
theorem kw_81 : Cond.selects (yX12_negation).cls yX12_negation yX12_negation ∈ Gw := gt_0 (i := 81) (q := (yX12_negation, 80)) rfl
theorem cw_X12_339 : CwV RX12 339 mX12_negation 0 := ⟨⟨kw_1874, kw_132, kw_1877, ⟨nh_43.1, nh_43.2, pd_1⟩, Nat.le_of_ble_eq_true rfl⟩, kw_1876, kw_81⟩
theorem kw_1878 : Cond.methodLink RX12 333 yX12_knot ∈ Gw := gt_8 (i := 83) rfl rfl
theorem kw_1881 : Cond.code yX12_knot cX12_knot 1 none ∈ Gw := gt_8 (i := 86) rfl rfl
theorem kw_1880 : Cond.instanceMethod yX12_knot ∈ Gw := gt_8 (i := 85) rfl rfl
theorem kw_82 : Cond.selects (yX12_knot).cls yX12_knot yX12_knot ∈ Gw := gt_0 (i := 82) (q := (yX12_knot, 80)) rfl
theorem cw_X12_333 : CwV RX12 333 mX12_knot 0 := ⟨⟨kw_1878, kw_132, kw_1881, ⟨nh_43.1, nh_43.2, pd_1⟩, Nat.le_of_ble_eq_true rfl⟩, kw_1880, kw_82⟩
theorem kw_1882 : Cond.methodLink RX12 336 yX12_puts ∈ Gw := gt_8 (i := 87) rfl rfl
theorem kw_1885 : Cond.code yX12_puts cX12_puts 3 none ∈ Gw := gt_8 (i := 90) rfl rfl
theorem kw_1884 : Cond.instanceMethod yX12_puts ∈ Gw := gt_8 (i := 89) rfl rfl
theorem kw_83 : Cond.selects (yX12_puts).cls yX12_puts yX12_puts ∈ Gw := gt_0 (i := 83) (q := (yX12_puts, 80)) rfl
theorem cw_X12_336 : CwV RX12 336 mX12_puts 2 := ⟨⟨kw_1882, kw_132, kw_1885, ⟨nh_43.1, nh_43.2, pd_6⟩, Nat.le_of_ble_eq_true rfl⟩, kw_1884, kw_83⟩
theorem kw_1886 : Cond.methodLink RX12 342 yX12_sum ∈ Gw := gt_8 (i := 91) rfl rfl
theorem kw_1889 : Cond.code yX12_sum cX12_sum 2 none ∈ Gw := gt_8 (i := 94) rfl rfl
theorem kw_1888 : Cond.instanceMethod yX12_sum ∈ Gw := gt_8 (i := 93) rfl rfl
theorem kw_84 : Cond.selects (yX12_sum).cls yX12_sum yX12_sum ∈ Gw := gt_0 (i := 84) (q := (yX12_sum, 80)) rfl
theorem cw_X12_342 : CwV RX12 342 mX12_sum 0 := ⟨⟨kw_1886, kw_132, kw_1889, ⟨nh_43.1, nh_43.2, pd_1⟩, Nat.le_of_ble_eq_true rfl⟩, kw_1888, kw_84⟩
theorem kw_1890 : Cond.methodLink RX12 345 yX12_product ∈ Gw := gt_8 (i := 95) rfl rfl
theorem kw_1893 : Cond.code yX12_product cX12_product 2 none ∈ Gw := gt_8 (i := 98) rfl rfl
theorem kw_1892 : Cond.instanceMethod yX12_product ∈ Gw := gt_8 (i := 97) rfl rfl
theorem kw_85 : Cond.selects (yX12_product).cls yX12_product yX12_product ∈ Gw := gt_0 (i := 85) (q := (yX12_product, 80)) rfl
theorem cw_X12_345 : CwV RX12 345 mX12_product 0 := ⟨⟨kw_1890, kw_132, kw_1893, ⟨nh_43.1, nh_43.2, pd_1⟩, Nat.le_of_ble_eq_true rfl⟩, kw_1892, kw_85⟩
theorem kw_1894 : Cond.methodLink RX12 348 yX12_primary ∈ Gw := gt_8 (i := 99) rfl rfl
theorem kw_1897 : Cond.code yX12_primary cX12_primary 2 none ∈ Gw := gt_8 (i := 102) rfl rfl
theorem kw_1896 : Cond.instanceMethod yX12_primary ∈ Gw := gt_8 (i := 101) rfl rfl
theorem kw_86 : Cond.selects (yX12_primary).cls yX12_primary yX12_primary ∈ Gw := gt_0 (i := 86) (q := (yX12_primary, 80)) rfl
theorem cw_X12_348 : CwV RX12 348 mX12_primary 0 := ⟨⟨kw_1894, kw_132, kw_1897, ⟨nh_43.1, nh_43.2, pd_1⟩, Nat.le_of_ble_eq_true rfl⟩, kw_1896, kw_86⟩
theorem kw_1898 : Cond.methodLink RX12 308 yX12_isSign ∈ Gw := gt_8 (i := 103) rfl rfl
theorem kw_1901 : Cond.code yX12_isSign cX12_isSign 2 (some .boolean) ∈ Gw := gt_8 (i := 106) rfl rfl
theorem kw_1900 : Cond.instanceMethod yX12_isSign ∈ Gw := gt_8 (i := 105) rfl rfl
theorem kw_87 : Cond.selects (yX12_isSign).cls yX12_isSign yX12_isSign ∈ Gw := gt_0 (i := 87) (q := (yX12_isSign, 80)) rfl
theorem cw_X12_308 : CwV RX12 308 mX12_isSign 1 := ⟨⟨kw_1898, kw_132, kw_1901, ⟨nh_43.1, nh_43.2, pd_7⟩, Nat.le_of_ble_eq_true rfl⟩, kw_1900, kw_87⟩
theorem kw_1902 : Cond.methodLink RX12 360 yX12_half ∈ Gw := gt_8 (i := 107) rfl rfl
theorem kw_1904 : Cond.code yX12_half cX12_half 3 none ∈ Gw := gt_8 (i := 109) rfl rfl
theorem pd_46 : (parseMethodDescriptor "([I)V").map (fun d => d.parameters.length) = some 1 := by decide +kernel
theorem kw_1903 : Cond.static yX12_half ∈ Gw := gt_8 (i := 108) rfl rfl
theorem cw_X12_360 : CwS RX12 360 mX12_half 1 := ⟨⟨kw_1902, kw_132, kw_1904, ⟨nh_43.1, nh_43.2, pd_46⟩, Nat.le_of_ble_eq_true rfl⟩, kw_1903⟩
theorem kw_1905 : Cond.methodLink RL 34 yX12_fault ∈ Gw := gt_8 (i := 110) rfl rfl
theorem kw_1908 : Cond.code yX12_fault cX12_fault 2 (some .int) ∈ Gw := gt_8 (i := 113) rfl rfl
theorem kw_1906 : Cond.instanceMethod yX12_fault ∈ Gw := gt_8 (i := 111) rfl rfl
theorem kw_1907 : Cond.selects (yX12_fault).cls yX12_fault yX12_fault ∈ Gw := gt_8 (i := 112) rfl rfl
theorem cw_L_34 : CwV RL 34 mX12_fault 1 := ⟨⟨kw_1905, kw_132, kw_1908, ⟨nh_43.1, nh_43.2, pd_22⟩, Nat.le_of_ble_eq_true rfl⟩, kw_1906, kw_1907⟩
theorem kw_1909 : Cond.methodLink RL 38 yX12_named ∈ Gw := gt_8 (i := 114) rfl rfl
theorem kw_1912 : Cond.code yX12_named cX12_named 4 (some .int) ∈ Gw := gt_8 (i := 117) rfl rfl
theorem kw_1910 : Cond.instanceMethod yX12_named ∈ Gw := gt_8 (i := 115) rfl rfl
theorem kw_1911 : Cond.selects (yX12_named).cls yX12_named yX12_named ∈ Gw := gt_8 (i := 116) rfl rfl
theorem cw_L_38 : CwV RL 38 mX12_named 2 := ⟨⟨kw_1909, kw_132, kw_1912, ⟨nh_43.1, nh_43.2, pd_8⟩, Nat.le_of_ble_eq_true rfl⟩, kw_1910, kw_1911⟩
theorem kw_1913 : Cond.methodLink RL 56 yX12_far ∈ Gw := gt_8 (i := 118) rfl rfl
theorem kw_1916 : Cond.code yX12_far cX12_far 3 (some .int) ∈ Gw := gt_8 (i := 121) rfl rfl
theorem kw_1914 : Cond.instanceMethod yX12_far ∈ Gw := gt_8 (i := 119) rfl rfl
theorem kw_1915 : Cond.selects (yX12_far).cls yX12_far yX12_far ∈ Gw := gt_8 (i := 120) rfl rfl
theorem cw_L_56 : CwV RL 56 mX12_far 2 := ⟨⟨kw_1913, kw_132, kw_1916, ⟨nh_43.1, nh_43.2, pd_8⟩, Nat.le_of_ble_eq_true rfl⟩, kw_1914, kw_1915⟩
theorem kw_1917 : Cond.methodLink RX12 380 yX12_isCell ∈ Gw := gt_8 (i := 122) rfl rfl
theorem kw_1920 : Cond.code yX12_isCell cX12_isCell 2 (some .boolean) ∈ Gw := gt_8 (i := 125) rfl rfl
theorem kw_1919 : Cond.instanceMethod yX12_isCell ∈ Gw := gt_8 (i := 124) rfl rfl
theorem kw_88 : Cond.selects (yX12_isCell).cls yX12_isCell yX12_isCell ∈ Gw := gt_0 (i := 88) (q := (yX12_isCell, 80)) rfl
theorem cw_X12_380 : CwV RX12 380 mX12_isCell 1 := ⟨⟨kw_1917, kw_132, kw_1920, ⟨nh_43.1, nh_43.2, pd_7⟩, Nat.le_of_ble_eq_true rfl⟩, kw_1919, kw_88⟩
theorem kw_1921 : Cond.methodLink RL 60 yX12_land ∈ Gw := gt_8 (i := 126) rfl rfl
theorem kw_1924 : Cond.code yX12_land cX12_land 2 (some .int) ∈ Gw := gt_8 (i := 129) rfl rfl
theorem kw_1922 : Cond.instanceMethod yX12_land ∈ Gw := gt_8 (i := 127) rfl rfl
theorem kw_1923 : Cond.selects (yX12_land).cls yX12_land yX12_land ∈ Gw := gt_8 (i := 128) rfl rfl
theorem cw_L_60 : CwV RL 60 mX12_land 1 := ⟨⟨kw_1921, kw_132, kw_1924, ⟨nh_43.1, nh_43.2, pd_22⟩, Nat.le_of_ble_eq_true rfl⟩, kw_1922, kw_1923⟩
theorem kw_1925 : Cond.methodLink RL 44 yX12_look ∈ Gw := gt_8 (i := 130) rfl rfl
theorem kw_1928 : Cond.code yX12_look cX12_look 4 (some .int) ∈ Gw := gt_8 (i := 133) rfl rfl
theorem kw_1926 : Cond.instanceMethod yX12_look ∈ Gw := gt_8 (i := 131) rfl rfl
theorem kw_1927 : Cond.selects (yX12_look).cls yX12_look yX12_look ∈ Gw := gt_8 (i := 132) rfl rfl
theorem cw_L_44 : CwV RL 44 mX12_look 2 := ⟨⟨kw_1925, kw_132, kw_1928, ⟨nh_43.1, nh_43.2, pd_8⟩, Nat.le_of_ble_eq_true rfl⟩, kw_1926, kw_1927⟩
theorem kw_1929 : Cond.methodLink RX12 452 yX12_slot ∈ Gw := gt_8 (i := 134) rfl rfl
theorem kw_1932 : Cond.code yX12_slot cX12_slot 2 (some .int) ∈ Gw := gt_8 (i := 137) rfl rfl
theorem kw_1931 : Cond.instanceMethod yX12_slot ∈ Gw := gt_8 (i := 136) rfl rfl
theorem kw_89 : Cond.selects (yX12_slot).cls yX12_slot yX12_slot ∈ Gw := gt_0 (i := 89) (q := (yX12_slot, 80)) rfl
theorem cw_X12_452 : CwV RX12 452 mX12_slot 1 := ⟨⟨kw_1929, kw_132, kw_1932, ⟨nh_43.1, nh_43.2, pd_22⟩, Nat.le_of_ble_eq_true rfl⟩, kw_1931, kw_89⟩
theorem kw_1933 : Cond.methodLink RX12 455 yX12_plain ∈ Gw := gt_8 (i := 138) rfl rfl
theorem kw_1936 : Cond.code yX12_plain cX12_plain 1 none ∈ Gw := gt_8 (i := 141) rfl rfl
theorem kw_1935 : Cond.instanceMethod yX12_plain ∈ Gw := gt_8 (i := 140) rfl rfl
theorem kw_90 : Cond.selects (yX12_plain).cls yX12_plain yX12_plain ∈ Gw := gt_0 (i := 90) (q := (yX12_plain, 80)) rfl
theorem cw_X12_455 : CwV RX12 455 mX12_plain 0 := ⟨⟨kw_1933, kw_132, kw_1936, ⟨nh_43.1, nh_43.2, pd_1⟩, Nat.le_of_ble_eq_true rfl⟩, kw_1935, kw_90⟩
theorem kw_1937 : Cond.methodLink RX12 422 yX12_isAboard ∈ Gw := gt_8 (i := 142) rfl rfl
theorem kw_1940 : Cond.code yX12_isAboard cX12_isAboard 3 (some .boolean) ∈ Gw := gt_8 (i := 145) rfl rfl
theorem kw_1939 : Cond.instanceMethod yX12_isAboard ∈ Gw := gt_8 (i := 144) rfl rfl
theorem kw_91 : Cond.selects (yX12_isAboard).cls yX12_isAboard yX12_isAboard ∈ Gw := gt_0 (i := 91) (q := (yX12_isAboard, 80)) rfl
theorem cw_X12_422 : CwV RX12 422 mX12_isAboard 2 := ⟨⟨kw_1937, kw_132, kw_1940, ⟨nh_43.1, nh_43.2, pd_25⟩, Nat.le_of_ble_eq_true rfl⟩, kw_1939, kw_91⟩
theorem kw_1941 : Cond.methodLink RX12 386 yX12_isThere ∈ Gw := gt_8 (i := 146) rfl rfl
theorem kw_1944 : Cond.code yX12_isThere cX12_isThere 2 (some .boolean) ∈ Gw := gt_8 (i := 149) rfl rfl
theorem kw_1943 : Cond.instanceMethod yX12_isThere ∈ Gw := gt_8 (i := 148) rfl rfl
theorem kw_92 : Cond.selects (yX12_isThere).cls yX12_isThere yX12_isThere ∈ Gw := gt_0 (i := 92) (q := (yX12_isThere, 80)) rfl
theorem cw_X12_386 : CwV RX12 386 mX12_isThere 1 := ⟨⟨kw_1941, kw_132, kw_1944, ⟨nh_43.1, nh_43.2, pd_7⟩, Nat.le_of_ble_eq_true rfl⟩, kw_1943, kw_92⟩
theorem kw_1945 : Cond.methodLink RX12 426 yX12_platesOf ∈ Gw := gt_8 (i := 150) rfl rfl
theorem kw_1948 : Cond.code yX12_platesOf cX12_platesOf 3 (some .int) ∈ Gw := gt_8 (i := 153) rfl rfl
theorem kw_1947 : Cond.instanceMethod yX12_platesOf ∈ Gw := gt_8 (i := 152) rfl rfl
theorem kw_93 : Cond.selects (yX12_platesOf).cls yX12_platesOf yX12_platesOf ∈ Gw := gt_0 (i := 93) (q := (yX12_platesOf, 80)) rfl
theorem cw_X12_426 : CwV RX12 426 mX12_platesOf 2 := ⟨⟨kw_1945, kw_132, kw_1948, ⟨nh_43.1, nh_43.2, pd_8⟩, Nat.le_of_ble_eq_true rfl⟩, kw_1947, kw_93⟩
theorem kw_1949 : Cond.methodLink RL 52 yX12_ship ∈ Gw := gt_8 (i := 154) rfl rfl
theorem kw_1952 : Cond.code yX12_ship cX12_ship 2 (some .int) ∈ Gw := gt_8 (i := 157) rfl rfl
theorem kw_1950 : Cond.instanceMethod yX12_ship ∈ Gw := gt_8 (i := 155) rfl rfl
theorem kw_1951 : Cond.selects (yX12_ship).cls yX12_ship yX12_ship ∈ Gw := gt_8 (i := 156) rfl rfl
theorem cw_L_52 : CwV RL 52 mX12_ship 1 := ⟨⟨kw_1949, kw_132, kw_1952, ⟨nh_43.1, nh_43.2, pd_22⟩, Nat.le_of_ble_eq_true rfl⟩, kw_1950, kw_1951⟩
theorem kw_1953 : Cond.methodLink RL 64 yX12_wish ∈ Gw := gt_8 (i := 158) rfl rfl
theorem kw_1956 : Cond.code yX12_wish cX12_wish 3 (some .int) ∈ Gw := gt_8 (i := 161) rfl rfl
theorem kw_1954 : Cond.instanceMethod yX12_wish ∈ Gw := gt_8 (i := 159) rfl rfl
theorem kw_1955 : Cond.selects (yX12_wish).cls yX12_wish yX12_wish ∈ Gw := gt_8 (i := 160) rfl rfl
theorem cw_L_64 : CwV RL 64 mX12_wish 1 := ⟨⟨kw_1953, kw_132, kw_1956, ⟨nh_43.1, nh_43.2, pd_22⟩, Nat.le_of_ble_eq_true rfl⟩, kw_1954, kw_1955⟩
theorem kw_1957 : Cond.methodLink RX12 443 yX12_sits ∈ Gw := gt_8 (i := 162) rfl rfl
theorem kw_1960 : Cond.code yX12_sits cX12_sits 6 none ∈ Gw := gt_8 (i := 165) rfl rfl
theorem kw_1959 : Cond.instanceMethod yX12_sits ∈ Gw := gt_8 (i := 164) rfl rfl
theorem kw_94 : Cond.selects (yX12_sits).cls yX12_sits yX12_sits ∈ Gw := gt_0 (i := 94) (q := (yX12_sits, 80)) rfl
theorem cw_X12_443 : CwV RX12 443 mX12_sits 1 := ⟨⟨kw_1957, kw_132, kw_1960, ⟨nh_43.1, nh_43.2, pd_21⟩, Nat.le_of_ble_eq_true rfl⟩, kw_1959, kw_94⟩
theorem kw_1961 : Cond.methodLink RX12 429 Lib.Math.min.name ∈ Gw := gt_8 (i := 166) rfl rfl
theorem mw_X12_429 : Mw RX12 429 Lib.Math.min.name Lib.Math.min.code 2 (some .int) := ⟨kw_1961, kw_837, kw_133, kw_838⟩
theorem kw_1962 : Cond.methodLink RX12 432 yX12_votesFor ∈ Gw := gt_8 (i := 167) rfl rfl
theorem kw_1965 : Cond.code yX12_votesFor cX12_votesFor 12 (some .int) ∈ Gw := gt_8 (i := 170) rfl rfl
theorem pd_47 : (parseMethodDescriptor "(IIII)I").map (fun d => d.parameters.length) = some 4 := by decide +kernel
theorem kw_1964 : Cond.instanceMethod yX12_votesFor ∈ Gw := gt_8 (i := 169) rfl rfl
theorem kw_95 : Cond.selects (yX12_votesFor).cls yX12_votesFor yX12_votesFor ∈ Gw := gt_0 (i := 95) (q := (yX12_votesFor, 80)) rfl
theorem cw_X12_432 : CwV RX12 432 mX12_votesFor 4 := ⟨⟨kw_1962, kw_132, kw_1965, ⟨nh_43.1, nh_43.2, pd_47⟩, Nat.le_of_ble_eq_true rfl⟩, kw_1964, kw_95⟩
theorem kw_1966 : Cond.methodLink RX12 415 yX12_says ∈ Gw := gt_8 (i := 171) rfl rfl
theorem kw_1969 : Cond.code yX12_says cX12_says 7 (some .boolean) ∈ Gw := gt_8 (i := 174) rfl rfl
theorem pd_48 : (parseMethodDescriptor "(IIIIII)Z").map (fun d => d.parameters.length) = some 6 := by decide +kernel
theorem kw_1968 : Cond.instanceMethod yX12_says ∈ Gw := gt_8 (i := 173) rfl rfl
theorem kw_96 : Cond.selects (yX12_says).cls yX12_says yX12_says ∈ Gw := gt_0 (i := 96) (q := (yX12_says, 80)) rfl
theorem cw_X12_415 : CwV RX12 415 mX12_says 6 := ⟨⟨kw_1966, kw_132, kw_1969, ⟨nh_43.1, nh_43.2, pd_48⟩, Nat.le_of_ble_eq_true rfl⟩, kw_1968, kw_96⟩
theorem kw_1970 : Cond.methodLink RX12 409 yX12_windOf ∈ Gw := gt_8 (i := 175) rfl rfl
theorem kw_1973 : Cond.code yX12_windOf cX12_windOf 2 (some .int) ∈ Gw := gt_8 (i := 178) rfl rfl
theorem kw_1972 : Cond.instanceMethod yX12_windOf ∈ Gw := gt_8 (i := 177) rfl rfl
theorem kw_97 : Cond.selects (yX12_windOf).cls yX12_windOf yX12_windOf ∈ Gw := gt_0 (i := 97) (q := (yX12_windOf, 80)) rfl
theorem cw_X12_409 : CwV RX12 409 mX12_windOf 1 := ⟨⟨kw_1970, kw_132, kw_1973, ⟨nh_43.1, nh_43.2, pd_22⟩, Nat.le_of_ble_eq_true rfl⟩, kw_1972, kw_97⟩
theorem kw_1974 : Cond.methodLink RX12 392 yX12_is ∈ Gw := gt_8 (i := 179) rfl rfl
theorem kw_1976 : Cond.code yX12_is cX12_is 1 (some .long) ∈ Gw := gt_8 (i := 181) rfl rfl
theorem pd_49 : (parseMethodDescriptor "(Z)J").map (fun d => d.parameters.length) = some 1 := by decide +kernel
theorem kw_1975 : Cond.static yX12_is ∈ Gw := gt_8 (i := 180) rfl rfl
theorem cw_X12_392 : CwS RX12 392 mX12_is 1 := ⟨⟨kw_1974, kw_132, kw_1976, ⟨nh_43.1, nh_43.2, pd_49⟩, Nat.le_of_ble_eq_true rfl⟩, kw_1975⟩
theorem kw_1977 : Cond.methodLink RX12 412 yX12_goes ∈ Gw := gt_8 (i := 182) rfl rfl
theorem kw_1980 : Cond.code yX12_goes cX12_goes 3 (some .boolean) ∈ Gw := gt_8 (i := 185) rfl rfl
theorem kw_1979 : Cond.instanceMethod yX12_goes ∈ Gw := gt_8 (i := 184) rfl rfl
theorem kw_98 : Cond.selects (yX12_goes).cls yX12_goes yX12_goes ∈ Gw := gt_0 (i := 98) (q := (yX12_goes, 80)) rfl
theorem cw_X12_412 : CwV RX12 412 mX12_goes 1 := ⟨⟨kw_1977, kw_132, kw_1980, ⟨nh_43.1, nh_43.2, pd_7⟩, Nat.le_of_ble_eq_true rfl⟩, kw_1979, kw_98⟩
theorem kw_1981 : Cond.methodLink RX12 406 yX12_works ∈ Gw := gt_8 (i := 186) rfl rfl
theorem kw_1984 : Cond.code yX12_works cX12_works 8 (some .boolean) ∈ Gw := gt_8 (i := 189) rfl rfl
theorem kw_1983 : Cond.instanceMethod yX12_works ∈ Gw := gt_8 (i := 188) rfl rfl
theorem kw_99 : Cond.selects (yX12_works).cls yX12_works yX12_works ∈ Gw := gt_0 (i := 99) (q := (yX12_works, 80)) rfl
theorem cw_X12_406 : CwV RX12 406 mX12_works 1 := ⟨⟨kw_1981, kw_132, kw_1984, ⟨nh_43.1, nh_43.2, pd_7⟩, Nat.le_of_ble_eq_true rfl⟩, kw_1983, kw_99⟩
theorem kw_1985 : Cond.methodLink RX12 396 Lib.MathLoose.abs_long.x ∈ Gw := gt_8 (i := 190) rfl rfl
theorem mw_X12_396 : Mw RX12 396 Lib.MathLoose.abs_long.x Lib.MathLoose.abs_long.code 2 (some .long) := ⟨kw_1985, kw_1129, kw_133, kw_1130⟩
theorem kw_1988 : Cond.methodLink RX12 436 yX12_nearest ∈ Gw := gt_8 (i := 193) rfl rfl
theorem kw_1991 : Cond.code yX12_nearest cX12_nearest 7 (some .int) ∈ Gw := gt_8 (i := 196) rfl rfl
theorem kw_1990 : Cond.instanceMethod yX12_nearest ∈ Gw := gt_8 (i := 195) rfl rfl
theorem kw_100 : Cond.selects (yX12_nearest).cls yX12_nearest yX12_nearest ∈ Gw := gt_0 (i := 100) (q := (yX12_nearest, 80)) rfl
theorem cw_X12_436 : CwV RX12 436 mX12_nearest 2 := ⟨⟨kw_1988, kw_132, kw_1991, ⟨nh_43.1, nh_43.2, pd_8⟩, Nat.le_of_ble_eq_true rfl⟩, kw_1990, kw_100⟩
theorem kw_1992 : Cond.methodLink RL 69 yX12_law ∈ Gw := gt_8 (i := 197) rfl rfl
theorem kw_1995 : Cond.code yX12_law cX12_law 6 (some .long) ∈ Gw := gt_8 (i := 200) rfl rfl
theorem kw_1993 : Cond.instanceMethod yX12_law ∈ Gw := gt_8 (i := 198) rfl rfl
theorem kw_1994 : Cond.selects (yX12_law).cls yX12_law yX12_law ∈ Gw := gt_8 (i := 199) rfl rfl
theorem cw_L_69 : CwV RL 69 mX12_law 3 := ⟨⟨kw_1992, kw_132, kw_1995, ⟨nh_43.1, nh_43.2, pd_36⟩, Nat.le_of_ble_eq_true rfl⟩, kw_1993, kw_1994⟩
theorem kw_1997 : Cond.methodLink RL 73 yX12_votes ∈ Gw := gt_8 (i := 202) rfl rfl
theorem kw_2000 : Cond.code yX12_votes cX12_votes 2 (some .int) ∈ Gw := gt_8 (i := 205) rfl rfl
theorem kw_1998 : Cond.instanceMethod yX12_votes ∈ Gw := gt_8 (i := 203) rfl rfl
theorem kw_1999 : Cond.selects (yX12_votes).cls yX12_votes yX12_votes ∈ Gw := gt_8 (i := 204) rfl rfl
theorem cw_L_73 : CwV RL 73 mX12_votes 1 := ⟨⟨kw_1997, kw_132, kw_2000, ⟨nh_43.1, nh_43.2, pd_22⟩, Nat.le_of_ble_eq_true rfl⟩, kw_1998, kw_1999⟩
theorem kw_2001 : Cond.methodLink RL 78 yX12_fed ∈ Gw := gt_8 (i := 206) rfl rfl
theorem kw_2004 : Cond.code yX12_fed cX12_fed 2 (some .boolean) ∈ Gw := gt_8 (i := 209) rfl rfl
theorem kw_2002 : Cond.instanceMethod yX12_fed ∈ Gw := gt_8 (i := 207) rfl rfl
theorem kw_2003 : Cond.selects (yX12_fed).cls yX12_fed yX12_fed ∈ Gw := gt_8 (i := 208) rfl rfl
theorem cw_L_78 : CwV RL 78 mX12_fed 1 := ⟨⟨kw_2001, kw_132, kw_2004, ⟨nh_43.1, nh_43.2, pd_7⟩, Nat.le_of_ble_eq_true rfl⟩, kw_2002, kw_2003⟩
theorem kw_2005 : Cond.methodLink RL 82 yX12_truth ∈ Gw := gt_8 (i := 210) rfl rfl
theorem kw_2008 : Cond.code yX12_truth cX12_truth 2 (some .boolean) ∈ Gw := gt_8 (i := 213) rfl rfl
theorem kw_2006 : Cond.instanceMethod yX12_truth ∈ Gw := gt_8 (i := 211) rfl rfl
theorem kw_2007 : Cond.selects (yX12_truth).cls yX12_truth yX12_truth ∈ Gw := gt_8 (i := 212) rfl rfl
theorem cw_L_82 : CwV RL 82 mX12_truth 1 := ⟨⟨kw_2005, kw_132, kw_2008, ⟨nh_43.1, nh_43.2, pd_7⟩, Nat.le_of_ble_eq_true rfl⟩, kw_2006, kw_2007⟩
theorem kw_2009 : Cond.methodLink RL 86 yX12_meals ∈ Gw := gt_8 (i := 214) rfl rfl
theorem kw_2012 : Cond.code yX12_meals cX12_meals 3 (some .int) ∈ Gw := gt_8 (i := 217) rfl rfl
theorem kw_2010 : Cond.instanceMethod yX12_meals ∈ Gw := gt_8 (i := 215) rfl rfl
theorem kw_2011 : Cond.selects (yX12_meals).cls yX12_meals yX12_meals ∈ Gw := gt_8 (i := 216) rfl rfl
theorem cw_L_86 : CwV RL 86 mX12_meals 1 := ⟨⟨kw_2009, kw_132, kw_2012, ⟨nh_43.1, nh_43.2, pd_22⟩, Nat.le_of_ble_eq_true rfl⟩, kw_2010, kw_2011⟩
theorem kw_2013 : Cond.methodLink RX12 462 yX12_keepNow ∈ Gw := gt_8 (i := 218) rfl rfl
theorem kw_2016 : Cond.code yX12_keepNow cX12_keepNow 2 none ∈ Gw := gt_8 (i := 221) rfl rfl
theorem kw_2015 : Cond.instanceMethod yX12_keepNow ∈ Gw := gt_8 (i := 220) rfl rfl
theorem kw_101 : Cond.selects (yX12_keepNow).cls yX12_keepNow yX12_keepNow ∈ Gw := gt_0 (i := 101) (q := (yX12_keepNow, 80)) rfl
theorem cw_X12_462 : CwV RX12 462 mX12_keepNow 0 := ⟨⟨kw_2013, kw_132, kw_2016, ⟨nh_43.1, nh_43.2, pd_1⟩, Nat.le_of_ble_eq_true rfl⟩, kw_2015, kw_101⟩
theorem kw_2017 : Cond.methodLink RX12 468 yX12_copies ∈ Gw := gt_8 (i := 222) rfl rfl
theorem kw_2020 : Cond.code yX12_copies cX12_copies 4 none ∈ Gw := gt_8 (i := 225) rfl rfl
theorem kw_2019 : Cond.instanceMethod yX12_copies ∈ Gw := gt_8 (i := 224) rfl rfl
theorem kw_102 : Cond.selects (yX12_copies).cls yX12_copies yX12_copies ∈ Gw := gt_0 (i := 102) (q := (yX12_copies, 80)) rfl
theorem cw_X12_468 : CwV RX12 468 mX12_copies 2 := ⟨⟨kw_2017, kw_132, kw_2020, ⟨nh_43.1, nh_43.2, pd_6⟩, Nat.le_of_ble_eq_true rfl⟩, kw_2019, kw_102⟩
theorem kw_2021 : Cond.methodLink RX12 465 yX12_passes ∈ Gw := gt_8 (i := 226) rfl rfl
theorem kw_2024 : Cond.code yX12_passes cX12_passes 8 none ∈ Gw := gt_8 (i := 229) rfl rfl
theorem kw_2023 : Cond.instanceMethod yX12_passes ∈ Gw := gt_8 (i := 228) rfl rfl
theorem kw_103 : Cond.selects (yX12_passes).cls yX12_passes yX12_passes ∈ Gw := gt_0 (i := 103) (q := (yX12_passes, 80)) rfl
theorem cw_X12_465 : CwV RX12 465 mX12_passes 1 := ⟨⟨kw_2021, kw_132, kw_2024, ⟨nh_43.1, nh_43.2, pd_21⟩, Nat.le_of_ble_eq_true rfl⟩, kw_2023, kw_103⟩
theorem kw_2025 : Cond.methodLink RX12 446 yX12_draw ∈ Gw := gt_8 (i := 230) rfl rfl
theorem kw_2028 : Cond.code yX12_draw cX12_draw 3 (some .int) ∈ Gw := gt_8 (i := 233) rfl rfl
theorem kw_2027 : Cond.instanceMethod yX12_draw ∈ Gw := gt_8 (i := 232) rfl rfl
theorem kw_104 : Cond.selects (yX12_draw).cls yX12_draw yX12_draw ∈ Gw := gt_0 (i := 104) (q := (yX12_draw, 80)) rfl
theorem cw_X12_446 : CwV RX12 446 mX12_draw 2 := ⟨⟨kw_2025, kw_132, kw_2028, ⟨nh_43.1, nh_43.2, pd_8⟩, Nat.le_of_ble_eq_true rfl⟩, kw_2027, kw_104⟩
theorem kw_2031 : Cond.methodLink RX12 449 yX12_top ∈ Gw := gt_8 (i := 236) rfl rfl
theorem kw_2034 : Cond.code yX12_top cX12_top 3 (some .int) ∈ Gw := gt_8 (i := 239) rfl rfl
theorem kw_2033 : Cond.instanceMethod yX12_top ∈ Gw := gt_8 (i := 238) rfl rfl
theorem kw_105 : Cond.selects (yX12_top).cls yX12_top yX12_top ∈ Gw := gt_0 (i := 105) (q := (yX12_top, 80)) rfl
theorem cw_X12_449 : CwV RX12 449 mX12_top 0 := ⟨⟨kw_2031, kw_132, kw_2034, ⟨nh_43.1, nh_43.2, pd_28⟩, Nat.le_of_ble_eq_true rfl⟩, kw_2033, kw_105⟩
theorem kw_2035 : Cond.methodLink RL 90 yX12_log ∈ Gw := gt_9 (i := 0) rfl rfl
theorem kw_2038 : Cond.code yX12_log cX12_log 3 (some .int) ∈ Gw := gt_9 (i := 3) rfl rfl
theorem kw_2036 : Cond.instanceMethod yX12_log ∈ Gw := gt_9 (i := 1) rfl rfl
theorem kw_2037 : Cond.selects (yX12_log).cls yX12_log yX12_log ∈ Gw := gt_9 (i := 2) rfl rfl
theorem cw_L_90 : CwV RL 90 mX12_log 2 := ⟨⟨kw_2035, kw_132, kw_2038, ⟨nh_43.1, nh_43.2, pd_8⟩, Nat.le_of_ble_eq_true rfl⟩, kw_2036, kw_2037⟩
theorem kw_2039 : Cond.methodLink RL 94 yX12_plan ∈ Gw := gt_9 (i := 4) rfl rfl
theorem kw_2042 : Cond.code yX12_plan cX12_plan 3 (some .int) ∈ Gw := gt_9 (i := 7) rfl rfl
theorem kw_2040 : Cond.instanceMethod yX12_plan ∈ Gw := gt_9 (i := 5) rfl rfl
theorem kw_2041 : Cond.selects (yX12_plan).cls yX12_plan yX12_plan ∈ Gw := gt_9 (i := 6) rfl rfl
theorem cw_L_94 : CwV RL 94 mX12_plan 2 := ⟨⟨kw_2039, kw_132, kw_2042, ⟨nh_43.1, nh_43.2, pd_8⟩, Nat.le_of_ble_eq_true rfl⟩, kw_2040, kw_2041⟩
theorem kw_2043 : Cond.methodLink RX12 482 yX12_plans ∈ Gw := gt_9 (i := 8) rfl rfl
theorem kw_2046 : Cond.code yX12_plans cX12_plans 5 none ∈ Gw := gt_9 (i := 11) rfl rfl
theorem kw_2045 : Cond.instanceMethod yX12_plans ∈ Gw := gt_9 (i := 10) rfl rfl
theorem kw_106 : Cond.selects (yX12_plans).cls yX12_plans yX12_plans ∈ Gw := gt_0 (i := 106) (q := (yX12_plans, 80)) rfl
theorem cw_X12_482 : CwV RX12 482 mX12_plans 3 := ⟨⟨kw_2043, kw_132, kw_2046, ⟨nh_43.1, nh_43.2, pd_39⟩, Nat.le_of_ble_eq_true rfl⟩, kw_2045, kw_106⟩
theorem kw_2047 : Cond.methodLink RX12 477 yX12_puts_ ∈ Gw := gt_9 (i := 12) rfl rfl
theorem kw_2050 : Cond.code yX12_puts_ cX12_puts_ 3 none ∈ Gw := gt_9 (i := 15) rfl rfl
theorem kw_2049 : Cond.instanceMethod yX12_puts_ ∈ Gw := gt_9 (i := 14) rfl rfl
theorem kw_107 : Cond.selects (yX12_puts_).cls yX12_puts_ yX12_puts_ ∈ Gw := gt_0 (i := 107) (q := (yX12_puts_, 80)) rfl
theorem cw_X12_477 : CwV RX12 477 mX12_puts_ 1 := ⟨⟨kw_2047, kw_132, kw_2050, ⟨nh_43.1, nh_43.2, pd_21⟩, Nat.le_of_ble_eq_true rfl⟩, kw_2049, kw_107⟩
theorem kw_2051 : Cond.methodLink RX12 479 yX12_takes ∈ Gw := gt_9 (i := 16) rfl rfl
theorem kw_2054 : Cond.code yX12_takes cX12_takes 3 none ∈ Gw := gt_9 (i := 19) rfl rfl
theorem kw_2053 : Cond.instanceMethod yX12_takes ∈ Gw := gt_9 (i := 18) rfl rfl
theorem kw_108 : Cond.selects (yX12_takes).cls yX12_takes yX12_takes ∈ Gw := gt_0 (i := 108) (q := (yX12_takes, 80)) rfl
theorem cw_X12_479 : CwV RX12 479 mX12_takes 1 := ⟨⟨kw_2051, kw_132, kw_2054, ⟨nh_43.1, nh_43.2, pd_21⟩, Nat.le_of_ble_eq_true rfl⟩, kw_2053, kw_108⟩
theorem kw_2055 : Cond.methodLink RL 98 yX12_power ∈ Gw := gt_9 (i := 20) rfl rfl
theorem kw_2058 : Cond.code yX12_power cX12_power 11 (some .int) ∈ Gw := gt_9 (i := 23) rfl rfl
theorem kw_2056 : Cond.instanceMethod yX12_power ∈ Gw := gt_9 (i := 21) rfl rfl
theorem kw_2057 : Cond.selects (yX12_power).cls yX12_power yX12_power ∈ Gw := gt_9 (i := 22) rfl rfl
theorem cw_L_98 : CwV RL 98 mX12_power 2 := ⟨⟨kw_2055, kw_132, kw_2058, ⟨nh_43.1, nh_43.2, pd_8⟩, Nat.le_of_ble_eq_true rfl⟩, kw_2056, kw_2057⟩
theorem kw_2059 : Cond.methodLink RX12 486 yX12_bitsOf ∈ Gw := gt_9 (i := 24) rfl rfl
theorem kw_2061 : Cond.code yX12_bitsOf cX12_bitsOf 3 (some .int) ∈ Gw := gt_9 (i := 26) rfl rfl
theorem kw_2060 : Cond.static yX12_bitsOf ∈ Gw := gt_9 (i := 25) rfl rfl
theorem cw_X12_486 : CwS RX12 486 mX12_bitsOf 1 := ⟨⟨kw_2059, kw_132, kw_2061, ⟨nh_43.1, nh_43.2, pd_22⟩, Nat.le_of_ble_eq_true rfl⟩, kw_2060⟩
theorem kw_2062 : Cond.methodLink RX12 489 yX12_factorial ∈ Gw := gt_9 (i := 27) rfl rfl
theorem kw_2064 : Cond.code yX12_factorial cX12_factorial 3 (some .int) ∈ Gw := gt_9 (i := 29) rfl rfl
theorem kw_2063 : Cond.static yX12_factorial ∈ Gw := gt_9 (i := 28) rfl rfl
theorem cw_X12_489 : CwS RX12 489 mX12_factorial 1 := ⟨⟨kw_2062, kw_132, kw_2064, ⟨nh_43.1, nh_43.2, pd_22⟩, Nat.le_of_ble_eq_true rfl⟩, kw_2063⟩
theorem kw_2065 : Cond.methodLink RX12 492 yX12_common ∈ Gw := gt_9 (i := 30) rfl rfl
theorem kw_2067 : Cond.code yX12_common cX12_common 5 (some .int) ∈ Gw := gt_9 (i := 32) rfl rfl
theorem kw_2066 : Cond.static yX12_common ∈ Gw := gt_9 (i := 31) rfl rfl
theorem cw_X12_492 : CwS RX12 492 mX12_common 2 := ⟨⟨kw_2065, kw_132, kw_2067, ⟨nh_43.1, nh_43.2, pd_8⟩, Nat.le_of_ble_eq_true rfl⟩, kw_2066⟩
theorem kw_2068 : Cond.methodLink RL 102 yX12_taken ∈ Gw := gt_9 (i := 33) rfl rfl
theorem kw_2071 : Cond.code yX12_taken cX12_taken 3 (some .int) ∈ Gw := gt_9 (i := 36) rfl rfl
theorem kw_2069 : Cond.instanceMethod yX12_taken ∈ Gw := gt_9 (i := 34) rfl rfl
theorem kw_2070 : Cond.selects (yX12_taken).cls yX12_taken yX12_taken ∈ Gw := gt_9 (i := 35) rfl rfl
theorem cw_L_102 : CwV RL 102 mX12_taken 2 := ⟨⟨kw_2068, kw_132, kw_2071, ⟨nh_43.1, nh_43.2, pd_8⟩, Nat.le_of_ble_eq_true rfl⟩, kw_2069, kw_2070⟩
theorem kw_2072 : Cond.methodLink RX12 495 yX12_added ∈ Gw := gt_9 (i := 37) rfl rfl
theorem kw_2075 : Cond.code yX12_added cX12_added 4 (some .int) ∈ Gw := gt_9 (i := 40) rfl rfl
theorem kw_2074 : Cond.instanceMethod yX12_added ∈ Gw := gt_9 (i := 39) rfl rfl
theorem kw_109 : Cond.selects (yX12_added).cls yX12_added yX12_added ∈ Gw := gt_0 (i := 109) (q := (yX12_added, 80)) rfl
theorem cw_X12_495 : CwV RX12 495 mX12_added 3 := ⟨⟨kw_2072, kw_132, kw_2075, ⟨nh_43.1, nh_43.2, pd_41⟩, Nat.le_of_ble_eq_true rfl⟩, kw_2074, kw_109⟩
theorem kw_2076 : Cond.methodLink RL 106 yX12_washed ∈ Gw := gt_9 (i := 41) rfl rfl
theorem kw_2079 : Cond.code yX12_washed cX12_washed 3 (some .int) ∈ Gw := gt_9 (i := 44) rfl rfl
theorem kw_2077 : Cond.instanceMethod yX12_washed ∈ Gw := gt_9 (i := 42) rfl rfl
theorem kw_2078 : Cond.selects (yX12_washed).cls yX12_washed yX12_washed ∈ Gw := gt_9 (i := 43) rfl rfl
theorem cw_L_106 : CwV RL 106 mX12_washed 2 := ⟨⟨kw_2076, kw_132, kw_2079, ⟨nh_43.1, nh_43.2, pd_8⟩, Nat.le_of_ble_eq_true rfl⟩, kw_2077, kw_2078⟩
theorem kw_2080 : Cond.methodLink RL 110 yX12_strike ∈ Gw := gt_9 (i := 45) rfl rfl
theorem kw_2083 : Cond.code yX12_strike cX12_strike 2 (some .int) ∈ Gw := gt_9 (i := 48) rfl rfl
theorem kw_2081 : Cond.instanceMethod yX12_strike ∈ Gw := gt_9 (i := 46) rfl rfl
theorem kw_2082 : Cond.selects (yX12_strike).cls yX12_strike yX12_strike ∈ Gw := gt_9 (i := 47) rfl rfl
theorem cw_L_110 : CwV RL 110 mX12_strike 1 := ⟨⟨kw_2080, kw_132, kw_2083, ⟨nh_43.1, nh_43.2, pd_22⟩, Nat.le_of_ble_eq_true rfl⟩, kw_2081, kw_2082⟩
theorem kw_2084 : Cond.methodLink RL 114 yX12_known ∈ Gw := gt_9 (i := 49) rfl rfl
theorem kw_2087 : Cond.code yX12_known cX12_known 2 (some .boolean) ∈ Gw := gt_9 (i := 52) rfl rfl
theorem kw_2085 : Cond.instanceMethod yX12_known ∈ Gw := gt_9 (i := 50) rfl rfl
theorem kw_2086 : Cond.selects (yX12_known).cls yX12_known yX12_known ∈ Gw := gt_9 (i := 51) rfl rfl
theorem cw_L_114 : CwV RL 114 mX12_known 1 := ⟨⟨kw_2084, kw_132, kw_2087, ⟨nh_43.1, nh_43.2, pd_7⟩, Nat.le_of_ble_eq_true rfl⟩, kw_2085, kw_2086⟩
theorem kw_2088 : Cond.methodLink RL 118 yX12_fits ∈ Gw := gt_9 (i := 53) rfl rfl
theorem kw_2091 : Cond.code yX12_fits cX12_fits 4 (some .int) ∈ Gw := gt_9 (i := 56) rfl rfl
theorem kw_2089 : Cond.instanceMethod yX12_fits ∈ Gw := gt_9 (i := 54) rfl rfl
theorem kw_2090 : Cond.selects (yX12_fits).cls yX12_fits yX12_fits ∈ Gw := gt_9 (i := 55) rfl rfl
theorem cw_L_118 : CwV RL 118 mX12_fits 0 := ⟨⟨kw_2088, kw_132, kw_2091, ⟨nh_43.1, nh_43.2, pd_28⟩, Nat.le_of_ble_eq_true rfl⟩, kw_2089, kw_2090⟩
theorem kw_2092 : Cond.methodLink RX12 502 yX12_strikes ∈ Gw := gt_9 (i := 57) rfl rfl
theorem kw_2095 : Cond.code yX12_strikes cX12_strikes 2 none ∈ Gw := gt_9 (i := 60) rfl rfl
theorem kw_2094 : Cond.instanceMethod yX12_strikes ∈ Gw := gt_9 (i := 59) rfl rfl
theorem kw_110 : Cond.selects (yX12_strikes).cls yX12_strikes yX12_strikes ∈ Gw := gt_0 (i := 110) (q := (yX12_strikes, 80)) rfl
theorem cw_X12_502 : CwV RX12 502 mX12_strikes 0 := ⟨⟨kw_2092, kw_132, kw_2095, ⟨nh_43.1, nh_43.2, pd_1⟩, Nat.le_of_ble_eq_true rfl⟩, kw_2094, kw_110⟩
theorem kw_2096 : Cond.methodLink RX12 499 yX12_knownMany ∈ Gw := gt_9 (i := 61) rfl rfl
theorem kw_2099 : Cond.code yX12_knownMany cX12_knownMany 1 (some .int) ∈ Gw := gt_9 (i := 64) rfl rfl
theorem kw_2098 : Cond.instanceMethod yX12_knownMany ∈ Gw := gt_9 (i := 63) rfl rfl
theorem kw_111 : Cond.selects (yX12_knownMany).cls yX12_knownMany yX12_knownMany ∈ Gw := gt_0 (i := 111) (q := (yX12_knownMany, 80)) rfl
theorem cw_X12_499 : CwV RX12 499 mX12_knownMany 0 := ⟨⟨kw_2096, kw_132, kw_2099, ⟨nh_43.1, nh_43.2, pd_28⟩, Nat.le_of_ble_eq_true rfl⟩, kw_2098, kw_111⟩
theorem kw_2100 : Cond.methodLink RX12 505 yX12_firstWrong ∈ Gw := gt_9 (i := 65) rfl rfl
theorem kw_2103 : Cond.code yX12_firstWrong cX12_firstWrong 5 (some .int) ∈ Gw := gt_9 (i := 68) rfl rfl
theorem kw_2102 : Cond.instanceMethod yX12_firstWrong ∈ Gw := gt_9 (i := 67) rfl rfl
theorem kw_112 : Cond.selects (yX12_firstWrong).cls yX12_firstWrong yX12_firstWrong ∈ Gw := gt_0 (i := 112) (q := (yX12_firstWrong, 80)) rfl
theorem cw_X12_505 : CwV RX12 505 mX12_firstWrong 1 := ⟨⟨kw_2100, kw_132, kw_2103, ⟨nh_43.1, nh_43.2, pd_22⟩, Nat.le_of_ble_eq_true rfl⟩, kw_2102, kw_112⟩
theorem kw_2104 : Cond.methodLink RL 122 yX12_sure ∈ Gw := gt_9 (i := 69) rfl rfl
theorem kw_2107 : Cond.code yX12_sure cX12_sure 6 (some .int) ∈ Gw := gt_9 (i := 72) rfl rfl
theorem kw_2105 : Cond.instanceMethod yX12_sure ∈ Gw := gt_9 (i := 70) rfl rfl
theorem kw_2106 : Cond.selects (yX12_sure).cls yX12_sure yX12_sure ∈ Gw := gt_9 (i := 71) rfl rfl
theorem cw_L_122 : CwV RL 122 mX12_sure 1 := ⟨⟨kw_2104, kw_132, kw_2107, ⟨nh_43.1, nh_43.2, pd_22⟩, Nat.le_of_ble_eq_true rfl⟩, kw_2105, kw_2106⟩
theorem kw_2108 : Cond.methodLink RX12 508 yX12_isMay ∈ Gw := gt_9 (i := 73) rfl rfl
theorem kw_2111 : Cond.code yX12_isMay cX12_isMay 2 (some .boolean) ∈ Gw := gt_9 (i := 76) rfl rfl
theorem kw_2110 : Cond.instanceMethod yX12_isMay ∈ Gw := gt_9 (i := 75) rfl rfl
theorem kw_113 : Cond.selects (yX12_isMay).cls yX12_isMay yX12_isMay ∈ Gw := gt_0 (i := 113) (q := (yX12_isMay, 80)) rfl
theorem cw_X12_508 : CwV RX12 508 mX12_isMay 1 := ⟨⟨kw_2108, kw_132, kw_2111, ⟨nh_43.1, nh_43.2, pd_7⟩, Nat.le_of_ble_eq_true rfl⟩, kw_2110, kw_113⟩
theorem kw_2112 : Cond.methodLink RX12 511 yX12_fits ∈ Gw := gt_9 (i := 77) rfl rfl
theorem cw_X12_511 : CwV RX12 511 mX12_fits 0 := ⟨⟨kw_2112, kw_132, kw_2091, ⟨nh_43.1, nh_43.2, pd_28⟩, Nat.le_of_ble_eq_true rfl⟩, kw_2089, kw_2090⟩
theorem kw_2113 : Cond.methodLink RL 126 yX12_odds ∈ Gw := gt_9 (i := 78) rfl rfl
theorem kw_2116 : Cond.code yX12_odds cX12_odds 9 (some .int) ∈ Gw := gt_9 (i := 81) rfl rfl
theorem kw_2114 : Cond.instanceMethod yX12_odds ∈ Gw := gt_9 (i := 79) rfl rfl
theorem kw_2115 : Cond.selects (yX12_odds).cls yX12_odds yX12_odds ∈ Gw := gt_9 (i := 80) rfl rfl
theorem cw_L_126 : CwV RL 126 mX12_odds 2 := ⟨⟨kw_2113, kw_132, kw_2116, ⟨nh_43.1, nh_43.2, pd_8⟩, Nat.le_of_ble_eq_true rfl⟩, kw_2114, kw_2115⟩
theorem kw_2117 : Cond.methodLink RL 130 yX12_fraud ∈ Gw := gt_9 (i := 82) rfl rfl
theorem kw_2120 : Cond.code yX12_fraud cX12_fraud 1 (some .int) ∈ Gw := gt_9 (i := 85) rfl rfl
theorem kw_2118 : Cond.instanceMethod yX12_fraud ∈ Gw := gt_9 (i := 83) rfl rfl
theorem kw_2119 : Cond.selects (yX12_fraud).cls yX12_fraud yX12_fraud ∈ Gw := gt_9 (i := 84) rfl rfl
theorem cw_L_130 : CwV RL 130 mX12_fraud 0 := ⟨⟨kw_2117, kw_132, kw_2120, ⟨nh_43.1, nh_43.2, pd_28⟩, Nat.le_of_ble_eq_true rfl⟩, kw_2118, kw_2119⟩
theorem kw_2121 : Cond.methodLink RL 135 yX12_tried ∈ Gw := gt_9 (i := 86) rfl rfl
theorem kw_2124 : Cond.code yX12_tried cX12_tried 6 (some .int) ∈ Gw := gt_9 (i := 89) rfl rfl
theorem kw_2122 : Cond.instanceMethod yX12_tried ∈ Gw := gt_9 (i := 87) rfl rfl
theorem kw_2123 : Cond.selects (yX12_tried).cls yX12_tried yX12_tried ∈ Gw := gt_9 (i := 88) rfl rfl
theorem cw_L_135 : CwV RL 135 mX12_tried 3 := ⟨⟨kw_2121, kw_132, kw_2124, ⟨nh_43.1, nh_43.2, pd_41⟩, Nat.le_of_ble_eq_true rfl⟩, kw_2122, kw_2123⟩
theorem kw_2125 : Cond.methodLink RL 139 yX12_undo ∈ Gw := gt_9 (i := 90) rfl rfl
theorem kw_2128 : Cond.code yX12_undo cX12_undo 1 (some .int) ∈ Gw := gt_9 (i := 93) rfl rfl
theorem kw_2126 : Cond.instanceMethod yX12_undo ∈ Gw := gt_9 (i := 91) rfl rfl
theorem kw_2127 : Cond.selects (yX12_undo).cls yX12_undo yX12_undo ∈ Gw := gt_9 (i := 92) rfl rfl
theorem cw_L_139 : CwV RL 139 mX12_undo 0 := ⟨⟨kw_2125, kw_132, kw_2128, ⟨nh_43.1, nh_43.2, pd_28⟩, Nat.le_of_ble_eq_true rfl⟩, kw_2126, kw_2127⟩
theorem kw_2129 : Cond.methodLink RL 143 yX12_keep ∈ Gw := gt_9 (i := 94) rfl rfl
theorem kw_2132 : Cond.code yX12_keep cX12_keep 1 (some .int) ∈ Gw := gt_9 (i := 97) rfl rfl
theorem kw_2130 : Cond.instanceMethod yX12_keep ∈ Gw := gt_9 (i := 95) rfl rfl
theorem kw_2131 : Cond.selects (yX12_keep).cls yX12_keep yX12_keep ∈ Gw := gt_9 (i := 96) rfl rfl
theorem cw_L_143 : CwV RL 143 mX12_keep 0 := ⟨⟨kw_2129, kw_132, kw_2132, ⟨nh_43.1, nh_43.2, pd_28⟩, Nat.le_of_ble_eq_true rfl⟩, kw_2130, kw_2131⟩
theorem kw_2133 : Cond.methodLink RX12 514 yX12_copiesLog ∈ Gw := gt_9 (i := 98) rfl rfl
theorem kw_2136 : Cond.code yX12_copiesLog cX12_copiesLog 4 none ∈ Gw := gt_9 (i := 101) rfl rfl
theorem kw_2135 : Cond.instanceMethod yX12_copiesLog ∈ Gw := gt_9 (i := 100) rfl rfl
theorem kw_114 : Cond.selects (yX12_copiesLog).cls yX12_copiesLog yX12_copiesLog ∈ Gw := gt_0 (i := 114) (q := (yX12_copiesLog, 80)) rfl
theorem cw_X12_514 : CwV RX12 514 mX12_copiesLog 2 := ⟨⟨kw_2133, kw_132, kw_2136, ⟨nh_43.1, nh_43.2, pd_6⟩, Nat.le_of_ble_eq_true rfl⟩, kw_2135, kw_114⟩
theorem kw_2137 : Cond.methodLink RL 147 yX12_back ∈ Gw := gt_9 (i := 102) rfl rfl
theorem kw_2140 : Cond.code yX12_back cX12_back 1 (some .int) ∈ Gw := gt_9 (i := 105) rfl rfl
theorem kw_2138 : Cond.instanceMethod yX12_back ∈ Gw := gt_9 (i := 103) rfl rfl
theorem kw_2139 : Cond.selects (yX12_back).cls yX12_back yX12_back ∈ Gw := gt_9 (i := 104) rfl rfl
theorem cw_L_147 : CwV RL 147 mX12_back 0 := ⟨⟨kw_2137, kw_132, kw_2140, ⟨nh_43.1, nh_43.2, pd_28⟩, Nat.le_of_ble_eq_true rfl⟩, kw_2138, kw_2139⟩
theorem kw_2141 : Cond.methodLink RL 151 yX12_count ∈ Gw := gt_9 (i := 106) rfl rfl
theorem kw_2144 : Cond.code yX12_count cX12_count 4 (some .int) ∈ Gw := gt_9 (i := 109) rfl rfl
theorem kw_2142 : Cond.instanceMethod yX12_count ∈ Gw := gt_9 (i := 107) rfl rfl
theorem kw_2143 : Cond.selects (yX12_count).cls yX12_count yX12_count ∈ Gw := gt_9 (i := 108) rfl rfl
theorem cw_L_151 : CwV RL 151 mX12_count 1 := ⟨⟨kw_2141, kw_132, kw_2144, ⟨nh_43.1, nh_43.2, pd_22⟩, Nat.le_of_ble_eq_true rfl⟩, kw_2142, kw_2143⟩
theorem kw_856 : Cond.constant RX8 81 (Int32.ofInt (1000000)) ∈ Gw := gt_4 (i := 21) rfl rfl
theorem kw_943 : Cond.constant RX7 244 (Int32.ofInt (99999)) ∈ Gw := gt_4 (i := 108) rfl rfl
theorem kw_1288 : Cond.constant RJ6 265 (Int32.ofInt (1431655765)) ∈ Gw := gt_5 (i := 213) rfl rfl
theorem kw_1289 : Cond.constant RJ6 266 (Int32.ofInt (858993459)) ∈ Gw := gt_5 (i := 214) rfl rfl
theorem kw_1290 : Cond.constant RJ6 267 (Int32.ofInt (252645135)) ∈ Gw := gt_5 (i := 215) rfl rfl
theorem kw_1791 : Cond.constant RX12 232 (Int32.ofInt (99999)) ∈ Gw := gt_7 (i := 236) rfl rfl
theorem kw_2029 : Cond.constant RX12 439 (Int32.ofInt (1103515245)) ∈ Gw := gt_8 (i := 234) rfl rfl
theorem kw_2030 : Cond.constant RX12 442 (Int32.ofInt (2147483647)) ∈ Gw := gt_8 (i := 235) rfl rfl
theorem kw_1110 : Cond.constantLong RX2 114 (Int64.ofInt (-9223372036854775808)) ∈ Gw := gt_5 (i := 35) rfl rfl
theorem kw_1124 : Cond.constantLong RX1 33 (Int64.ofInt (-9223372036854775808)) ∈ Gw := gt_5 (i := 49) rfl rfl
theorem kw_1131 : Cond.constantLong RX1 39 (Int64.ofInt (1000000000000)) ∈ Gw := gt_5 (i := 56) rfl rfl
theorem kw_1132 : Cond.constantLong RX1 41 (Int64.ofInt (-1000000000000)) ∈ Gw := gt_5 (i := 57) rfl rfl
theorem kw_1140 : Cond.constantLong RX11 218 (Int64.ofInt (-9223372036854775808)) ∈ Gw := gt_5 (i := 65) rfl rfl
theorem kw_1200 : Cond.constantLong RX10 62 (Int64.ofInt (1103515245)) ∈ Gw := gt_5 (i := 125) rfl rfl
theorem kw_1201 : Cond.constantLong RX10 64 (Int64.ofInt (12345)) ∈ Gw := gt_5 (i := 126) rfl rfl
theorem kw_1202 : Cond.constantLong RX10 66 (Int64.ofInt (2147483647)) ∈ Gw := gt_5 (i := 127) rfl rfl
theorem kw_1203 : Cond.constantLong RX10 68 (Int64.ofInt (65536)) ∈ Gw := gt_5 (i := 128) rfl rfl
theorem kw_1986 : Cond.constantLong RX12 402 (Int64.ofInt (1000000000000)) ∈ Gw := gt_8 (i := 191) rfl rfl
theorem kw_1987 : Cond.constantLong RX12 404 (Int64.ofInt (-1000000000000)) ∈ Gw := gt_8 (i := 192) rfl rfl
theorem kw_1996 : Cond.constantLong RX12 460 (Int64.ofInt (-9223372036854775808)) ∈ Gw := gt_8 (i := 201) rfl rfl
