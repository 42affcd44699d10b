/-! each method, each link, by its number -/
theorem mChk_at {z : Nat} {m : PInf} {t : MR} (hm : pM[z]? = some m) (ht : pT[z]? = some t) : mChk m t = true := by
  have hz : z < 326 := by
    have e : pM.length = 326 := by decide +kernel
    have := (List.getElem?_eq_some_iff.mp hm).1
    omega
  have h3 : pQ[z]? = some (m, t) := by
    unfold pQ
    rw [List.getElem?_zip_eq_some]
    exact ⟨hm, ht⟩
  rcases Nat.lt_or_ge z 10 with q | q
  · exact allAt (p := fun q : PInf × MR => mChk q.1 q.2) 0 10 (by omega) (by omega) h3 mChkS_0
  rcases Nat.lt_or_ge z 24 with q | q
  · exact allAt (p := fun q : PInf × MR => mChk q.1 q.2) 10 14 (by omega) (by omega) h3 mChkS_10
  rcases Nat.lt_or_ge z 33 with q | q
  · exact allAt (p := fun q : PInf × MR => mChk q.1 q.2) 24 9 (by omega) (by omega) h3 mChkS_24
  rcases Nat.lt_or_ge z 43 with q | q
  · exact allAt (p := fun q : PInf × MR => mChk q.1 q.2) 33 10 (by omega) (by omega) h3 mChkS_33
  rcases Nat.lt_or_ge z 50 with q | q
  · exact allAt (p := fun q : PInf × MR => mChk q.1 q.2) 43 7 (by omega) (by omega) h3 mChkS_43
  rcases Nat.lt_or_ge z 60 with q | q
  · exact allAt (p := fun q : PInf × MR => mChk q.1 q.2) 50 10 (by omega) (by omega) h3 mChkS_50
  rcases Nat.lt_or_ge z 69 with q | q
  · exact allAt (p := fun q : PInf × MR => mChk q.1 q.2) 60 9 (by omega) (by omega) h3 mChkS_60
  rcases Nat.lt_or_ge z 84 with q | q
  · exact allAt (p := fun q : PInf × MR => mChk q.1 q.2) 69 15 (by omega) (by omega) h3 mChkS_69
  rcases Nat.lt_or_ge z 93 with q | q
  · exact allAt (p := fun q : PInf × MR => mChk q.1 q.2) 84 9 (by omega) (by omega) h3 mChkS_84
  rcases Nat.lt_or_ge z 101 with q | q
  · exact allAt (p := fun q : PInf × MR => mChk q.1 q.2) 93 8 (by omega) (by omega) h3 mChkS_93
  rcases Nat.lt_or_ge z 113 with q | q
  · exact allAt (p := fun q : PInf × MR => mChk q.1 q.2) 101 12 (by omega) (by omega) h3 mChkS_101
  rcases Nat.lt_or_ge z 124 with q | q
  · exact allAt (p := fun q : PInf × MR => mChk q.1 q.2) 113 11 (by omega) (by omega) h3 mChkS_113
  rcases Nat.lt_or_ge z 134 with q | q
  · exact allAt (p := fun q : PInf × MR => mChk q.1 q.2) 124 10 (by omega) (by omega) h3 mChkS_124
  rcases Nat.lt_or_ge z 144 with q | q
  · exact allAt (p := fun q : PInf × MR => mChk q.1 q.2) 134 10 (by omega) (by omega) h3 mChkS_134
  rcases Nat.lt_or_ge z 156 with q | q
  · exact allAt (p := fun q : PInf × MR => mChk q.1 q.2) 144 12 (by omega) (by omega) h3 mChkS_144
  rcases Nat.lt_or_ge z 167 with q | q
  · exact allAt (p := fun q : PInf × MR => mChk q.1 q.2) 156 11 (by omega) (by omega) h3 mChkS_156
  rcases Nat.lt_or_ge z 175 with q | q
  · exact allAt (p := fun q : PInf × MR => mChk q.1 q.2) 167 8 (by omega) (by omega) h3 mChkS_167
  rcases Nat.lt_or_ge z 184 with q | q
  · exact allAt (p := fun q : PInf × MR => mChk q.1 q.2) 175 9 (by omega) (by omega) h3 mChkS_175
  rcases Nat.lt_or_ge z 185 with q | q
  · exact allAt (p := fun q : PInf × MR => mChk q.1 q.2) 184 1 (by omega) (by omega) h3 mChkS_184
  rcases Nat.lt_or_ge z 186 with q | q
  · exact allAt (p := fun q : PInf × MR => mChk q.1 q.2) 185 1 (by omega) (by omega) h3 mChkS_185
  rcases Nat.lt_or_ge z 195 with q | q
  · exact allAt (p := fun q : PInf × MR => mChk q.1 q.2) 186 9 (by omega) (by omega) h3 mChkS_186
  rcases Nat.lt_or_ge z 201 with q | q
  · exact allAt (p := fun q : PInf × MR => mChk q.1 q.2) 195 6 (by omega) (by omega) h3 mChkS_195
  rcases Nat.lt_or_ge z 202 with q | q
  · exact allAt (p := fun q : PInf × MR => mChk q.1 q.2) 201 1 (by omega) (by omega) h3 mChkS_201
  rcases Nat.lt_or_ge z 213 with q | q
  · exact allAt (p := fun q : PInf × MR => mChk q.1 q.2) 202 11 (by omega) (by omega) h3 mChkS_202
  rcases Nat.lt_or_ge z 222 with q | q
  · exact allAt (p := fun q : PInf × MR => mChk q.1 q.2) 213 9 (by omega) (by omega) h3 mChkS_213
  rcases Nat.lt_or_ge z 230 with q | q
  · exact allAt (p := fun q : PInf × MR => mChk q.1 q.2) 222 8 (by omega) (by omega) h3 mChkS_222
  rcases Nat.lt_or_ge z 237 with q | q
  · exact allAt (p := fun q : PInf × MR => mChk q.1 q.2) 230 7 (by omega) (by omega) h3 mChkS_230
  rcases Nat.lt_or_ge z 238 with q | q
  · exact allAt (p := fun q : PInf × MR => mChk q.1 q.2) 237 1 (by omega) (by omega) h3 mChkS_237
  rcases Nat.lt_or_ge z 239 with q | q
  · exact allAt (p := fun q : PInf × MR => mChk q.1 q.2) 238 1 (by omega) (by omega) h3 mChkS_238
  rcases Nat.lt_or_ge z 248 with q | q
  · exact allAt (p := fun q : PInf × MR => mChk q.1 q.2) 239 9 (by omega) (by omega) h3 mChkS_239
  rcases Nat.lt_or_ge z 255 with q | q
  · exact allAt (p := fun q : PInf × MR => mChk q.1 q.2) 248 7 (by omega) (by omega) h3 mChkS_248
  rcases Nat.lt_or_ge z 265 with q | q
  · exact allAt (p := fun q : PInf × MR => mChk q.1 q.2) 255 10 (by omega) (by omega) h3 mChkS_255
  rcases Nat.lt_or_ge z 272 with q | q
  · exact allAt (p := fun q : PInf × MR => mChk q.1 q.2) 265 7 (by omega) (by omega) h3 mChkS_265
  rcases Nat.lt_or_ge z 280 with q | q
  · exact allAt (p := fun q : PInf × MR => mChk q.1 q.2) 272 8 (by omega) (by omega) h3 mChkS_272
  rcases Nat.lt_or_ge z 287 with q | q
  · exact allAt (p := fun q : PInf × MR => mChk q.1 q.2) 280 7 (by omega) (by omega) h3 mChkS_280
  rcases Nat.lt_or_ge z 295 with q | q
  · exact allAt (p := fun q : PInf × MR => mChk q.1 q.2) 287 8 (by omega) (by omega) h3 mChkS_287
  rcases Nat.lt_or_ge z 301 with q | q
  · exact allAt (p := fun q : PInf × MR => mChk q.1 q.2) 295 6 (by omega) (by omega) h3 mChkS_295
  rcases Nat.lt_or_ge z 308 with q | q
  · exact allAt (p := fun q : PInf × MR => mChk q.1 q.2) 301 7 (by omega) (by omega) h3 mChkS_301
  rcases Nat.lt_or_ge z 314 with q | q
  · exact allAt (p := fun q : PInf × MR => mChk q.1 q.2) 308 6 (by omega) (by omega) h3 mChkS_308
  rcases Nat.lt_or_ge z 321 with q | q
  · exact allAt (p := fun q : PInf × MR => mChk q.1 q.2) 314 7 (by omega) (by omega) h3 mChkS_314
  rcases Nat.lt_or_ge z 322 with q | q
  · exact allAt (p := fun q : PInf × MR => mChk q.1 q.2) 321 1 (by omega) (by omega) h3 mChkS_321
  rcases Nat.lt_or_ge z 323 with q | q
  · exact allAt (p := fun q : PInf × MR => mChk q.1 q.2) 322 1 (by omega) (by omega) h3 mChkS_322
  rcases Nat.lt_or_ge z 325 with q | q
  · exact allAt (p := fun q : PInf × MR => mChk q.1 q.2) 323 2 (by omega) (by omega) h3 mChkS_323
  rcases Nat.lt_or_ge z 326 with q | q
  · exact allAt (p := fun q : PInf × MR => mChk q.1 q.2) 325 1 (by omega) (by omega) h3 mChkS_325
  exact absurd hz (by omega)
theorem mF_at {z : Nat} {m : PInf} {t : MR} (hz : z < 325) (hm : pM[z]? = some m) (ht : pT[z]? = some t) : ∃ q, pMP[z]? = some q ∧ mF m t q = true := by
  have hq : z < pMP.length := by
    have e : pMP.length = 326 := by decide +kernel
    omega
  refine ⟨pMP[z], List.getElem?_eq_getElem hq, ?_⟩
  have h3 : pQ3[z]? = some (m, t, pMP[z]) := by
    unfold pQ3
    rw [List.getElem?_zip_eq_some]
    refine ⟨hm, ?_⟩
    rw [List.getElem?_zip_eq_some]
    exact ⟨ht, List.getElem?_eq_getElem hq⟩
  rcases Nat.lt_or_ge z 20 with q | q
  · exact allAt (p := fun q : PInf × MR × (Nat × Nat × Nat × Nat) => mF q.1 q.2.1 q.2.2) 0 20 (by omega) (by omega) h3 mF_0
  rcases Nat.lt_or_ge z 40 with q | q
  · exact allAt (p := fun q : PInf × MR × (Nat × Nat × Nat × Nat) => mF q.1 q.2.1 q.2.2) 20 20 (by omega) (by omega) h3 mF_1
  rcases Nat.lt_or_ge z 60 with q | q
  · exact allAt (p := fun q : PInf × MR × (Nat × Nat × Nat × Nat) => mF q.1 q.2.1 q.2.2) 40 20 (by omega) (by omega) h3 mF_2
  rcases Nat.lt_or_ge z 80 with q | q
  · exact allAt (p := fun q : PInf × MR × (Nat × Nat × Nat × Nat) => mF q.1 q.2.1 q.2.2) 60 20 (by omega) (by omega) h3 mF_3
  rcases Nat.lt_or_ge z 100 with q | q
  · exact allAt (p := fun q : PInf × MR × (Nat × Nat × Nat × Nat) => mF q.1 q.2.1 q.2.2) 80 20 (by omega) (by omega) h3 mF_4
  rcases Nat.lt_or_ge z 120 with q | q
  · exact allAt (p := fun q : PInf × MR × (Nat × Nat × Nat × Nat) => mF q.1 q.2.1 q.2.2) 100 20 (by omega) (by omega) h3 mF_5
  rcases Nat.lt_or_ge z 140 with q | q
  · exact allAt (p := fun q : PInf × MR × (Nat × Nat × Nat × Nat) => mF q.1 q.2.1 q.2.2) 120 20 (by omega) (by omega) h3 mF_6
  rcases Nat.lt_or_ge z 160 with q | q
  · exact allAt (p := fun q : PInf × MR × (Nat × Nat × Nat × Nat) => mF q.1 q.2.1 q.2.2) 140 20 (by omega) (by omega) h3 mF_7
  rcases Nat.lt_or_ge z 180 with q | q
  · exact allAt (p := fun q : PInf × MR × (Nat × Nat × Nat × Nat) => mF q.1 q.2.1 q.2.2) 160 20 (by omega) (by omega) h3 mF_8
  rcases Nat.lt_or_ge z 200 with q | q
  · exact allAt (p := fun q : PInf × MR × (Nat × Nat × Nat × Nat) => mF q.1 q.2.1 q.2.2) 180 20 (by omega) (by omega) h3 mF_9
  rcases Nat.lt_or_ge z 220 with q | q
  · exact allAt (p := fun q : PInf × MR × (Nat × Nat × Nat × Nat) => mF q.1 q.2.1 q.2.2) 200 20 (by omega) (by omega) h3 mF_10
  rcases Nat.lt_or_ge z 240 with q | q
  · exact allAt (p := fun q : PInf × MR × (Nat × Nat × Nat × Nat) => mF q.1 q.2.1 q.2.2) 220 20 (by omega) (by omega) h3 mF_11
  rcases Nat.lt_or_ge z 260 with q | q
  · exact allAt (p := fun q : PInf × MR × (Nat × Nat × Nat × Nat) => mF q.1 q.2.1 q.2.2) 240 20 (by omega) (by omega) h3 mF_12
  rcases Nat.lt_or_ge z 280 with q | q
  · exact allAt (p := fun q : PInf × MR × (Nat × Nat × Nat × Nat) => mF q.1 q.2.1 q.2.2) 260 20 (by omega) (by omega) h3 mF_13
  rcases Nat.lt_or_ge z 300 with q | q
  · exact allAt (p := fun q : PInf × MR × (Nat × Nat × Nat × Nat) => mF q.1 q.2.1 q.2.2) 280 20 (by omega) (by omega) h3 mF_14
  rcases Nat.lt_or_ge z 320 with q | q
  · exact allAt (p := fun q : PInf × MR × (Nat × Nat × Nat × Nat) => mF q.1 q.2.1 q.2.2) 300 20 (by omega) (by omega) h3 mF_15
  rcases Nat.lt_or_ge z 325 with q | q
  · exact allAt (p := fun q : PInf × MR × (Nat × Nat × Nat × Nat) => mF q.1 q.2.1 q.2.2) 320 5 (by omega) (by omega) h3 mF_16
  exact absurd hz (by omega)
theorem ml_at {o : Nat} {xs : List (Nat × Nat × Nat × Nat)} {e : Nat × Nat × Nat × Nat} (ho : pML[o]? = some xs) (he : e ∈ xs) : mlOK o e = true := by
  have hlt : o < 17 := (List.getElem?_eq_some_iff.mp ho).1
  obtain ⟨k, hk⟩ := List.getElem?_of_mem he
  have key : ∀ (a : Nat), a ≤ k → k < a + 40 → mlRow o a 40 = true → mlOK o e = true := by
    intro a h1 h2 h
    unfold mlRow at h
    rw [ho] at h
    exact allAt a 40 h1 h2 hk h
  have hl : k < xs.length := (List.getElem?_eq_some_iff.mp hk).1
  match o, hlt, ho with
  | 0, _, ho =>
    have hx : xs.length = 0 := by have := Option.some.inj ho; rw [← this]; rfl
    exact absurd hl (by omega)
  | 1, _, ho =>
    have hx : xs.length = 25 := by have := Option.some.inj ho; rw [← this]; rfl
    rcases Nat.lt_or_ge k 40 with q | q
    · exact key 0 (by omega) (by omega) mlOK_1_0
    exact absurd hl (by omega)
  | 2, _, ho =>
    have hx : xs.length = 9 := by have := Option.some.inj ho; rw [← this]; rfl
    rcases Nat.lt_or_ge k 40 with q | q
    · exact key 0 (by omega) (by omega) mlOK_2_0
    exact absurd hl (by omega)
  | 3, _, ho =>
    have hx : xs.length = 5 := by have := Option.some.inj ho; rw [← this]; rfl
    rcases Nat.lt_or_ge k 40 with q | q
    · exact key 0 (by omega) (by omega) mlOK_3_0
    exact absurd hl (by omega)
  | 4, _, ho =>
    have hx : xs.length = 11 := by have := Option.some.inj ho; rw [← this]; rfl
    rcases Nat.lt_or_ge k 40 with q | q
    · exact key 0 (by omega) (by omega) mlOK_4_0
    exact absurd hl (by omega)
  | 5, _, ho =>
    have hx : xs.length = 35 := by have := Option.some.inj ho; rw [← this]; rfl
    rcases Nat.lt_or_ge k 40 with q | q
    · exact key 0 (by omega) (by omega) mlOK_5_0
    exact absurd hl (by omega)
  | 6, _, ho =>
    have hx : xs.length = 23 := by have := Option.some.inj ho; rw [← this]; rfl
    rcases Nat.lt_or_ge k 40 with q | q
    · exact key 0 (by omega) (by omega) mlOK_6_0
    exact absurd hl (by omega)
  | 7, _, ho =>
    have hx : xs.length = 8 := by have := Option.some.inj ho; rw [← this]; rfl
    rcases Nat.lt_or_ge k 40 with q | q
    · exact key 0 (by omega) (by omega) mlOK_7_0
    exact absurd hl (by omega)
  | 8, _, ho =>
    have hx : xs.length = 3 := by have := Option.some.inj ho; rw [← this]; rfl
    rcases Nat.lt_or_ge k 40 with q | q
    · exact key 0 (by omega) (by omega) mlOK_8_0
    exact absurd hl (by omega)
  | 9, _, ho =>
    have hx : xs.length = 10 := by have := Option.some.inj ho; rw [← this]; rfl
    rcases Nat.lt_or_ge k 40 with q | q
    · exact key 0 (by omega) (by omega) mlOK_9_0
    exact absurd hl (by omega)
  | 10, _, ho =>
    have hx : xs.length = 6 := by have := Option.some.inj ho; rw [← this]; rfl
    rcases Nat.lt_or_ge k 40 with q | q
    · exact key 0 (by omega) (by omega) mlOK_10_0
    exact absurd hl (by omega)
  | 11, _, ho =>
    have hx : xs.length = 55 := by have := Option.some.inj ho; rw [← this]; rfl
    rcases Nat.lt_or_ge k 40 with q | q
    · exact key 0 (by omega) (by omega) mlOK_11_0
    rcases Nat.lt_or_ge k 80 with q | q
    · exact key 40 (by omega) (by omega) mlOK_11_1
    exact absurd hl (by omega)
  | 12, _, ho =>
    have hx : xs.length = 98 := by have := Option.some.inj ho; rw [← this]; rfl
    rcases Nat.lt_or_ge k 40 with q | q
    · exact key 0 (by omega) (by omega) mlOK_12_0
    rcases Nat.lt_or_ge k 80 with q | q
    · exact key 40 (by omega) (by omega) mlOK_12_1
    rcases Nat.lt_or_ge k 120 with q | q
    · exact key 80 (by omega) (by omega) mlOK_12_2
    exact absurd hl (by omega)
  | 13, _, ho =>
    have hx : xs.length = 84 := by have := Option.some.inj ho; rw [← this]; rfl
    rcases Nat.lt_or_ge k 40 with q | q
    · exact key 0 (by omega) (by omega) mlOK_13_0
    rcases Nat.lt_or_ge k 80 with q | q
    · exact key 40 (by omega) (by omega) mlOK_13_1
    rcases Nat.lt_or_ge k 120 with q | q
    · exact key 80 (by omega) (by omega) mlOK_13_2
    exact absurd hl (by omega)
  | 14, _, ho =>
    have hx : xs.length = 0 := by have := Option.some.inj ho; rw [← this]; rfl
    exact absurd hl (by omega)
  | 15, _, ho =>
    have hx : xs.length = 0 := by have := Option.some.inj ho; rw [← this]; rfl
    exact absurd hl (by omega)
  | 16, _, ho =>
    have hx : xs.length = 0 := by have := Option.some.inj ho; rw [← this]; rfl
    exact absurd hl (by omega)
  | o + 17, h, _ => exact absurd h (by omega)
def cdI : List Nat := [182, 190, 196, 310, 320, 326, 332, 472, 520, 539, 545, 571, 578, 581, 656, 660, 664, 668, 671, 675, 679, 683, 687, 691, 694, 698, 702, 707, 711, 721, 725, 729, 734, 738, 742, 746, 750, 754, 761, 768, 772, 776, 781, 785, 789, 793, 798, 802, 805, 810, 813, 817, 821, 824, 830, 838, 842, 848, 852, 857, 861, 865, 870, 874, 878, 882, 886, 890, 895, 898, 902, 955, 959, 962, 966, 970, 974, 978, 982, 987, 991, 995, 999, 1003, 1007, 1011, 1015, 1019, 1023, 1027, 1031, 1035, 1039, 1043, 1047, 1051, 1056, 1060, 1064, 1068, 1072, 1076, 1080, 1084, 1089, 1093, 1097, 1105, 1109, 1114, 1119, 1124, 1128, 1135, 1139, 1143, 1147, 1151, 1155, 1161, 1165, 1169, 1173, 1177, 1181, 1186, 1191, 1195, 1199, 1203, 1207, 1212, 1219, 1223, 1228, 1233, 1237, 1241, 1245, 1249, 1254, 1258, 1262, 1266, 1270, 1275, 1279, 1284, 1290, 1294, 1297, 1304, 1308, 1312, 1316, 1323, 1327, 1331, 1335, 1339, 1343, 1349, 1353, 1358, 1362, 1366, 1370, 1373, 1377, 1381, 1385, 1391, 1395, 1399, 1403, 1408, 1412, 1416, 1420, 1424, 1428, 1433, 1438, 1444, 1448, 1453, 1693, 1697, 1701, 1705, 1709, 1713, 1717, 1721, 1725, 1729, 1733, 1737, 1741, 1745, 1749, 1753, 1757, 1761, 1765, 1769, 1773, 1777, 1781, 1785, 1789, 1793, 1797, 1801, 1805, 1809, 1813, 1817, 1821, 1825, 1829, 1833, 1837, 1841, 1845, 1849, 1853, 1857, 1861, 1865, 1869, 1873, 1877, 1881, 1885, 1889, 1893, 1897, 1901, 1905, 1909, 1913, 1917, 1921, 1925, 1929, 1933, 1937, 1941, 1945, 1949, 1953, 1957, 1961, 1965, 1969, 1973, 1977, 1983, 1987, 1991, 1995, 1999, 2003, 2007, 2011, 2015, 2019, 2023, 2027, 2031, 2035, 2039, 2043, 2047, 2051, 2055, 2059, 2064, 2068, 2072, 2077, 2081, 2085, 2089, 2093, 2097, 2101, 2105, 2109, 2113, 2117, 2121, 2125, 2129, 2133, 2137, 2141, 2145, 2149, 2153, 2157, 2161, 2165, 2169, 2173, 2177, 2181, 2185, 2189, 2193, 2197, 2201, 2205, 2209, 2213, 2217, 2221, 2225, 2229, 2233, 2237, 2241, 2245, 2249]
def cdQ : List (PInf × Nat) := pM.zip cdI
def cdP (q : PInf × Nat) : Bool := decide (lw_tbl[q.2]? = some (.code q.1.1 q.1.2.1 q.1.2.2.1 q.1.2.2.2.1))
theorem cdS_0 : ((cdQ.drop 0).take 20).all cdP = true := by decide +kernel
theorem cdS_20 : ((cdQ.drop 20).take 20).all cdP = true := by decide +kernel
theorem cdS_40 : ((cdQ.drop 40).take 20).all cdP = true := by decide +kernel
theorem cdS_60 : ((cdQ.drop 60).take 20).all cdP = true := by decide +kernel
theorem cdS_80 : ((cdQ.drop 80).take 20).all cdP = true := by decide +kernel
theorem cdS_100 : ((cdQ.drop 100).take 20).all cdP = true := by decide +kernel
theorem cdS_120 : ((cdQ.drop 120).take 20).all cdP = true := by decide +kernel
theorem cdS_140 : ((cdQ.drop 140).take 20).all cdP = true := by decide +kernel
theorem cdS_160 : ((cdQ.drop 160).take 20).all cdP = true := by decide +kernel
theorem cdS_180 : ((cdQ.drop 180).take 20).all cdP = true := by decide +kernel
theorem cdS_200 : ((cdQ.drop 200).take 20).all cdP = true := by decide +kernel
theorem cdS_220 : ((cdQ.drop 220).take 20).all cdP = true := by decide +kernel
theorem cdS_240 : ((cdQ.drop 240).take 20).all cdP = true := by decide +kernel
theorem cdS_260 : ((cdQ.drop 260).take 20).all cdP = true := by decide +kernel
theorem cdS_280 : ((cdQ.drop 280).take 20).all cdP = true := by decide +kernel
theorem cdS_300 : ((cdQ.drop 300).take 20).all cdP = true := by decide +kernel
theorem cdS_320 : ((cdQ.drop 320).take 5).all cdP = true := by decide +kernel
theorem code_at {z : Nat} {m : PInf} (hz : z < 325) (hm : pM[z]? = some m) : Cond.code m.1 m.2.1 m.2.2.1 m.2.2.2.1 ∈ GW := by
  have hl : cdI.length = 325 := by decide +kernel
  have hi : cdI[z]? = some cdI[z] := List.getElem?_eq_getElem (by omega)
  have h3 : cdQ[z]? = some (m, cdI[z]) := by
    unfold cdQ
    rw [List.getElem?_zip_eq_some]
    exact ⟨hm, hi⟩
  have h4 : cdP (m, cdI[z]) = true := by
    rcases Nat.lt_or_ge z 20 with q | q
    · exact allAt (p := cdP) 0 20 (by omega) (by omega) h3 cdS_0
    rcases Nat.lt_or_ge z 40 with q | q
    · exact allAt (p := cdP) 20 20 (by omega) (by omega) h3 cdS_20
    rcases Nat.lt_or_ge z 60 with q | q
    · exact allAt (p := cdP) 40 20 (by omega) (by omega) h3 cdS_40
    rcases Nat.lt_or_ge z 80 with q | q
    · exact allAt (p := cdP) 60 20 (by omega) (by omega) h3 cdS_60
    rcases Nat.lt_or_ge z 100 with q | q
    · exact allAt (p := cdP) 80 20 (by omega) (by omega) h3 cdS_80
    rcases Nat.lt_or_ge z 120 with q | q
    · exact allAt (p := cdP) 100 20 (by omega) (by omega) h3 cdS_100
    rcases Nat.lt_or_ge z 140 with q | q
    · exact allAt (p := cdP) 120 20 (by omega) (by omega) h3 cdS_120
    rcases Nat.lt_or_ge z 160 with q | q
    · exact allAt (p := cdP) 140 20 (by omega) (by omega) h3 cdS_140
    rcases Nat.lt_or_ge z 180 with q | q
    · exact allAt (p := cdP) 160 20 (by omega) (by omega) h3 cdS_160
    rcases Nat.lt_or_ge z 200 with q | q
    · exact allAt (p := cdP) 180 20 (by omega) (by omega) h3 cdS_180
    rcases Nat.lt_or_ge z 220 with q | q
    · exact allAt (p := cdP) 200 20 (by omega) (by omega) h3 cdS_200
    rcases Nat.lt_or_ge z 240 with q | q
    · exact allAt (p := cdP) 220 20 (by omega) (by omega) h3 cdS_220
    rcases Nat.lt_or_ge z 260 with q | q
    · exact allAt (p := cdP) 240 20 (by omega) (by omega) h3 cdS_240
    rcases Nat.lt_or_ge z 280 with q | q
    · exact allAt (p := cdP) 260 20 (by omega) (by omega) h3 cdS_260
    rcases Nat.lt_or_ge z 300 with q | q
    · exact allAt (p := cdP) 280 20 (by omega) (by omega) h3 cdS_280
    rcases Nat.lt_or_ge z 320 with q | q
    · exact allAt (p := cdP) 300 20 (by omega) (by omega) h3 cdS_300
    rcases Nat.lt_or_ge z 325 with q | q
    · exact allAt (p := cdP) 320 5 (by omega) (by omega) h3 cdS_320
    exact absurd hz (by omega)
  exact List.mem_filter.mpr ⟨List.mem_of_getElem? (of_decide_eq_true h4), rfl⟩
