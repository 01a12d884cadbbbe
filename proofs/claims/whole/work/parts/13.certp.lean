def s_wn : List String := ["BOY", "EVENT", "TAKES", "FIRE", "LOGS", "TURF", "WET", "FEAR", "SHAME", "GRIEF", "JOY", "TELLS", "LIES", "GIVES", "LOG", "RAKE", "DAY", "OR", "AND", "NOT", "OVER", "HUSHED", "LIGHT", "HAS", "HIS", "LOAD", "BEARS", "TEARS", "NUMBER"]
def s_sx : List String := [" bears ", " of ", " weeps"]
def s_nws : List Cond := [(Jvm.Cond.methodLinkNest "CampAshes" (9 : Nat) ({ cls := "CampAshes$Tape", name := "<init>", desc := "()V" } : Jvm.MethodName) "CampAshes"), (Jvm.Cond.fieldLinkNest "CampAshes$Sentence" (156 : Nat) "CampAshes$State" "camp" "LCampAshes$Camp;" "CampAshes"), (Jvm.Cond.methodLinkNest "CampAshes" (40 : Nat) ({ cls := "CampAshes$Sentence", name := "<init>", desc := "()V" } : Jvm.MethodName) "CampAshes"), (Jvm.Cond.methodLinkNest "CampAshes" (50 : Nat) ({ cls := "CampAshes$Book", name := "<init>", desc := "()V" } : Jvm.MethodName) "CampAshes"), (Jvm.Cond.methodLinkNest "CampAshes" (64 : Nat) ({ cls := "CampAshes$Image", name := "<init>", desc := "()V" } : Jvm.MethodName) "CampAshes"), (Jvm.Cond.methodLinkNest "CampAshes$Image" (27 : Nat) ({ cls := "CampAshes$Sentence", name := "<init>", desc := "()V" } : Jvm.MethodName) "CampAshes"), (Jvm.Cond.methodLinkNest "CampAshes" (71 : Nat) ({ cls := "CampAshes$Advice", name := "<init>", desc := "()V" } : Jvm.MethodName) "CampAshes"), (Jvm.Cond.methodLinkNest "CampAshes" (78 : Nat) ({ cls := "CampAshes$Laws", name := "<init>", desc := "()V" } : Jvm.MethodName) "CampAshes"), (Jvm.Cond.methodLinkNest "CampAshes" (85 : Nat) ({ cls := "CampAshes$Draws", name := "<init>", desc := "()V" } : Jvm.MethodName) "CampAshes")]
def s_pI : List Nat := [143, 151, 210, 215, 218, 296, 347, 379, 424, 444, 470, 503, 513, 521, 527, 579, 583, 587, 591, 595, 599, 603, 607, 612, 615, 620, 624, 629, 634, 639, 642, 648, 651, 655, 659, 667, 670, 674, 680, 684, 690, 699, 703, 707, 714, 718, 722, 726, 730, 734, 738, 742, 746, 751, 755, 759, 763, 767, 771, 775, 779, 783, 787, 792, 796, 801, 808, 812, 816, 819, 825, 829, 833, 837, 841, 845, 849, 853, 857, 861, 865, 870, 873, 877, 881, 885, 890, 893, 899, 902, 910, 914, 917, 921, 925, 931, 935, 939, 943, 947, 950, 954, 958, 963, 966, 970, 974, 978, 982, 987, 990, 994, 999, 1004, 1009, 1014, 1019, 1071, 1077, 1081, 1085, 1089, 1093, 1100, 1104, 1108, 1112, 1118, 1131, 1137, 1149, 1153, 1158, 1166, 1172, 1176, 1180, 1186, 1190, 1194, 1197, 1203, 1228, 1234, 1243, 1248, 1252, 1257, 1261, 1268, 1272, 1276, 1283, 1287, 1291, 1299, 1371, 1375, 1380, 1384, 1389, 1394, 1398, 1547, 1552, 1556, 1560, 1563, 1566, 1570, 1576, 1580, 1583, 1586, 1590, 1594, 1598, 1602, 1606, 1609, 1613, 1616, 1620, 1624, 1628, 1632, 1636, 1640, 1644, 1648, 1651, 1655, 1660, 1664, 1668, 1672, 1676, 1680, 1683, 1687, 1690, 1695, 1698, 1702, 1707, 1711, 1714, 1718, 1723, 1727, 1730, 1735, 1739, 1743, 1747, 1751, 1755, 1758, 1762, 1765, 1769, 1773, 1777, 1781, 1785, 1790, 1794, 1797, 1802, 1806, 1810, 1814, 1818, 1821, 1824, 1828, 1832, 1836, 1840, 1844, 1849, 1852, 1856, 1860, 1863, 1867, 1872, 1876, 1879, 1884, 1888, 1892, 1896, 1899, 1903, 1908, 1912, 1917, 1920, 1924, 1929, 1933, 1937, 1941, 1945, 1949, 1952, 1956, 1961, 1965, 1969, 1973, 1977, 1981, 1985, 1989, 1993, 1996, 2001, 2004, 2008, 2012]
def s_pS : List Nat := [0, 0, 0, 0, 0, 0, 0, 0, 0, 0, 0, 0, 0, 522, 1, 580, 584, 588, 592, 596, 600, 0, 2, 3, 0, 621, 625, 4, 635, 5, 643, 6, 652, 656, 660, 7, 671, 0, 8, 9, 10, 700, 704, 708, 715, 719, 723, 727, 731, 735, 739, 743, 747, 752, 756, 760, 764, 768, 772, 776, 780, 784, 788, 793, 797, 802, 11, 12, 13, 820, 826, 830, 834, 838, 842, 846, 850, 854, 858, 862, 866, 14, 874, 878, 882, 886, 15, 894, 16, 0, 0, 17, 918, 922, 926, 932, 936, 940, 944, 0, 951, 955, 959, 0, 967, 971, 0, 979, 983, 18, 991, 995, 19, 1005, 20, 21, 22, 23, 1078, 1082, 1086, 1090, 1094, 24, 1105, 1109, 1113, 25, 26, 27, 28, 1154, 29, 0, 1173, 1177, 1181, 30, 31, 32, 0, 0, 33, 34, 1244, 1249, 1253, 35, 36, 0, 1273, 1277, 1284, 1288, 1292, 1300, 1372, 1376, 38, 1385, 0, 39, 40, 1548, 41, 42, 43, 0, 0, 44, 45, 46, 0, 0, 47, 48, 49, 50, 51, 0, 52, 0, 53, 54, 55, 56, 57, 58, 59, 60, 1652, 1656, 61, 62, 63, 64, 65, 66, 0, 67, 1691, 68, 1699, 1703, 69, 70, 1715, 1719, 71, 72, 1731, 73, 74, 75, 76, 77, 78, 0, 79, 1766, 1770, 1774, 1778, 1782, 1786, 80, 81, 1798, 82, 83, 84, 85, 86, 0, 1825, 1829, 1833, 1837, 1841, 1845, 0, 1853, 0, 87, 1864, 1868, 88, 89, 1880, 90, 91, 92, 93, 1900, 1904, 94, 95, 96, 1921, 1925, 97, 98, 99, 100, 101, 102, 1953, 1957, 103, 104, 105, 106, 107, 108, 109, 110, 111, 1997, 112, 2005, 2009, 2013]
def s_ckF (own : Nat) (e : Nat × Nat × Nat) (p : Nat) : Bool := match Nat.beq e.2.1 10 with
  | true => (match e.2.2 with
    | 0 => s_wAt p (.fieldLink (s_R own) e.1 RX10 "letters" "J")
    | 1 => s_wAt p (.fieldLink (s_R own) e.1 RX10 "kind" "I")
    | _ => false)
  | false => Nat.blt e.2.1 13 && Nat.blt e.2.2 (s_nf e.2.1) && (s_wAt p (.fieldLink (s_R own) e.1 (s_R e.2.1) (s_Tx e.2.1 e.2.2).2.1 (s_Tx e.2.1 e.2.2).2.2.1) || decide (Cond.fieldLinkNest (s_R own) e.1 (s_R e.2.1) (s_Tx e.2.1 e.2.2).2.1 (s_Tx e.2.1 e.2.2).2.2.1 "CampAshes" ∈ s_nws))
def s_ckS (own : Nat) (e : Nat × Value) (p : Nat) : Bool := match e.2 with
  | .ref a => (match Nat.beq a 1100 with
    | true => s_wAt p (.fieldLink (s_R own) e.1 RX10 "ALL" "[LCampAshes$Word;")
    | false => Nat.ble 1000 a && Nat.blt a 1029 && s_wAt p (.fieldLink (s_R own) e.1 RX10 (s_wn.getD (a - 1000) "") "LCampAshes$Word;"))
  | _ => false
def s_ckM (own : Nat) (e : Nat × Nat × Nat × Nat) (p : Nat) : Bool := match e.2.1 with
  | 0 => (match s_ms[e.2.2.1]? with
    | some q => s_wAt p (.methodLink (s_R own) e.1 q.1) && s_wAt (s_pI.getD e.2.2.1 0) (.instanceMethod q.1) && s_wAt (s_pS.getD e.2.2.1 0) (.selects q.1.cls q.1 q.1) && decide ((parseMethodDescriptor q.1.desc).map (fun d => d.parameters.length) = some e.2.2.2)
    | none => false)
  | 1 => (match s_ms[e.2.2.1]? with
    | some q => s_wAt p (.methodLink (s_R own) e.1 q.1) && s_wAt (s_pI.getD e.2.2.1 0) (.static q.1) && decide ((parseMethodDescriptor q.1.desc).map (fun d => d.parameters.length) = some e.2.2.2)
    | none => false)
  | 2 => (match s_ms[e.2.2.1]? with
    | some q => s_wAt p (.methodLink (s_R own) e.1 q.1) && s_wAt (s_pI.getD e.2.2.1 0) (.instanceMethod q.1) && q.2.2.2.2.2.1 && decide ((parseMethodDescriptor q.1.desc).map (fun d => d.parameters.length) = some e.2.2.2)
    | none => false)
  | 3 => (match s_ms[e.2.2.1]? with
    | some q => decide (Cond.methodLinkNest (s_R own) e.1 q.1 "CampAshes" ∈ s_nws) && s_wAt (s_pI.getD e.2.2.1 0) (.instanceMethod q.1) && q.2.2.2.2.2.1 && decide ((parseMethodDescriptor q.1.desc).map (fun d => d.parameters.length) = some e.2.2.2)
    | none => false)
  | 10 => s_wAt p (.methodLink (s_R own) e.1 objectInit)
  | 11 => s_wAt p (.methodLink (s_R own) e.1 arraycopyName)
  | 12 => s_wAt p (.methodLink (s_R own) e.1 yJ0_length_8abf5)
  | 13 => s_wAt p (.methodLink (s_R own) e.1 yJ0_charAt_5068e)
  | 14 => s_wAt p (.methodLink (s_R own) e.1 yL_boy)
  | 15 => s_wAt p (.methodLink (s_R own) e.1 Lib.Math.min.name)
  | 16 => s_wAt p (.methodLink (s_R own) e.1 Lib.Math.max.name)
  | _ => false
def s_ckC (own : Nat) (e : Nat × Nat) (p : Nat) : Bool := Nat.blt e.2 13 && s_wAt p (.classLink (s_R own) e.1 (s_R e.2))
def s_ckK (own : Nat) (e : Nat × Value) (p : Nat) : Bool := match e.2 with
  | .int v => s_wAt p (.constant (s_R own) e.1 v)
  | .long v => s_wAt p (.constantLong (s_R own) e.1 v)
  | .ref a => Nat.ble 1300 a && Nat.blt a 1303 && s_wAt p (.stringRef (s_R own) e.1 (s_sx.getD (a - 1300) ""))
  | _ => false
def s_okP (own : Nat) (cp : s_C) : Prop := (∀ e ∈ cp.1, ∃ p, s_ckF own e p = true) ∧ (∀ e ∈ cp.2.1, ∃ p, s_ckS own e p = true) ∧ (∀ e ∈ cp.2.2.1, ∃ p, s_ckM own e p = true) ∧ (∀ e ∈ cp.2.2.2.1, ∃ p, s_ckC own e p = true) ∧ ∀ e ∈ cp.2.2.2.2, ∃ p, s_ckK own e p = true
theorem s_zip {α : Type} (f : α → Nat → Bool) (l : List α) (ps : List Nat) (hl : l.length = ps.length) (h : ((l.zip ps).all fun x => f x.1 x.2) = true) : ∀ e ∈ l, ∃ p, f e p = true := by
  intro e he
  obtain ⟨i, hi⟩ := List.getElem?_of_mem he
  have h1 : i < l.length := (List.getElem?_eq_some_iff.mp hi).1
  have h2 : ps[i]? = some (ps[i]'(by omega)) := List.getElem?_eq_getElem (by omega)
  have h3 : (l.zip ps)[i]? = some (e, ps[i]'(by omega)) := by
    rw [List.getElem?_zip_eq_some]
    exact ⟨hi, h2⟩
  exact ⟨_, List.all_eq_true.mp h _ (List.mem_of_getElem? h3)⟩
set_option maxRecDepth 100000 in
theorem s_cF0 : ((s_cp0.1.zip [221, 227, 233, 241, 248, 303, 314, 473, 475, 477, 479, 481, 483, 484]).all fun x => s_ckF 0 x.1 x.2) = true := by decide +kernel
set_option maxRecDepth 100000 in
theorem s_cS0 : ((s_cp0.2.1.zip []).all fun x => s_ckS 0 x.1 x.2) = true := by decide +kernel
set_option maxRecDepth 100000 in
theorem s_cM0 : ((s_cp0.2.2.1.zip [472, 888, 892, 896, 897, 901, 907, 908, 909, 912, 928, 929, 942, 946, 962]).all fun x => s_ckM 0 x.1 x.2) = true := by decide +kernel
set_option maxRecDepth 100000 in
theorem s_cC0 : ((s_cp0.2.2.2.1.zip []).all fun x => s_ckC 0 x.1 x.2) = true := by decide +kernel
set_option maxRecDepth 100000 in
theorem s_cK0 : ((s_cp0.2.2.2.2.zip [961]).all fun x => s_ckK 0 x.1 x.2) = true := by decide +kernel
theorem s_okp0 : s_okP 0 s_cp0 := ⟨s_zip (s_ckF 0) _ _ (by decide +kernel) s_cF0, s_zip (s_ckS 0) _ _ (by decide +kernel) s_cS0, s_zip (s_ckM 0) _ _ (by decide +kernel) s_cM0, s_zip (s_ckC 0) _ _ (by decide +kernel) s_cC0, s_zip (s_ckK 0) _ _ (by decide +kernel) s_cK0⟩
set_option maxRecDepth 100000 in
theorem s_cF1 : ((s_cp1.1.zip [162, 169, 173, 319, 382, 383, 384, 385, 386, 387, 388, 390, 392, 394, 396]).all fun x => s_ckF 1 x.1 x.2) = true := by decide +kernel
set_option maxRecDepth 100000 in
theorem s_cS1 : ((s_cp1.2.1.zip [1120, 1123, 1125, 1140, 1142, 1144]).all fun x => s_ckS 1 x.1 x.2) = true := by decide +kernel
set_option maxRecDepth 100000 in
theorem s_cM1 : ((s_cp1.2.2.1.zip [381, 1115, 1116, 1122, 1127, 1128, 1129, 1133, 1134, 1135, 1139, 1146, 1147, 1151, 1156, 1160, 1161, 1162, 1163, 1164, 1165, 1168, 1169, 1170]).all fun x => s_ckM 1 x.1 x.2) = true := by decide +kernel
set_option maxRecDepth 100000 in
theorem s_cC1 : ((s_cp1.2.2.2.1.zip []).all fun x => s_ckC 1 x.1 x.2) = true := by decide +kernel
set_option maxRecDepth 100000 in
theorem s_cK1 : ((s_cp1.2.2.2.2.zip []).all fun x => s_ckK 1 x.1 x.2) = true := by decide +kernel
theorem s_okp1 : s_okP 1 s_cp1 := ⟨s_zip (s_ckF 1) _ _ (by decide +kernel) s_cF1, s_zip (s_ckS 1) _ _ (by decide +kernel) s_cS1, s_zip (s_ckM 1) _ _ (by decide +kernel) s_cM1, s_zip (s_ckC 1) _ _ (by decide +kernel) s_cC1, s_zip (s_ckK 1) _ _ (by decide +kernel) s_cK1⟩
set_option maxRecDepth 100000 in
theorem s_cF2 : ((s_cp2.1.zip [165, 172, 176, 220, 225, 229, 231, 236, 240, 244, 247, 250, 252, 254, 257, 260, 261, 2033]).all fun x => s_ckF 2 x.1 x.2) = true := by decide +kernel
set_option maxRecDepth 100000 in
theorem s_cS2 : ((s_cp2.2.1.zip [631, 663, 676, 686, 692, 694, 696]).all fun x => s_ckS 2 x.1 x.2) = true := by decide +kernel
set_option maxRecDepth 100000 in
theorem s_cM2 : ((s_cp2.2.2.1.zip [212, 213, 217, 623, 627, 633, 637, 641, 645, 646, 650, 654, 658, 665, 669, 673, 678, 682, 688, 698, 710]).all fun x => s_ckM 2 x.1 x.2) = true := by decide +kernel
set_option maxRecDepth 100000 in
theorem s_cC2 : ((s_cp2.2.2.2.1.zip []).all fun x => s_ckC 2 x.1 x.2) = true := by decide +kernel
set_option maxRecDepth 100000 in
theorem s_cK2 : ((s_cp2.2.2.2.2.zip []).all fun x => s_ckK 2 x.1 x.2) = true := by decide +kernel
theorem s_okp2 : s_okP 2 s_cp2 := ⟨s_zip (s_ckF 2) _ _ (by decide +kernel) s_cF2, s_zip (s_ckS 2) _ _ (by decide +kernel) s_cS2, s_zip (s_ckM 2) _ _ (by decide +kernel) s_cM2, s_zip (s_ckC 2) _ _ (by decide +kernel) s_cC2, s_zip (s_ckK 2) _ _ (by decide +kernel) s_cK2⟩
set_option maxRecDepth 100000 in
theorem s_cF3 : ((s_cp3.1.zip [516]).all fun x => s_ckF 3 x.1 x.2) = true := by decide +kernel
set_option maxRecDepth 100000 in
theorem s_cS3 : ((s_cp3.2.1.zip []).all fun x => s_ckS 3 x.1 x.2) = true := by decide +kernel
set_option maxRecDepth 100000 in
theorem s_cM3 : ((s_cp3.2.2.1.zip [515]).all fun x => s_ckM 3 x.1 x.2) = true := by decide +kernel
set_option maxRecDepth 100000 in
theorem s_cC3 : ((s_cp3.2.2.2.1.zip []).all fun x => s_ckC 3 x.1 x.2) = true := by decide +kernel
set_option maxRecDepth 100000 in
theorem s_cK3 : ((s_cp3.2.2.2.2.zip [1096]).all fun x => s_ckK 3 x.1 x.2) = true := by decide +kernel
theorem s_okp3 : s_okP 3 s_cp3 := ⟨s_zip (s_ckF 3) _ _ (by decide +kernel) s_cF3, s_zip (s_ckS 3) _ _ (by decide +kernel) s_cS3, s_zip (s_ckM 3) _ _ (by decide +kernel) s_cM3, s_zip (s_ckC 3) _ _ (by decide +kernel) s_cC3, s_zip (s_ckK 3) _ _ (by decide +kernel) s_cK3⟩
set_option maxRecDepth 100000 in
theorem s_cF4 : ((s_cp4.1.zip [430, 431, 432]).all fun x => s_ckF 4 x.1 x.2) = true := by decide +kernel
set_option maxRecDepth 100000 in
theorem s_cS4 : ((s_cp4.2.1.zip []).all fun x => s_ckS 4 x.1 x.2) = true := by decide +kernel
set_option maxRecDepth 100000 in
theorem s_cM4 : ((s_cp4.2.2.1.zip [426, 429, 822, 823]).all fun x => s_ckM 4 x.1 x.2) = true := by decide +kernel
set_option maxRecDepth 100000 in
theorem s_cC4 : ((s_cp4.2.2.2.1.zip [427]).all fun x => s_ckC 4 x.1 x.2) = true := by decide +kernel
set_option maxRecDepth 100000 in
theorem s_cK4 : ((s_cp4.2.2.2.2.zip []).all fun x => s_ckK 4 x.1 x.2) = true := by decide +kernel
theorem s_okp4 : s_okP 4 s_cp4 := ⟨s_zip (s_ckF 4) _ _ (by decide +kernel) s_cF4, s_zip (s_ckS 4) _ _ (by decide +kernel) s_cS4, s_zip (s_ckM 4) _ _ (by decide +kernel) s_cM4, s_zip (s_ckC 4) _ _ (by decide +kernel) s_cC4, s_zip (s_ckK 4) _ _ (by decide +kernel) s_cK4⟩
set_option maxRecDepth 100000 in
theorem s_cF5 : ((s_cp5.1.zip [453, 454, 455, 456]).all fun x => s_ckF 5 x.1 x.2) = true := by decide +kernel
set_option maxRecDepth 100000 in
theorem s_cS5 : ((s_cp5.2.1.zip []).all fun x => s_ckS 5 x.1 x.2) = true := by decide +kernel
set_option maxRecDepth 100000 in
theorem s_cM5 : ((s_cp5.2.2.1.zip [446, 448, 450, 452, 1279, 1280, 1281]).all fun x => s_ckM 5 x.1 x.2) = true := by decide +kernel
set_option maxRecDepth 100000 in
theorem s_cC5 : ((s_cp5.2.2.2.1.zip [447, 449, 451]).all fun x => s_ckC 5 x.1 x.2) = true := by decide +kernel
set_option maxRecDepth 100000 in
theorem s_cK5 : ((s_cp5.2.2.2.2.zip []).all fun x => s_ckK 5 x.1 x.2) = true := by decide +kernel
theorem s_okp5 : s_okP 5 s_cp5 := ⟨s_zip (s_ckF 5) _ _ (by decide +kernel) s_cF5, s_zip (s_ckS 5) _ _ (by decide +kernel) s_cS5, s_zip (s_ckM 5) _ _ (by decide +kernel) s_cM5, s_zip (s_ckC 5) _ _ (by decide +kernel) s_cC5, s_zip (s_ckK 5) _ _ (by decide +kernel) s_cK5⟩
set_option maxRecDepth 100000 in
theorem s_cF6 : ((s_cp6.1.zip [155, 156, 506]).all fun x => s_ckF 6 x.1 x.2) = true := by decide +kernel
set_option maxRecDepth 100000 in
theorem s_cS6 : ((s_cp6.2.1.zip []).all fun x => s_ckS 6 x.1 x.2) = true := by decide +kernel
set_option maxRecDepth 100000 in
theorem s_cM6 : ((s_cp6.2.2.1.zip [505, 973, 976, 985]).all fun x => s_ckM 6 x.1 x.2) = true := by decide +kernel
set_option maxRecDepth 100000 in
theorem s_cC6 : ((s_cp6.2.2.2.1.zip []).all fun x => s_ckC 6 x.1 x.2) = true := by decide +kernel
set_option maxRecDepth 100000 in
theorem s_cK6 : ((s_cp6.2.2.2.2.zip []).all fun x => s_ckK 6 x.1 x.2) = true := by decide +kernel
theorem s_okp6 : s_okP 6 s_cp6 := ⟨s_zip (s_ckF 6) _ _ (by decide +kernel) s_cF6, s_zip (s_ckS 6) _ _ (by decide +kernel) s_cS6, s_zip (s_ckM 6) _ _ (by decide +kernel) s_cM6, s_zip (s_ckC 6) _ _ (by decide +kernel) s_cC6, s_zip (s_ckK 6) _ _ (by decide +kernel) s_cK6⟩
set_option maxRecDepth 100000 in
theorem s_cF7 : ((s_cp7.1.zip [164, 168, 171, 175, 223, 235, 239, 300, 305, 310, 352, 353, 354, 355, 356, 357, 359]).all fun x => s_ckF 7 x.1 x.2) = true := by decide +kernel
set_option maxRecDepth 100000 in
theorem s_cS7 : ((s_cp7.2.1.zip [1200, 1205, 1207, 1209, 1211, 1213, 1215, 1217, 1219, 1221, 1236, 1239]).all fun x => s_ckS 7 x.1 x.2) = true := by decide +kernel
set_option maxRecDepth 100000 in
theorem s_cM7 : ((s_cp7.2.2.1.zip [349, 1183, 1184, 1188, 1192, 1196, 1199, 1202, 1223, 1224, 1225, 1226, 1230, 1231, 1232, 1238, 1241, 1246, 1255, 1259, 1263, 1264, 1265, 1266, 1267]).all fun x => s_ckM 7 x.1 x.2) = true := by decide +kernel
set_option maxRecDepth 100000 in
theorem s_cC7 : ((s_cp7.2.2.2.1.zip [350]).all fun x => s_ckC 7 x.1 x.2) = true := by decide +kernel
set_option maxRecDepth 100000 in
theorem s_cK7 : ((s_cp7.2.2.2.2.zip []).all fun x => s_ckK 7 x.1 x.2) = true := by decide +kernel
theorem s_okp7 : s_okP 7 s_cp7 := ⟨s_zip (s_ckF 7) _ _ (by decide +kernel) s_cF7, s_zip (s_ckS 7) _ _ (by decide +kernel) s_cS7, s_zip (s_ckM 7) _ _ (by decide +kernel) s_cM7, s_zip (s_ckC 7) _ _ (by decide +kernel) s_cC7, s_zip (s_ckK 7) _ _ (by decide +kernel) s_cK7⟩
set_option maxRecDepth 100000 in
theorem s_cF8 : ((s_cp8.1.zip [222, 226, 232, 237, 243, 245, 249, 251, 253, 255, 258, 299, 301, 302, 306, 308, 311, 313, 316, 318, 321]).all fun x => s_ckF 8 x.1 x.2) = true := by decide +kernel
set_option maxRecDepth 100000 in
theorem s_cS8 : ((s_cp8.2.1.zip []).all fun x => s_ckS 8 x.1 x.2) = true := by decide +kernel
set_option maxRecDepth 100000 in
theorem s_cM8 : ((s_cp8.2.2.1.zip [298, 524, 525, 749, 774, 790, 795, 799, 800, 804, 805, 806, 864, 868, 997, 1001, 1002, 1092, 1097, 1098, 1102]).all fun x => s_ckM 8 x.1 x.2) = true := by decide +kernel
set_option maxRecDepth 100000 in
theorem s_cC8 : ((s_cp8.2.2.2.1.zip []).all fun x => s_ckC 8 x.1 x.2) = true := by decide +kernel
set_option maxRecDepth 100000 in
theorem s_cK8 : ((s_cp8.2.2.2.2.zip []).all fun x => s_ckK 8 x.1 x.2) = true := by decide +kernel
theorem s_okp8 : s_okP 8 s_cp8 := ⟨s_zip (s_ckF 8) _ _ (by decide +kernel) s_cF8, s_zip (s_ckS 8) _ _ (by decide +kernel) s_cS8, s_zip (s_ckM 8) _ _ (by decide +kernel) s_cM8, s_zip (s_ckC 8) _ _ (by decide +kernel) s_cC8, s_zip (s_ckK 8) _ _ (by decide +kernel) s_cK8⟩
set_option maxRecDepth 100000 in
theorem s_cF9 : ((s_cp9.1.zip [154, 158, 159, 160, 161, 163, 166, 167, 170, 174, 177, 179]).all fun x => s_ckF 9 x.1 x.2) = true := by decide +kernel
set_option maxRecDepth 100000 in
theorem s_cS9 : ((s_cp9.2.1.zip []).all fun x => s_ckS 9 x.1 x.2) = true := by decide +kernel
set_option maxRecDepth 100000 in
theorem s_cM9 : ((s_cp9.2.2.1.zip [153, 598, 602, 605, 610, 614, 662, 702]).all fun x => s_ckM 9 x.1 x.2) = true := by decide +kernel
set_option maxRecDepth 100000 in
theorem s_cC9 : ((s_cp9.2.2.2.1.zip []).all fun x => s_ckC 9 x.1 x.2) = true := by decide +kernel
set_option maxRecDepth 100000 in
theorem s_cK9 : ((s_cp9.2.2.2.2.zip [609]).all fun x => s_ckK 9 x.1 x.2) = true := by decide +kernel
theorem s_okp9 : s_okP 9 s_cp9 := ⟨s_zip (s_ckF 9) _ _ (by decide +kernel) s_cF9, s_zip (s_ckS 9) _ _ (by decide +kernel) s_cS9, s_zip (s_ckM 9) _ _ (by decide +kernel) s_cM9, s_zip (s_ckC 9) _ _ (by decide +kernel) s_cC9, s_zip (s_ckK 9) _ _ (by decide +kernel) s_cK9⟩
set_option maxRecDepth 100000 in
theorem s_cF10 : ((s_cp10.1.zip [2032]).all fun x => s_ckF 10 x.1 x.2) = true := by decide +kernel
set_option maxRecDepth 100000 in
theorem s_cS10 : ((s_cp10.2.1.zip [617]).all fun x => s_ckS 10 x.1 x.2) = true := by decide +kernel
set_option maxRecDepth 100000 in
theorem s_cM10 : ((s_cp10.2.2.1.zip []).all fun x => s_ckM 10 x.1 x.2) = true := by decide +kernel
set_option maxRecDepth 100000 in
theorem s_cC10 : ((s_cp10.2.2.2.1.zip []).all fun x => s_ckC 10 x.1 x.2) = true := by decide +kernel
set_option maxRecDepth 100000 in
theorem s_cK10 : ((s_cp10.2.2.2.2.zip []).all fun x => s_ckK 10 x.1 x.2) = true := by decide +kernel
theorem s_okp10 : s_okP 10 s_cp10 := ⟨s_zip (s_ckF 10) _ _ (by decide +kernel) s_cF10, s_zip (s_ckS 10) _ _ (by decide +kernel) s_cS10, s_zip (s_ckM 10) _ _ (by decide +kernel) s_cM10, s_zip (s_ckC 10) _ _ (by decide +kernel) s_cC10, s_zip (s_ckK 10) _ _ (by decide +kernel) s_cK10⟩
set_option maxRecDepth 100000 in
theorem s_cF11 : ((s_cp11.1.zip [157, 178, 180, 224, 228, 230, 234, 238, 242, 246, 256, 259, 304, 307, 309, 312, 315, 317, 320, 322, 358, 360, 389, 391, 393, 395, 397, 457, 474, 476, 478, 480, 482, 529, 530, 531, 532, 533, 534, 535, 536, 537, 538, 539, 540, 541, 542, 543, 544]).all fun x => s_ckF 11 x.1 x.2) = true := by decide +kernel
set_option maxRecDepth 100000 in
theorem s_cS11 : ((s_cp11.2.1.zip []).all fun x => s_ckS 11 x.1 x.2) = true := by decide +kernel
set_option maxRecDepth 100000 in
theorem s_cM11 : ((s_cp11.2.2.1.zip [145, 150, 209, 295, 346, 378, 423, 443, 469, 502, 512, 520, 582, 594, 619, 706, 713, 717, 729, 733, 737, 745, 754, 766, 770, 778, 786, 791, 810, 814, 818, 828, 836, 844, 852, 860, 876, 884, 924, 938, 957, 969, 981, 993, 1007, 1012, 1017, 1021, 1031, 1069, 1074, 1084, 1088, 1111, 1152, 1179, 1242, 1251, 1270, 1275, 1286, 1367, 1368]).all fun x => s_ckM 11 x.1 x.2) = true := by decide +kernel
set_option maxRecDepth 100000 in
theorem s_cC11 : ((s_cp11.2.2.2.1.zip [148, 207, 293, 344, 376, 421, 440, 467, 500, 510]).all fun x => s_ckC 11 x.1 x.2) = true := by decide +kernel
set_option maxRecDepth 100000 in
theorem s_cK11 : ((s_cp11.2.2.2.2.zip [1011, 1016, 1073, 1075]).all fun x => s_ckK 11 x.1 x.2) = true := by decide +kernel
theorem s_okp11 : s_okP 11 s_cp11 := ⟨s_zip (s_ckF 11) _ _ (by decide +kernel) s_cF11, s_zip (s_ckS 11) _ _ (by decide +kernel) s_cS11, s_zip (s_ckM 11) _ _ (by decide +kernel) s_cM11, s_zip (s_ckC 11) _ _ (by decide +kernel) s_cC11, s_zip (s_ckK 11) _ _ (by decide +kernel) s_cK11⟩
set_option maxRecDepth 100000 in
theorem s_cF12 : ((s_cp12.1.zip [1400, 1401, 1402, 1403, 1404, 1405, 1406, 1407, 1408, 1409, 1410, 1411, 1412, 1413, 1414, 1415, 1416, 1417, 1418, 1419, 1420, 1421, 1422, 1423, 1424, 1425, 1426, 1427, 1428, 1429, 1430, 1431, 1432, 1433, 1434, 1435, 1436, 1437, 1438, 1439, 1440, 1441, 1442, 1443, 1444, 1445, 1446, 1447]).all fun x => s_ckF 12 x.1 x.2) = true := by decide +kernel
set_option maxRecDepth 100000 in
theorem s_cS12 : ((s_cp12.2.1.zip []).all fun x => s_ckS 12 x.1 x.2) = true := by decide +kernel
set_option maxRecDepth 100000 in
theorem s_cM12 : ((s_cp12.2.2.1.zip [1378, 1391, 1392, 1396, 1550, 1554, 1558, 1562, 1565, 1568, 1574, 1578, 1582, 1585, 1588, 1592, 1596, 1600, 1604, 1608, 1611, 1615, 1618, 1622, 1626, 1630, 1634, 1638, 1642, 1646, 1658, 1662, 1666, 1670, 1674, 1678, 1682, 1685, 1693, 1705, 1709, 1721, 1725, 1733, 1737, 1741, 1745, 1749, 1753, 1757, 1760, 1788, 1792, 1800, 1804, 1808, 1812, 1816, 1820, 1848, 1855, 1858, 1870, 1874, 1882, 1886, 1890, 1894, 1906, 1910, 1915, 1927, 1931, 1935, 1939, 1943, 1947, 1959, 1963, 1967, 1971, 1975, 1979, 1983, 1987, 1991, 1999]).all fun x => s_ckM 12 x.1 x.2) = true := by decide +kernel
set_option maxRecDepth 100000 in
theorem s_cC12 : ((s_cp12.2.2.2.1.zip []).all fun x => s_ckC 12 x.1 x.2) = true := by decide +kernel
set_option maxRecDepth 100000 in
theorem s_cK12 : ((s_cp12.2.2.2.2.zip [1572, 1573, 1847, 1914]).all fun x => s_ckK 12 x.1 x.2) = true := by decide +kernel
theorem s_okp12 : s_okP 12 s_cp12 := ⟨s_zip (s_ckF 12) _ _ (by decide +kernel) s_cF12, s_zip (s_ckS 12) _ _ (by decide +kernel) s_cS12, s_zip (s_ckM 12) _ _ (by decide +kernel) s_cM12, s_zip (s_ckC 12) _ _ (by decide +kernel) s_cC12, s_zip (s_ckK 12) _ _ (by decide +kernel) s_cK12⟩
set_option maxRecDepth 100000 in
theorem s_cF13 : ((s_cp13.1.zip []).all fun x => s_ckF 13 x.1 x.2) = true := by decide +kernel
set_option maxRecDepth 100000 in
theorem s_cS13 : ((s_cp13.2.1.zip []).all fun x => s_ckS 13 x.1 x.2) = true := by decide +kernel
set_option maxRecDepth 100000 in
theorem s_cM13 : ((s_cp13.2.2.1.zip [142, 578, 586, 590, 721, 725, 741, 750, 758, 762, 782, 824, 832, 840, 848, 856, 872, 880, 916, 920, 930, 934, 949, 953, 965, 977, 989, 1003, 1076, 1080, 1103, 1107, 1171, 1175, 1247, 1271, 1282, 1290, 1294, 1298, 1370, 1374, 1383, 1388, 1546, 1650, 1654, 1689, 1697, 1701, 1713, 1717, 1729, 1764, 1768, 1772, 1776, 1780, 1784, 1796, 1823, 1827, 1831, 1835, 1839, 1843, 1851, 1862, 1866, 1878, 1898, 1902, 1919, 1923, 1951, 1955, 1995, 2003, 2007, 2011]).all fun x => s_ckM 13 x.1 x.2) = true := by decide +kernel
set_option maxRecDepth 100000 in
theorem s_cC13 : ((s_cp13.2.2.2.1.zip [140, 1387]).all fun x => s_ckC 13 x.1 x.2) = true := by decide +kernel
set_option maxRecDepth 100000 in
theorem s_cK13 : ((s_cp13.2.2.2.2.zip []).all fun x => s_ckK 13 x.1 x.2) = true := by decide +kernel
theorem s_okp13 : s_okP 13 s_cp13 := ⟨s_zip (s_ckF 13) _ _ (by decide +kernel) s_cF13, s_zip (s_ckS 13) _ _ (by decide +kernel) s_cS13, s_zip (s_ckM 13) _ _ (by decide +kernel) s_cM13, s_zip (s_ckC 13) _ _ (by decide +kernel) s_cC13, s_zip (s_ckK 13) _ _ (by decide +kernel) s_cK13⟩
set_option maxRecDepth 100000 in
theorem s_cF14 : ((s_cp14.1.zip []).all fun x => s_ckF 14 x.1 x.2) = true := by decide +kernel
set_option maxRecDepth 100000 in
theorem s_cS14 : ((s_cp14.2.1.zip []).all fun x => s_ckS 14 x.1 x.2) = true := by decide +kernel
set_option maxRecDepth 100000 in
theorem s_cM14 : ((s_cp14.2.2.1.zip []).all fun x => s_ckM 14 x.1 x.2) = true := by decide +kernel
set_option maxRecDepth 100000 in
theorem s_cC14 : ((s_cp14.2.2.2.1.zip []).all fun x => s_ckC 14 x.1 x.2) = true := by decide +kernel
set_option maxRecDepth 100000 in
theorem s_cK14 : ((s_cp14.2.2.2.2.zip [904, 905, 906]).all fun x => s_ckK 14 x.1 x.2) = true := by decide +kernel
theorem s_okp14 : s_okP 14 s_cp14 := ⟨s_zip (s_ckF 14) _ _ (by decide +kernel) s_cF14, s_zip (s_ckS 14) _ _ (by decide +kernel) s_cS14, s_zip (s_ckM 14) _ _ (by decide +kernel) s_cM14, s_zip (s_ckC 14) _ _ (by decide +kernel) s_cC14, s_zip (s_ckK 14) _ _ (by decide +kernel) s_cK14⟩
set_option maxRecDepth 100000 in
theorem s_cF15 : ((s_cp15.1.zip []).all fun x => s_ckF 15 x.1 x.2) = true := by decide +kernel
set_option maxRecDepth 100000 in
theorem s_cS15 : ((s_cp15.2.1.zip []).all fun x => s_ckS 15 x.1 x.2) = true := by decide +kernel
set_option maxRecDepth 100000 in
theorem s_cM15 : ((s_cp15.2.2.1.zip []).all fun x => s_ckM 15 x.1 x.2) = true := by decide +kernel
set_option maxRecDepth 100000 in
theorem s_cC15 : ((s_cp15.2.2.2.1.zip []).all fun x => s_ckC 15 x.1 x.2) = true := by decide +kernel
set_option maxRecDepth 100000 in
theorem s_cK15 : ((s_cp15.2.2.2.2.zip []).all fun x => s_ckK 15 x.1 x.2) = true := by decide +kernel
theorem s_okp15 : s_okP 15 s_cp15 := ⟨s_zip (s_ckF 15) _ _ (by decide +kernel) s_cF15, s_zip (s_ckS 15) _ _ (by decide +kernel) s_cS15, s_zip (s_ckM 15) _ _ (by decide +kernel) s_cM15, s_zip (s_ckC 15) _ _ (by decide +kernel) s_cC15, s_zip (s_ckK 15) _ _ (by decide +kernel) s_cK15⟩
set_option maxRecDepth 100000 in
theorem s_cF16 : ((s_cp16.1.zip []).all fun x => s_ckF 16 x.1 x.2) = true := by decide +kernel
set_option maxRecDepth 100000 in
theorem s_cS16 : ((s_cp16.2.1.zip []).all fun x => s_ckS 16 x.1 x.2) = true := by decide +kernel
set_option maxRecDepth 100000 in
theorem s_cM16 : ((s_cp16.2.2.1.zip []).all fun x => s_ckM 16 x.1 x.2) = true := by decide +kernel
set_option maxRecDepth 100000 in
theorem s_cC16 : ((s_cp16.2.2.2.1.zip []).all fun x => s_ckC 16 x.1 x.2) = true := by decide +kernel
set_option maxRecDepth 100000 in
theorem s_cK16 : ((s_cp16.2.2.2.2.zip []).all fun x => s_ckK 16 x.1 x.2) = true := by decide +kernel
theorem s_okp16 : s_okP 16 s_cp16 := ⟨s_zip (s_ckF 16) _ _ (by decide +kernel) s_cF16, s_zip (s_ckS 16) _ _ (by decide +kernel) s_cS16, s_zip (s_ckM 16) _ _ (by decide +kernel) s_cM16, s_zip (s_ckC 16) _ _ (by decide +kernel) s_cC16, s_zip (s_ckK 16) _ _ (by decide +kernel) s_cK16⟩
theorem s_okPs : ∀ (own : Nat) (cp : s_C), s_cps[own]? = some cp → s_okP own cp := by
  intro own cp h
  match own, h with
  | 0, h => cases h; exact s_okp0
  | 1, h => cases h; exact s_okp1
  | 2, h => cases h; exact s_okp2
  | 3, h => cases h; exact s_okp3
  | 4, h => cases h; exact s_okp4
  | 5, h => cases h; exact s_okp5
  | 6, h => cases h; exact s_okp6
  | 7, h => cases h; exact s_okp7
  | 8, h => cases h; exact s_okp8
  | 9, h => cases h; exact s_okp9
  | 10, h => cases h; exact s_okp10
  | 11, h => cases h; exact s_okp11
  | 12, h => cases h; exact s_okp12
  | 13, h => cases h; exact s_okp13
  | 14, h => cases h; exact s_okp14
  | 15, h => cases h; exact s_okp15
  | 16, h => cases h; exact s_okp16
  | n + 17, h => exact absurd (List.getElem?_eq_some_iff.mp h).1 (by show ¬ n + 17 < 17; omega)
theorem s_look_mem {α : Type} : ∀ (l : List (Nat × α)) (n : Nat) (x : α), s_look l n = some x → (n, x) ∈ l := by
  intro l
  induction l with
  | nil => intro n x h; cases h
  | cons a t ih =>
    intro n x h
    obtain ⟨k, y⟩ := a
    unfold s_look at h
    cases hb : Nat.beq k n with
    | true =>
      rw [hb] at h
      have e := Nat.eq_of_beq_eq_true hb
      subst e
      cases h
      exact List.mem_cons_self
    | false =>
      rw [hb] at h
      exact List.mem_cons_of_mem _ (ih n x h)
theorem s_w1 : Cond.instanceMethod objectInit ∈ lw_tbl := s_wAt_mem (p := 146) (by decide +kernel)
theorem s_w2 : Cond.code objectInit ⟨#[0xb1]⟩ 1 none ∈ lw_tbl := s_wAt_mem (p := 147) (by decide +kernel)
theorem s_w3 : Cond.native arraycopyName ∈ lw_tbl := s_wAt_mem (p := 712) (by decide +kernel)
theorem s_w4 : Cond.static arraycopyName ∈ lw_tbl := s_wAt_mem (p := 711) (by decide +kernel)
theorem s_w5 : Cond.initialized "java/lang/System" ∈ lw_tbl := s_wAt_mem (p := 130) (by decide +kernel)
theorem s_wa100 : Cond.arrayClass .byte ∈ lw_tbl := s_wAt_mem (p := 206) (by decide +kernel)
theorem s_wa101 : Cond.arrayClass .int ∈ lw_tbl := s_wAt_mem (p := 292) (by decide +kernel)
theorem s_wa102 : Cond.arrayClass .long ∈ lw_tbl := s_wAt_mem (p := 291) (by decide +kernel)
theorem s_wa103 : Cond.arrayClass .boolean ∈ lw_tbl := s_wAt_mem (p := 1545) (by decide +kernel)
theorem s_wm0 : Cond.static Lib.Math.min.name ∈ lw_tbl := s_wAt_mem (p := 603) (by decide +kernel)
theorem s_wc0 : Cond.code Lib.Math.min.name Lib.Math.min.code 2 (some .int) ∈ lw_tbl := s_wAt_mem (p := 604) (by decide +kernel)
theorem s_wm1 : Cond.static Lib.Math.max.name ∈ lw_tbl := s_wAt_mem (p := 910) (by decide +kernel)
theorem s_wc1 : Cond.code Lib.Math.max.name Lib.Math.max.code 2 (some .int) ∈ lw_tbl := s_wAt_mem (p := 911) (by decide +kernel)
theorem s_wi : Cond.initialized "java/lang/Math" ∈ lw_tbl := s_wAt_mem (p := 127) (by decide +kernel)
