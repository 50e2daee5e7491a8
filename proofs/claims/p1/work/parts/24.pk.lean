/-! ===== the methods may be called ===== -/
set_option maxRecDepth 100000 in
theorem pk_1 : sOkQ pm_1 := ⟨by decide +kernel, Or.inr ⟨by decide +kernel, sAt_ok (pos := 1071) (by decide +kernel)⟩, sAt_ok (pos := 101) (by decide +kernel), by decide +kernel⟩
set_option maxRecDepth 100000 in
theorem pk_2 : sOkQ pm_2 := ⟨by decide +kernel, Or.inr ⟨by decide +kernel, sAt_ok (pos := 1181) (by decide +kernel)⟩, sAt_ok (pos := 101) (by decide +kernel), by decide +kernel⟩
set_option maxRecDepth 100000 in
theorem pk_3 : sOkQ pm_3 := ⟨by decide +kernel, Or.inr ⟨by decide +kernel, sAt_ok (pos := 1136) (by decide +kernel)⟩, sAt_ok (pos := 101) (by decide +kernel), by decide +kernel⟩
set_option maxRecDepth 100000 in
theorem pk_4 : sOkQ pm_4 := ⟨by decide +kernel, Or.inr ⟨by decide +kernel, sAt_ok (pos := 1037) (by decide +kernel)⟩, sAt_ok (pos := 101) (by decide +kernel), by decide +kernel⟩
set_option maxRecDepth 100000 in
theorem pk_5 : sOkQ pm_5 := ⟨by decide +kernel, Or.inr ⟨by decide +kernel, sAt_ok (pos := 1188) (by decide +kernel)⟩, sAt_ok (pos := 101) (by decide +kernel), by decide +kernel⟩
set_option maxRecDepth 100000 in
theorem pk_6 : sOkQ pm_6 := ⟨by decide +kernel, Or.inr ⟨by decide +kernel, sAt_ok (pos := 1264) (by decide +kernel)⟩, sAt_ok (pos := 101) (by decide +kernel), by decide +kernel⟩
set_option maxRecDepth 100000 in
theorem pk_7 : sOkQ pm_7 := ⟨by decide +kernel, Or.inr ⟨by decide +kernel, sAt_ok (pos := 1321) (by decide +kernel)⟩, sAt_ok (pos := 101) (by decide +kernel), by decide +kernel⟩
set_option maxRecDepth 100000 in
theorem pk_8 : sOkQ pm_8 := ⟨by decide +kernel, Or.inr ⟨by decide +kernel, sAt_ok (pos := 1233) (by decide +kernel)⟩, sAt_ok (pos := 101) (by decide +kernel), by decide +kernel⟩
set_option maxRecDepth 100000 in
theorem pk_9 : sOkQ pm_9 := ⟨by decide +kernel, Or.inr ⟨by decide +kernel, sAt_ok (pos := 1148) (by decide +kernel)⟩, sAt_ok (pos := 101) (by decide +kernel), by decide +kernel⟩
set_option maxRecDepth 100000 in
theorem pk_10 : sOkQ pm_10 := ⟨by decide +kernel, Or.inr ⟨by decide +kernel, sAt_ok (pos := 1120) (by decide +kernel)⟩, sAt_ok (pos := 101) (by decide +kernel), by decide +kernel⟩
set_option maxRecDepth 100000 in
theorem pk_11 : sOkQ pm_11 := ⟨by decide +kernel, Or.inr ⟨by decide +kernel, sAt_ok (pos := 1085) (by decide +kernel)⟩, sAt_ok (pos := 101) (by decide +kernel), by decide +kernel⟩
set_option maxRecDepth 100000 in
theorem pk_12 : sOkQ pm_12 := ⟨by decide +kernel, Or.inr ⟨by decide +kernel, sAt_ok (pos := 1226) (by decide +kernel)⟩, sAt_ok (pos := 101) (by decide +kernel), by decide +kernel⟩
set_option maxRecDepth 100000 in
theorem pk_13 : sOkQ pm_13 := ⟨by decide +kernel, Or.inr ⟨by decide +kernel, sAt_ok (pos := 1240) (by decide +kernel)⟩, sAt_ok (pos := 101) (by decide +kernel), by decide +kernel⟩
set_option maxRecDepth 100000 in
theorem pk_14 : sOkQ pm_14 := ⟨by decide +kernel, Or.inr ⟨by decide +kernel, sAt_ok (pos := 1174) (by decide +kernel)⟩, sAt_ok (pos := 101) (by decide +kernel), by decide +kernel⟩
set_option maxRecDepth 100000 in
theorem pk_15 : sOkQ pm_15 := ⟨by decide +kernel, Or.inr ⟨by decide +kernel, sAt_ok (pos := 686) (by decide +kernel)⟩, sAt_ok (pos := 101) (by decide +kernel), by decide +kernel⟩
set_option maxRecDepth 100000 in
theorem pk_16 : sOkQ pm_16 := ⟨by decide +kernel, Or.inr ⟨by decide +kernel, sAt_ok (pos := 1195) (by decide +kernel)⟩, sAt_ok (pos := 101) (by decide +kernel), by decide +kernel⟩
set_option maxRecDepth 100000 in
theorem pk_17 : sOkQ pm_17 := ⟨by decide +kernel, Or.inr ⟨by decide +kernel, sAt_ok (pos := 1102) (by decide +kernel)⟩, sAt_ok (pos := 101) (by decide +kernel), by decide +kernel⟩
set_option maxRecDepth 100000 in
theorem pk_18 : sOkQ pm_18 := ⟨by decide +kernel, Or.inr ⟨by decide +kernel, sAt_ok (pos := 1279) (by decide +kernel)⟩, sAt_ok (pos := 101) (by decide +kernel), by decide +kernel⟩
set_option maxRecDepth 100000 in
theorem pk_19 : sOkQ pm_19 := ⟨by decide +kernel, Or.inr ⟨by decide +kernel, sAt_ok (pos := 1206) (by decide +kernel)⟩, sAt_ok (pos := 101) (by decide +kernel), by decide +kernel⟩
set_option maxRecDepth 100000 in
theorem pk_20 : sOkQ pm_20 := ⟨by decide +kernel, Or.inr ⟨by decide +kernel, sAt_ok (pos := 1157) (by decide +kernel)⟩, sAt_ok (pos := 101) (by decide +kernel), by decide +kernel⟩
set_option maxRecDepth 100000 in
theorem pk_21 : sOkQ pm_21 := ⟨by decide +kernel, Or.inr ⟨by decide +kernel, sAt_ok (pos := 1290) (by decide +kernel)⟩, sAt_ok (pos := 101) (by decide +kernel), by decide +kernel⟩
set_option maxRecDepth 100000 in
theorem pk_22 : sOkQ pm_22 := ⟨by decide +kernel, Or.inr ⟨by decide +kernel, sAt_ok (pos := 1253) (by decide +kernel)⟩, sAt_ok (pos := 101) (by decide +kernel), by decide +kernel⟩
set_option maxRecDepth 100000 in
theorem pk_23 : sOkQ pm_23 := ⟨by decide +kernel, Or.inr ⟨by decide +kernel, sAt_ok (pos := 1355) (by decide +kernel)⟩, sAt_ok (pos := 101) (by decide +kernel), by decide +kernel⟩
set_option maxRecDepth 100000 in
theorem pk_24 : sOkQ pm_24 := ⟨by decide +kernel, Or.inl ⟨rfl, sAt_ok (pos := 672) (by decide +kernel)⟩, sAt_ok (pos := 108) (by decide +kernel), by decide +kernel⟩
set_option maxRecDepth 100000 in
theorem pk_25 : sOkQ pm_25 := ⟨by decide +kernel, Or.inl ⟨rfl, sAt_ok (pos := 359) (by decide +kernel)⟩, sAt_ok (pos := 108) (by decide +kernel), by decide +kernel⟩
set_option maxRecDepth 100000 in
theorem pk_26 : sOkQ pm_26 := ⟨by decide +kernel, Or.inl ⟨rfl, sAt_ok (pos := 1984) (by decide +kernel)⟩, sAt_ok (pos := 112) (by decide +kernel), by decide +kernel⟩
set_option maxRecDepth 100000 in
theorem pk_27 : sOkQ pm_27 := ⟨by decide +kernel, Or.inl ⟨rfl, sAt_ok (pos := 1789) (by decide +kernel)⟩, sAt_ok (pos := 112) (by decide +kernel), by decide +kernel⟩
set_option maxRecDepth 100000 in
theorem pk_28 : sOkQ pm_28 := ⟨by decide +kernel, Or.inl ⟨rfl, sAt_ok (pos := 1996) (by decide +kernel)⟩, sAt_ok (pos := 112) (by decide +kernel), by decide +kernel⟩
set_option maxRecDepth 100000 in
theorem pk_29 : sOkQ pm_29 := ⟨by decide +kernel, Or.inl ⟨rfl, sAt_ok (pos := 1870) (by decide +kernel)⟩, sAt_ok (pos := 112) (by decide +kernel), by decide +kernel⟩
set_option maxRecDepth 100000 in
theorem pk_30 : sOkQ pm_30 := ⟨by decide +kernel, Or.inl ⟨rfl, sAt_ok (pos := 1607) (by decide +kernel)⟩, sAt_ok (pos := 112) (by decide +kernel), by decide +kernel⟩
set_option maxRecDepth 100000 in
theorem pk_31 : sOkQ pm_31 := ⟨by decide +kernel, Or.inl ⟨rfl, sAt_ok (pos := 1967) (by decide +kernel)⟩, sAt_ok (pos := 112) (by decide +kernel), by decide +kernel⟩
set_option maxRecDepth 100000 in
theorem pk_32 : sOkQ pm_32 := ⟨by decide +kernel, Or.inl ⟨rfl, sAt_ok (pos := 1842) (by decide +kernel)⟩, sAt_ok (pos := 112) (by decide +kernel), by decide +kernel⟩
set_option maxRecDepth 100000 in
theorem pk_33 : sOkQ pm_33 := ⟨by decide +kernel, Or.inl ⟨rfl, sAt_ok (pos := 1730) (by decide +kernel)⟩, sAt_ok (pos := 112) (by decide +kernel), by decide +kernel⟩
set_option maxRecDepth 100000 in
theorem pk_34 : sOkQ pm_34 := ⟨by decide +kernel, Or.inl ⟨rfl, sAt_ok (pos := 1785) (by decide +kernel)⟩, sAt_ok (pos := 112) (by decide +kernel), by decide +kernel⟩
set_option maxRecDepth 100000 in
theorem pk_35 : sOkQ pm_35 := ⟨by decide +kernel, Or.inl ⟨rfl, sAt_ok (pos := 1878) (by decide +kernel)⟩, sAt_ok (pos := 112) (by decide +kernel), by decide +kernel⟩
set_option maxRecDepth 100000 in
theorem pk_36 : sOkQ pm_36 := ⟨by decide +kernel, Or.inl ⟨rfl, sAt_ok (pos := 1914) (by decide +kernel)⟩, sAt_ok (pos := 112) (by decide +kernel), by decide +kernel⟩
set_option maxRecDepth 100000 in
theorem pk_37 : sOkQ pm_37 := ⟨by decide +kernel, Or.inl ⟨rfl, sAt_ok (pos := 1930) (by decide +kernel)⟩, sAt_ok (pos := 112) (by decide +kernel), by decide +kernel⟩
set_option maxRecDepth 100000 in
theorem pk_38 : sOkQ pm_38 := ⟨by decide +kernel, Or.inl ⟨rfl, sAt_ok (pos := 1934) (by decide +kernel)⟩, sAt_ok (pos := 112) (by decide +kernel), by decide +kernel⟩
set_option maxRecDepth 100000 in
theorem pk_39 : sOkQ pm_39 := ⟨by decide +kernel, Or.inl ⟨rfl, sAt_ok (pos := 1599) (by decide +kernel)⟩, sAt_ok (pos := 112) (by decide +kernel), by decide +kernel⟩
set_option maxRecDepth 100000 in
theorem pk_40 : sOkQ pm_40 := ⟨by decide +kernel, Or.inl ⟨rfl, sAt_ok (pos := 1874) (by decide +kernel)⟩, sAt_ok (pos := 112) (by decide +kernel), by decide +kernel⟩
set_option maxRecDepth 100000 in
theorem pk_41 : sOkQ pm_41 := ⟨by decide +kernel, Or.inl ⟨rfl, sAt_ok (pos := 1942) (by decide +kernel)⟩, sAt_ok (pos := 112) (by decide +kernel), by decide +kernel⟩
set_option maxRecDepth 100000 in
theorem pk_42 : sOkQ pm_42 := ⟨by decide +kernel, Or.inl ⟨rfl, sAt_ok (pos := 1726) (by decide +kernel)⟩, sAt_ok (pos := 112) (by decide +kernel), by decide +kernel⟩
set_option maxRecDepth 100000 in
theorem pk_43 : sOkQ pm_43 := ⟨by decide +kernel, Or.inl ⟨rfl, sAt_ok (pos := 1591) (by decide +kernel)⟩, sAt_ok (pos := 112) (by decide +kernel), by decide +kernel⟩
set_option maxRecDepth 100000 in
theorem pk_44 : sOkQ pm_44 := ⟨by decide +kernel, Or.inl ⟨rfl, sAt_ok (pos := 1959) (by decide +kernel)⟩, sAt_ok (pos := 112) (by decide +kernel), by decide +kernel⟩
set_option maxRecDepth 100000 in
theorem pk_45 : sOkQ pm_45 := ⟨by decide +kernel, Or.inl ⟨rfl, sAt_ok (pos := 1975) (by decide +kernel)⟩, sAt_ok (pos := 112) (by decide +kernel), by decide +kernel⟩
set_option maxRecDepth 100000 in
theorem pk_46 : sOkQ pm_46 := ⟨by decide +kernel, Or.inl ⟨rfl, sAt_ok (pos := 1963) (by decide +kernel)⟩, sAt_ok (pos := 112) (by decide +kernel), by decide +kernel⟩
set_option maxRecDepth 100000 in
theorem pk_47 : sOkQ pm_47 := ⟨by decide +kernel, Or.inl ⟨rfl, sAt_ok (pos := 1918) (by decide +kernel)⟩, sAt_ok (pos := 112) (by decide +kernel), by decide +kernel⟩
set_option maxRecDepth 100000 in
theorem pk_48 : sOkQ pm_48 := ⟨by decide +kernel, Or.inl ⟨rfl, sAt_ok (pos := 1993) (by decide +kernel)⟩, sAt_ok (pos := 112) (by decide +kernel), by decide +kernel⟩
set_option maxRecDepth 100000 in
theorem pk_49 : sOkQ pm_49 := ⟨by decide +kernel, Or.inl ⟨rfl, sAt_ok (pos := 1380) (by decide +kernel)⟩, sAt_ok (pos := 112) (by decide +kernel), by decide +kernel⟩
set_option maxRecDepth 100000 in
theorem pk_50 : sOkQ pm_50 := ⟨by decide +kernel, Or.inl ⟨rfl, sAt_ok (pos := 1793) (by decide +kernel)⟩, sAt_ok (pos := 112) (by decide +kernel), by decide +kernel⟩
set_option maxRecDepth 100000 in
theorem pk_51 : sOkQ pm_51 := ⟨by decide +kernel, Or.inl ⟨rfl, sAt_ok (pos := 1796) (by decide +kernel)⟩, sAt_ok (pos := 112) (by decide +kernel), by decide +kernel⟩
set_option maxRecDepth 100000 in
theorem pk_52 : sOkQ pm_52 := ⟨by decide +kernel, Or.inl ⟨rfl, sAt_ok (pos := 1813) (by decide +kernel)⟩, sAt_ok (pos := 112) (by decide +kernel), by decide +kernel⟩
set_option maxRecDepth 100000 in
theorem pk_53 : sOkQ pm_53 := ⟨by decide +kernel, Or.inl ⟨rfl, sAt_ok (pos := 1826) (by decide +kernel)⟩, sAt_ok (pos := 112) (by decide +kernel), by decide +kernel⟩
set_option maxRecDepth 100000 in
theorem pk_54 : sOkQ pm_54 := ⟨by decide +kernel, Or.inl ⟨rfl, sAt_ok (pos := 1846) (by decide +kernel)⟩, sAt_ok (pos := 112) (by decide +kernel), by decide +kernel⟩
set_option maxRecDepth 100000 in
theorem pk_55 : sOkQ pm_55 := ⟨by decide +kernel, Or.inl ⟨rfl, sAt_ok (pos := 1833) (by decide +kernel)⟩, sAt_ok (pos := 112) (by decide +kernel), by decide +kernel⟩
set_option maxRecDepth 100000 in
theorem pk_56 : sOkQ pm_56 := ⟨by decide +kernel, Or.inl ⟨rfl, sAt_ok (pos := 1777) (by decide +kernel)⟩, sAt_ok (pos := 112) (by decide +kernel), by decide +kernel⟩
set_option maxRecDepth 100000 in
theorem pk_57 : sOkQ pm_57 := ⟨by decide +kernel, Or.inl ⟨rfl, sAt_ok (pos := 1781) (by decide +kernel)⟩, sAt_ok (pos := 112) (by decide +kernel), by decide +kernel⟩
set_option maxRecDepth 100000 in
theorem pk_58 : sOkQ pm_58 := ⟨by decide +kernel, Or.inl ⟨rfl, sAt_ok (pos := 1809) (by decide +kernel)⟩, sAt_ok (pos := 112) (by decide +kernel), by decide +kernel⟩
set_option maxRecDepth 100000 in
theorem pk_59 : sOkQ pm_59 := ⟨by decide +kernel, Or.inl ⟨rfl, sAt_ok (pos := 1906) (by decide +kernel)⟩, sAt_ok (pos := 112) (by decide +kernel), by decide +kernel⟩
set_option maxRecDepth 100000 in
theorem pk_60 : sOkQ pm_60 := ⟨by decide +kernel, Or.inl ⟨rfl, sAt_ok (pos := 1922) (by decide +kernel)⟩, sAt_ok (pos := 112) (by decide +kernel), by decide +kernel⟩
set_option maxRecDepth 100000 in
theorem pk_61 : sOkQ pm_61 := ⟨by decide +kernel, Or.inl ⟨rfl, sAt_ok (pos := 1862) (by decide +kernel)⟩, sAt_ok (pos := 112) (by decide +kernel), by decide +kernel⟩
set_option maxRecDepth 100000 in
theorem pk_62 : sOkQ pm_62 := ⟨by decide +kernel, Or.inl ⟨rfl, sAt_ok (pos := 1595) (by decide +kernel)⟩, sAt_ok (pos := 112) (by decide +kernel), by decide +kernel⟩
set_option maxRecDepth 100000 in
theorem pk_63 : sOkQ pm_63 := ⟨by decide +kernel, Or.inl ⟨rfl, sAt_ok (pos := 1858) (by decide +kernel)⟩, sAt_ok (pos := 112) (by decide +kernel), by decide +kernel⟩
set_option maxRecDepth 100000 in
theorem pk_64 : sOkQ pm_64 := ⟨by decide +kernel, Or.inl ⟨rfl, sAt_ok (pos := 1882) (by decide +kernel)⟩, sAt_ok (pos := 112) (by decide +kernel), by decide +kernel⟩
set_option maxRecDepth 100000 in
theorem pk_65 : sOkQ pm_65 := ⟨by decide +kernel, Or.inl ⟨rfl, sAt_ok (pos := 2000) (by decide +kernel)⟩, sAt_ok (pos := 112) (by decide +kernel), by decide +kernel⟩
set_option maxRecDepth 100000 in
theorem pk_66 : sOkQ pm_66 := ⟨by decide +kernel, Or.inl ⟨rfl, sAt_ok (pos := 1971) (by decide +kernel)⟩, sAt_ok (pos := 112) (by decide +kernel), by decide +kernel⟩
set_option maxRecDepth 100000 in
theorem pk_67 : sOkQ pm_67 := ⟨by decide +kernel, Or.inl ⟨rfl, sAt_ok (pos := 1822) (by decide +kernel)⟩, sAt_ok (pos := 112) (by decide +kernel), by decide +kernel⟩
set_option maxRecDepth 100000 in
theorem pk_68 : sOkQ pm_68 := ⟨by decide +kernel, Or.inl ⟨rfl, sAt_ok (pos := 1946) (by decide +kernel)⟩, sAt_ok (pos := 112) (by decide +kernel), by decide +kernel⟩
set_option maxRecDepth 100000 in
theorem pk_69 : sOkQ pm_69 := ⟨by decide +kernel, Or.inl ⟨rfl, sAt_ok (pos := 1899) (by decide +kernel)⟩, sAt_ok (pos := 112) (by decide +kernel), by decide +kernel⟩
set_option maxRecDepth 100000 in
theorem pk_70 : sOkQ pm_70 := ⟨by decide +kernel, Or.inl ⟨rfl, sAt_ok (pos := 1603) (by decide +kernel)⟩, sAt_ok (pos := 112) (by decide +kernel), by decide +kernel⟩
set_option maxRecDepth 100000 in
theorem pk_71 : sOkQ pm_71 := ⟨by decide +kernel, Or.inl ⟨rfl, sAt_ok (pos := 1722) (by decide +kernel)⟩, sAt_ok (pos := 112) (by decide +kernel), by decide +kernel⟩
set_option maxRecDepth 100000 in
theorem pk_72 : sOkQ pm_72 := ⟨by decide +kernel, Or.inl ⟨rfl, sAt_ok (pos := 1719) (by decide +kernel)⟩, sAt_ok (pos := 112) (by decide +kernel), by decide +kernel⟩
set_option maxRecDepth 100000 in
theorem pk_73 : sOkQ pm_73 := ⟨by decide +kernel, Or.inl ⟨rfl, sAt_ok (pos := 1734) (by decide +kernel)⟩, sAt_ok (pos := 112) (by decide +kernel), by decide +kernel⟩
set_option maxRecDepth 100000 in
theorem pk_74 : sOkQ pm_74 := ⟨by decide +kernel, Or.inl ⟨rfl, sAt_ok (pos := 1587) (by decide +kernel)⟩, sAt_ok (pos := 112) (by decide +kernel), by decide +kernel⟩
set_option maxRecDepth 100000 in
theorem pk_75 : sOkQ pm_75 := ⟨by decide +kernel, Or.inl ⟨rfl, sAt_ok (pos := 1850) (by decide +kernel)⟩, sAt_ok (pos := 112) (by decide +kernel), by decide +kernel⟩
set_option maxRecDepth 100000 in
theorem pk_76 : sOkQ pm_76 := ⟨by decide +kernel, Or.inl ⟨rfl, sAt_ok (pos := 1891) (by decide +kernel)⟩, sAt_ok (pos := 112) (by decide +kernel), by decide +kernel⟩
set_option maxRecDepth 100000 in
theorem pk_77 : sOkQ pm_77 := ⟨by decide +kernel, Or.inl ⟨rfl, sAt_ok (pos := 1895) (by decide +kernel)⟩, sAt_ok (pos := 112) (by decide +kernel), by decide +kernel⟩
set_option maxRecDepth 100000 in
theorem pk_78 : sOkQ pm_78 := ⟨by decide +kernel, Or.inl ⟨rfl, sAt_ok (pos := 1938) (by decide +kernel)⟩, sAt_ok (pos := 112) (by decide +kernel), by decide +kernel⟩
set_option maxRecDepth 100000 in
theorem pk_79 : sOkQ pm_79 := ⟨by decide +kernel, Or.inl ⟨rfl, sAt_ok (pos := 1951) (by decide +kernel)⟩, sAt_ok (pos := 112) (by decide +kernel), by decide +kernel⟩
set_option maxRecDepth 100000 in
theorem pk_80 : sOkQ pm_80 := ⟨by decide +kernel, Or.inl ⟨rfl, sAt_ok (pos := 1926) (by decide +kernel)⟩, sAt_ok (pos := 112) (by decide +kernel), by decide +kernel⟩
set_option maxRecDepth 100000 in
theorem pk_81 : sOkQ pm_81 := ⟨by decide +kernel, Or.inl ⟨rfl, sAt_ok (pos := 1979) (by decide +kernel)⟩, sAt_ok (pos := 112) (by decide +kernel), by decide +kernel⟩
set_option maxRecDepth 100000 in
theorem pk_82 : sOkQ pm_82 := ⟨by decide +kernel, Or.inl ⟨rfl, sAt_ok (pos := 1048) (by decide +kernel)⟩, sAt_ok (pos := 110) (by decide +kernel), by decide +kernel⟩
set_option maxRecDepth 100000 in
theorem pk_83 : sOkQ pm_83 := ⟨by decide +kernel, Or.inl ⟨rfl, sAt_ok (pos := 1340) (by decide +kernel)⟩, sAt_ok (pos := 110) (by decide +kernel), by decide +kernel⟩
set_option maxRecDepth 100000 in
theorem pk_84 : sOkQ pm_84 := ⟨by decide +kernel, Or.inl ⟨rfl, sAt_ok (pos := 420) (by decide +kernel)⟩, sAt_ok (pos := 110) (by decide +kernel), by decide +kernel⟩
set_option maxRecDepth 100000 in
theorem pk_85 : sOkQ pm_85 := ⟨by decide +kernel, Or.inl ⟨rfl, sAt_ok (pos := 612) (by decide +kernel)⟩, sAt_ok (pos := 110) (by decide +kernel), by decide +kernel⟩
set_option maxRecDepth 100000 in
theorem pk_86 : sOkQ pm_86 := ⟨by decide +kernel, Or.inl ⟨rfl, sAt_ok (pos := 608) (by decide +kernel)⟩, sAt_ok (pos := 110) (by decide +kernel), by decide +kernel⟩
set_option maxRecDepth 100000 in
theorem pk_87 : sOkQ pm_87 := ⟨by decide +kernel, Or.inl ⟨rfl, sAt_ok (pos := 529) (by decide +kernel)⟩, sAt_ok (pos := 110) (by decide +kernel), by decide +kernel⟩
set_option maxRecDepth 100000 in
theorem pk_88 : sOkQ pm_88 := ⟨by decide +kernel, Or.inl ⟨rfl, sAt_ok (pos := 767) (by decide +kernel)⟩, sAt_ok (pos := 103) (by decide +kernel), by decide +kernel⟩
set_option maxRecDepth 100000 in
theorem pk_89 : sOkQ pm_89 := ⟨by decide +kernel, Or.inl ⟨rfl, sAt_ok (pos := 1020) (by decide +kernel)⟩, sAt_ok (pos := 103) (by decide +kernel), by decide +kernel⟩
set_option maxRecDepth 100000 in
theorem pk_90 : sOkQ pm_90 := ⟨by decide +kernel, Or.inl ⟨rfl, sAt_ok (pos := 138) (by decide +kernel)⟩, sAt_ok (pos := 103) (by decide +kernel), by decide +kernel⟩
set_option maxRecDepth 100000 in
theorem pk_91 : sOkQ pm_91 := ⟨by decide +kernel, Or.inl ⟨rfl, sAt_ok (pos := 624) (by decide +kernel)⟩, sAt_ok (pos := 103) (by decide +kernel), by decide +kernel⟩
set_option maxRecDepth 100000 in
theorem pk_92 : sOkQ pm_92 := ⟨by decide +kernel, Or.inl ⟨rfl, sAt_ok (pos := 775) (by decide +kernel)⟩, sAt_ok (pos := 105) (by decide +kernel), by decide +kernel⟩
set_option maxRecDepth 100000 in
theorem pk_93 : sOkQ pm_93 := ⟨by decide +kernel, Or.inl ⟨rfl, sAt_ok (pos := 261) (by decide +kernel)⟩, sAt_ok (pos := 105) (by decide +kernel), by decide +kernel⟩
set_option maxRecDepth 100000 in
theorem pk_94 : sOkQ pm_94 := ⟨by decide +kernel, Or.inl ⟨rfl, sAt_ok (pos := 761) (by decide +kernel)⟩, sAt_ok (pos := 105) (by decide +kernel), by decide +kernel⟩
set_option maxRecDepth 100000 in
theorem pk_95 : sOkQ pm_95 := ⟨by decide +kernel, Or.inl ⟨rfl, sAt_ok (pos := 771) (by decide +kernel)⟩, sAt_ok (pos := 104) (by decide +kernel), by decide +kernel⟩
set_option maxRecDepth 100000 in
theorem pk_96 : sOkQ pm_96 := ⟨by decide +kernel, Or.inl ⟨rfl, sAt_ok (pos := 1025) (by decide +kernel)⟩, sAt_ok (pos := 104) (by decide +kernel), by decide +kernel⟩
set_option maxRecDepth 100000 in
theorem pk_97 : sOkQ pm_97 := ⟨by decide +kernel, Or.inl ⟨rfl, sAt_ok (pos := 144) (by decide +kernel)⟩, sAt_ok (pos := 104) (by decide +kernel), by decide +kernel⟩
set_option maxRecDepth 100000 in
theorem pk_98 : sOkQ pm_98 := ⟨by decide +kernel, Or.inl ⟨rfl, sAt_ok (pos := 677) (by decide +kernel)⟩, sAt_ok (pos := 109) (by decide +kernel), by decide +kernel⟩
set_option maxRecDepth 100000 in
theorem pk_99 : sOkQ pm_99 := ⟨by decide +kernel, Or.inl ⟨rfl, sAt_ok (pos := 379) (by decide +kernel)⟩, sAt_ok (pos := 109) (by decide +kernel), by decide +kernel⟩
set_option maxRecDepth 100000 in
theorem pk_100 : sOkQ pm_100 := ⟨by decide +kernel, Or.inl ⟨rfl, sAt_ok (pos := 593) (by decide +kernel)⟩, sAt_ok (pos := 107) (by decide +kernel), by decide +kernel⟩
set_option maxRecDepth 100000 in
theorem pk_101 : sOkQ pm_101 := ⟨by decide +kernel, Or.inl ⟨rfl, sAt_ok (pos := 305) (by decide +kernel)⟩, sAt_ok (pos := 107) (by decide +kernel), by decide +kernel⟩
set_option maxRecDepth 100000 in
theorem pk_102 : sOkQ pm_102 := ⟨by decide +kernel, Or.inl ⟨rfl, sAt_ok (pos := 1034) (by decide +kernel)⟩, sAt_ok (pos := 107) (by decide +kernel), by decide +kernel⟩
set_option maxRecDepth 100000 in
theorem pk_103 : sOkQ pm_103 := ⟨by decide +kernel, Or.inl ⟨rfl, sAt_ok (pos := 667) (by decide +kernel)⟩, sAt_ok (pos := 106) (by decide +kernel), by decide +kernel⟩
set_option maxRecDepth 100000 in
theorem pk_104 : sOkQ pm_104 := ⟨by decide +kernel, Or.inl ⟨rfl, sAt_ok (pos := 299) (by decide +kernel)⟩, sAt_ok (pos := 106) (by decide +kernel), by decide +kernel⟩
set_option maxRecDepth 100000 in
theorem pk_105 : sOkQ pm_105 := ⟨by decide +kernel, Or.inl ⟨rfl, sAt_ok (pos := 1030) (by decide +kernel)⟩, sAt_ok (pos := 106) (by decide +kernel), by decide +kernel⟩
set_option maxRecDepth 100000 in
theorem pk_106 : sOkQ pm_106 := ⟨by decide +kernel, Or.inl ⟨rfl, sAt_ok (pos := 517) (by decide +kernel)⟩, sAt_ok (pos := 106) (by decide +kernel), by decide +kernel⟩
set_option maxRecDepth 100000 in
theorem pk_107 : sOkQ pm_107 := ⟨by decide +kernel, Or.inl ⟨rfl, sAt_ok (pos := 1336) (by decide +kernel)⟩, sAt_ok (pos := 111) (by decide +kernel), by decide +kernel⟩
set_option maxRecDepth 100000 in
theorem pk_108 : sOkQ pm_108 := ⟨by decide +kernel, Or.inl ⟨rfl, sAt_ok (pos := 1344) (by decide +kernel)⟩, sAt_ok (pos := 111) (by decide +kernel), by decide +kernel⟩
set_option maxRecDepth 100000 in
theorem pk_109 : sOkQ pm_109 := ⟨by decide +kernel, Or.inl ⟨rfl, sAt_ok (pos := 1352) (by decide +kernel)⟩, sAt_ok (pos := 111) (by decide +kernel), by decide +kernel⟩
set_option maxRecDepth 100000 in
theorem pk_110 : sOkQ pm_110 := ⟨by decide +kernel, Or.inl ⟨rfl, sAt_ok (pos := 442) (by decide +kernel)⟩, sAt_ok (pos := 111) (by decide +kernel), by decide +kernel⟩
set_option maxRecDepth 100000 in
theorem pk_111 : sOkQ pm_111 := ⟨by decide +kernel, Or.inl ⟨rfl, sAt_ok (pos := 1364) (by decide +kernel)⟩, sAt_ok (pos := 111) (by decide +kernel), by decide +kernel⟩
set_option maxRecDepth 100000 in
theorem pk_112 : sOkQ pm_112 := ⟨by decide +kernel, Or.inl ⟨rfl, sAt_ok (pos := 1333) (by decide +kernel)⟩, sAt_ok (pos := 111) (by decide +kernel), by decide +kernel⟩
set_option maxRecDepth 100000 in
theorem pk_113 : sOkQ pm_113 := ⟨by decide +kernel, Or.inl ⟨rfl, sAt_ok (pos := 1329) (by decide +kernel)⟩, sAt_ok (pos := 111) (by decide +kernel), by decide +kernel⟩
set_option maxRecDepth 100000 in
theorem pk_114 : sOkQ pm_114 := ⟨by decide +kernel, Or.inl ⟨rfl, sAt_ok (pos := 1348) (by decide +kernel)⟩, sAt_ok (pos := 111) (by decide +kernel), by decide +kernel⟩
set_option maxRecDepth 100000 in
theorem pk_115 : sOkQ pm_115 := ⟨by decide +kernel, Or.inl ⟨rfl, sAt_ok (pos := 1075) (by decide +kernel)⟩, sAt_ok (pos := 102) (by decide +kernel), by decide +kernel⟩
set_option maxRecDepth 100000 in
theorem pk_116 : sOkQ pm_116 := ⟨by decide +kernel, Or.inl ⟨rfl, sAt_ok (pos := 1185) (by decide +kernel)⟩, sAt_ok (pos := 102) (by decide +kernel), by decide +kernel⟩
set_option maxRecDepth 100000 in
theorem pk_117 : sOkQ pm_117 := ⟨by decide +kernel, Or.inl ⟨rfl, sAt_ok (pos := 1140) (by decide +kernel)⟩, sAt_ok (pos := 102) (by decide +kernel), by decide +kernel⟩
set_option maxRecDepth 100000 in
theorem pk_118 : sOkQ pm_118 := ⟨by decide +kernel, Or.inl ⟨rfl, sAt_ok (pos := 596) (by decide +kernel)⟩, sAt_ok (pos := 102) (by decide +kernel), by decide +kernel⟩
set_option maxRecDepth 100000 in
theorem pk_119 : sOkQ pm_119 := ⟨by decide +kernel, Or.inl ⟨rfl, sAt_ok (pos := 1042) (by decide +kernel)⟩, sAt_ok (pos := 102) (by decide +kernel), by decide +kernel⟩
set_option maxRecDepth 100000 in
theorem pk_120 : sOkQ pm_120 := ⟨by decide +kernel, Or.inl ⟨rfl, sAt_ok (pos := 1192) (by decide +kernel)⟩, sAt_ok (pos := 102) (by decide +kernel), by decide +kernel⟩
set_option maxRecDepth 100000 in
theorem pk_121 : sOkQ pm_121 := ⟨by decide +kernel, Or.inl ⟨rfl, sAt_ok (pos := 584) (by decide +kernel)⟩, sAt_ok (pos := 102) (by decide +kernel), by decide +kernel⟩
set_option maxRecDepth 100000 in
theorem pk_122 : sOkQ pm_122 := ⟨by decide +kernel, Or.inl ⟨rfl, sAt_ok (pos := 1268) (by decide +kernel)⟩, sAt_ok (pos := 102) (by decide +kernel), by decide +kernel⟩
set_option maxRecDepth 100000 in
theorem pk_123 : sOkQ pm_123 := ⟨by decide +kernel, Or.inl ⟨rfl, sAt_ok (pos := 651) (by decide +kernel)⟩, sAt_ok (pos := 102) (by decide +kernel), by decide +kernel⟩
set_option maxRecDepth 100000 in
theorem pk_124 : sOkQ pm_124 := ⟨by decide +kernel, Or.inl ⟨rfl, sAt_ok (pos := 509) (by decide +kernel)⟩, sAt_ok (pos := 102) (by decide +kernel), by decide +kernel⟩
set_option maxRecDepth 100000 in
theorem pk_125 : sOkQ pm_125 := ⟨by decide +kernel, Or.inl ⟨rfl, sAt_ok (pos := 501) (by decide +kernel)⟩, sAt_ok (pos := 102) (by decide +kernel), by decide +kernel⟩
set_option maxRecDepth 100000 in
theorem pk_126 : sOkQ pm_126 := ⟨by decide +kernel, Or.inl ⟨rfl, sAt_ok (pos := 659) (by decide +kernel)⟩, sAt_ok (pos := 102) (by decide +kernel), by decide +kernel⟩
set_option maxRecDepth 100000 in
theorem pk_127 : sOkQ pm_127 := ⟨by decide +kernel, Or.inl ⟨rfl, sAt_ok (pos := 1325) (by decide +kernel)⟩, sAt_ok (pos := 102) (by decide +kernel), by decide +kernel⟩
set_option maxRecDepth 100000 in
theorem pk_128 : sOkQ pm_128 := ⟨by decide +kernel, Or.inl ⟨rfl, sAt_ok (pos := 1237) (by decide +kernel)⟩, sAt_ok (pos := 102) (by decide +kernel), by decide +kernel⟩
set_option maxRecDepth 100000 in
theorem pk_129 : sOkQ pm_129 := ⟨by decide +kernel, Or.inl ⟨rfl, sAt_ok (pos := 663) (by decide +kernel)⟩, sAt_ok (pos := 102) (by decide +kernel), by decide +kernel⟩
set_option maxRecDepth 100000 in
theorem pk_130 : sOkQ pm_130 := ⟨by decide +kernel, Or.inl ⟨rfl, sAt_ok (pos := 130) (by decide +kernel)⟩, sAt_ok (pos := 102) (by decide +kernel), by decide +kernel⟩
set_option maxRecDepth 100000 in
theorem pk_131 : sOkQ pm_131 := ⟨by decide +kernel, Or.inl ⟨rfl, sAt_ok (pos := 1152) (by decide +kernel)⟩, sAt_ok (pos := 102) (by decide +kernel), by decide +kernel⟩
set_option maxRecDepth 100000 in
theorem pk_132 : sOkQ pm_132 := ⟨by decide +kernel, Or.inl ⟨rfl, sAt_ok (pos := 1124) (by decide +kernel)⟩, sAt_ok (pos := 102) (by decide +kernel), by decide +kernel⟩
set_option maxRecDepth 100000 in
theorem pk_133 : sOkQ pm_133 := ⟨by decide +kernel, Or.inl ⟨rfl, sAt_ok (pos := 1089) (by decide +kernel)⟩, sAt_ok (pos := 102) (by decide +kernel), by decide +kernel⟩
set_option maxRecDepth 100000 in
theorem pk_134 : sOkQ pm_134 := ⟨by decide +kernel, Or.inl ⟨rfl, sAt_ok (pos := 1230) (by decide +kernel)⟩, sAt_ok (pos := 102) (by decide +kernel), by decide +kernel⟩
set_option maxRecDepth 100000 in
theorem pk_135 : sOkQ pm_135 := ⟨by decide +kernel, Or.inl ⟨rfl, sAt_ok (pos := 1244) (by decide +kernel)⟩, sAt_ok (pos := 102) (by decide +kernel), by decide +kernel⟩
set_option maxRecDepth 100000 in
theorem pk_136 : sOkQ pm_136 := ⟨by decide +kernel, Or.inl ⟨rfl, sAt_ok (pos := 1178) (by decide +kernel)⟩, sAt_ok (pos := 102) (by decide +kernel), by decide +kernel⟩
set_option maxRecDepth 100000 in
theorem pk_137 : sOkQ pm_137 := ⟨by decide +kernel, Or.inl ⟨rfl, sAt_ok (pos := 1079) (by decide +kernel)⟩, sAt_ok (pos := 102) (by decide +kernel), by decide +kernel⟩
set_option maxRecDepth 100000 in
theorem pk_138 : sOkQ pm_138 := ⟨by decide +kernel, Or.inl ⟨rfl, sAt_ok (pos := 1093) (by decide +kernel)⟩, sAt_ok (pos := 102) (by decide +kernel), by decide +kernel⟩
set_option maxRecDepth 100000 in
theorem pk_139 : sOkQ pm_139 := ⟨by decide +kernel, Or.inl ⟨rfl, sAt_ok (pos := 1110) (by decide +kernel)⟩, sAt_ok (pos := 102) (by decide +kernel), by decide +kernel⟩
set_option maxRecDepth 100000 in
theorem pk_140 : sOkQ pm_140 := ⟨by decide +kernel, Or.inl ⟨rfl, sAt_ok (pos := 691) (by decide +kernel)⟩, sAt_ok (pos := 102) (by decide +kernel), by decide +kernel⟩
set_option maxRecDepth 100000 in
theorem pk_141 : sOkQ pm_141 := ⟨by decide +kernel, Or.inl ⟨rfl, sAt_ok (pos := 1199) (by decide +kernel)⟩, sAt_ok (pos := 102) (by decide +kernel), by decide +kernel⟩
set_option maxRecDepth 100000 in
theorem pk_142 : sOkQ pm_142 := ⟨by decide +kernel, Or.inl ⟨rfl, sAt_ok (pos := 505) (by decide +kernel)⟩, sAt_ok (pos := 102) (by decide +kernel), by decide +kernel⟩
set_option maxRecDepth 100000 in
theorem pk_143 : sOkQ pm_143 := ⟨by decide +kernel, Or.inl ⟨rfl, sAt_ok (pos := 683) (by decide +kernel)⟩, sAt_ok (pos := 102) (by decide +kernel), by decide +kernel⟩
set_option maxRecDepth 100000 in
theorem pk_144 : sOkQ pm_144 := ⟨by decide +kernel, Or.inl ⟨rfl, sAt_ok (pos := 1272) (by decide +kernel)⟩, sAt_ok (pos := 102) (by decide +kernel), by decide +kernel⟩
set_option maxRecDepth 100000 in
theorem pk_145 : sOkQ pm_145 := ⟨by decide +kernel, Or.inl ⟨rfl, sAt_ok (pos := 1106) (by decide +kernel)⟩, sAt_ok (pos := 102) (by decide +kernel), by decide +kernel⟩
set_option maxRecDepth 100000 in
theorem pk_146 : sOkQ pm_146 := ⟨by decide +kernel, Or.inl ⟨rfl, sAt_ok (pos := 1283) (by decide +kernel)⟩, sAt_ok (pos := 102) (by decide +kernel), by decide +kernel⟩
set_option maxRecDepth 100000 in
theorem pk_147 : sOkQ pm_147 := ⟨by decide +kernel, Or.inl ⟨rfl, sAt_ok (pos := 1210) (by decide +kernel)⟩, sAt_ok (pos := 102) (by decide +kernel), by decide +kernel⟩
set_option maxRecDepth 100000 in
theorem pk_148 : sOkQ pm_148 := ⟨by decide +kernel, Or.inl ⟨rfl, sAt_ok (pos := 1161) (by decide +kernel)⟩, sAt_ok (pos := 102) (by decide +kernel), by decide +kernel⟩
set_option maxRecDepth 100000 in
theorem pk_149 : sOkQ pm_149 := ⟨by decide +kernel, Or.inl ⟨rfl, sAt_ok (pos := 513) (by decide +kernel)⟩, sAt_ok (pos := 102) (by decide +kernel), by decide +kernel⟩
set_option maxRecDepth 100000 in
theorem pk_150 : sOkQ pm_150 := ⟨by decide +kernel, Or.inl ⟨rfl, sAt_ok (pos := 628) (by decide +kernel)⟩, sAt_ok (pos := 102) (by decide +kernel), by decide +kernel⟩
set_option maxRecDepth 100000 in
theorem pk_151 : sOkQ pm_151 := ⟨by decide +kernel, Or.inl ⟨rfl, sAt_ok (pos := 1294) (by decide +kernel)⟩, sAt_ok (pos := 102) (by decide +kernel), by decide +kernel⟩
set_option maxRecDepth 100000 in
theorem pk_152 : sOkQ pm_152 := ⟨by decide +kernel, Or.inl ⟨rfl, sAt_ok (pos := 1257) (by decide +kernel)⟩, sAt_ok (pos := 102) (by decide +kernel), by decide +kernel⟩
set_option maxRecDepth 100000 in
theorem pk_153 : sOkQ pm_153 := ⟨by decide +kernel, Or.inl ⟨rfl, sAt_ok (pos := 1359) (by decide +kernel)⟩, sAt_ok (pos := 102) (by decide +kernel), by decide +kernel⟩
