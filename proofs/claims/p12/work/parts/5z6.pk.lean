/-! ===== the methods may be called ===== -/
set_option maxRecDepth 100000 in
theorem pk_1 : sOkQ pm_1 := ⟨by decide +kernel, Or.inr ⟨by decide +kernel, sAt_ok (pos := 1071) (by decide +kernel)⟩, sAt_ok (pos := 101) (by decide +kernel), by decide +kernel⟩
set_option maxRecDepth 100000 in
theorem pk_2 : sOkQ pm_2 := ⟨by decide +kernel, Or.inr ⟨by decide +kernel, sAt_ok (pos := 1181) (by decide +kernel)⟩, sAt_ok (pos := 101) (by decide +kernel), by decide +kernel⟩
set_option maxRecDepth 100000 in
theorem pk_3 : sOkQ pm_3 := ⟨by decide +kernel, Or.inr ⟨by decide +kernel, sAt_ok (pos := 1136) (by decide +kernel)⟩, sAt_ok (pos := 101) (by decide +kernel), by decide +kernel⟩
set_option maxRecDepth 100000 in
theorem pk_4 : sOkQ pm_4 := ⟨by decide +kernel, Or.inr ⟨by decide +kernel, sAt_ok (pos := 1037) (by decide +kernel)⟩, sAt_ok (pos := 101) (by decide +kernel), by decide +kernel⟩
set_option maxRecDepth 100000 in
theorem pk_5 : sOkQ pm_5 := ⟨by decide +kernel, Or.inr ⟨by decide +kernel, sAt_ok (pos := 1188) (by decide +kernel)⟩, sAt_ok (pos := 101) (by decide +kernel), by decide +kernel⟩
set_option maxRecDepth 100000 in
theorem pk_6 : sOkQ pm_6 := ⟨by decide +kernel, Or.inr ⟨by decide +kernel, sAt_ok (pos := 1264) (by decide +kernel)⟩, sAt_ok (pos := 101) (by decide +kernel), by decide +kernel⟩
set_option maxRecDepth 100000 in
theorem pk_7 : sOkQ pm_7 := ⟨by decide +kernel, Or.inr ⟨by decide +kernel, sAt_ok (pos := 1321) (by decide +kernel)⟩, sAt_ok (pos := 101) (by decide +kernel), by decide +kernel⟩
set_option maxRecDepth 100000 in
theorem pk_8 : sOkQ pm_8 := ⟨by decide +kernel, Or.inr ⟨by decide +kernel, sAt_ok (pos := 1233) (by decide +kernel)⟩, sAt_ok (pos := 101) (by decide +kernel), by decide +kernel⟩
set_option maxRecDepth 100000 in
theorem pk_9 : sOkQ pm_9 := ⟨by decide +kernel, Or.inr ⟨by decide +kernel, sAt_ok (pos := 1148) (by decide +kernel)⟩, sAt_ok (pos := 101) (by decide +kernel), by decide +kernel⟩
set_option maxRecDepth 100000 in
theorem pk_10 : sOkQ pm_10 := ⟨by decide +kernel, Or.inr ⟨by decide +kernel, sAt_ok (pos := 1120) (by decide +kernel)⟩, sAt_ok (pos := 101) (by decide +kernel), by decide +kernel⟩
set_option maxRecDepth 100000 in
theorem pk_11 : sOkQ pm_11 := ⟨by decide +kernel, Or.inr ⟨by decide +kernel, sAt_ok (pos := 1085) (by decide +kernel)⟩, sAt_ok (pos := 101) (by decide +kernel), by decide +kernel⟩
set_option maxRecDepth 100000 in
theorem pk_12 : sOkQ pm_12 := ⟨by decide +kernel, Or.inr ⟨by decide +kernel, sAt_ok (pos := 1226) (by decide +kernel)⟩, sAt_ok (pos := 101) (by decide +kernel), by decide +kernel⟩
set_option maxRecDepth 100000 in
theorem pk_13 : sOkQ pm_13 := ⟨by decide +kernel, Or.inr ⟨by decide +kernel, sAt_ok (pos := 1240) (by decide +kernel)⟩, sAt_ok (pos := 101) (by decide +kernel), by decide +kernel⟩
set_option maxRecDepth 100000 in
theorem pk_14 : sOkQ pm_14 := ⟨by decide +kernel, Or.inr ⟨by decide +kernel, sAt_ok (pos := 1174) (by decide +kernel)⟩, sAt_ok (pos := 101) (by decide +kernel), by decide +kernel⟩
set_option maxRecDepth 100000 in
theorem pk_15 : sOkQ pm_15 := ⟨by decide +kernel, Or.inr ⟨by decide +kernel, sAt_ok (pos := 686) (by decide +kernel)⟩, sAt_ok (pos := 101) (by decide +kernel), by decide +kernel⟩
set_option maxRecDepth 100000 in
theorem pk_16 : sOkQ pm_16 := ⟨by decide +kernel, Or.inr ⟨by decide +kernel, sAt_ok (pos := 1195) (by decide +kernel)⟩, sAt_ok (pos := 101) (by decide +kernel), by decide +kernel⟩
set_option maxRecDepth 100000 in
theorem pk_17 : sOkQ pm_17 := ⟨by decide +kernel, Or.inr ⟨by decide +kernel, sAt_ok (pos := 1102) (by decide +kernel)⟩, sAt_ok (pos := 101) (by decide +kernel), by decide +kernel⟩
set_option maxRecDepth 100000 in
theorem pk_18 : sOkQ pm_18 := ⟨by decide +kernel, Or.inr ⟨by decide +kernel, sAt_ok (pos := 1279) (by decide +kernel)⟩, sAt_ok (pos := 101) (by decide +kernel), by decide +kernel⟩
set_option maxRecDepth 100000 in
theorem pk_19 : sOkQ pm_19 := ⟨by decide +kernel, Or.inr ⟨by decide +kernel, sAt_ok (pos := 1206) (by decide +kernel)⟩, sAt_ok (pos := 101) (by decide +kernel), by decide +kernel⟩
set_option maxRecDepth 100000 in
theorem pk_20 : sOkQ pm_20 := ⟨by decide +kernel, Or.inr ⟨by decide +kernel, sAt_ok (pos := 1157) (by decide +kernel)⟩, sAt_ok (pos := 101) (by decide +kernel), by decide +kernel⟩
set_option maxRecDepth 100000 in
theorem pk_21 : sOkQ pm_21 := ⟨by decide +kernel, Or.inr ⟨by decide +kernel, sAt_ok (pos := 1290) (by decide +kernel)⟩, sAt_ok (pos := 101) (by decide +kernel), by decide +kernel⟩
set_option maxRecDepth 100000 in
theorem pk_22 : sOkQ pm_22 := ⟨by decide +kernel, Or.inr ⟨by decide +kernel, sAt_ok (pos := 1253) (by decide +kernel)⟩, sAt_ok (pos := 101) (by decide +kernel), by decide +kernel⟩
set_option maxRecDepth 100000 in
theorem pk_23 : sOkQ pm_23 := ⟨by decide +kernel, Or.inr ⟨by decide +kernel, sAt_ok (pos := 1355) (by decide +kernel)⟩, sAt_ok (pos := 101) (by decide +kernel), by decide +kernel⟩
set_option maxRecDepth 100000 in
theorem pk_24 : sOkQ pm_24 := ⟨by decide +kernel, Or.inl ⟨rfl, sAt_ok (pos := 672) (by decide +kernel)⟩, sAt_ok (pos := 108) (by decide +kernel), by decide +kernel⟩
set_option maxRecDepth 100000 in
theorem pk_25 : sOkQ pm_25 := ⟨by decide +kernel, Or.inl ⟨rfl, sAt_ok (pos := 359) (by decide +kernel)⟩, sAt_ok (pos := 108) (by decide +kernel), by decide +kernel⟩
set_option maxRecDepth 100000 in
theorem pk_26 : sOkQ pm_26 := ⟨by decide +kernel, Or.inl ⟨rfl, sAt_ok (pos := 1170) (by decide +kernel)⟩, sAt_ok (pos := 108) (by decide +kernel), by decide +kernel⟩
set_option maxRecDepth 100000 in
theorem pk_27 : sOkQ pm_27 := ⟨by decide +kernel, Or.inl ⟨rfl, sAt_ok (pos := 1984) (by decide +kernel)⟩, sAt_ok (pos := 112) (by decide +kernel), by decide +kernel⟩
set_option maxRecDepth 100000 in
theorem pk_28 : sOkQ pm_28 := ⟨by decide +kernel, Or.inl ⟨rfl, sAt_ok (pos := 1789) (by decide +kernel)⟩, sAt_ok (pos := 112) (by decide +kernel), by decide +kernel⟩
set_option maxRecDepth 100000 in
theorem pk_29 : sOkQ pm_29 := ⟨by decide +kernel, Or.inl ⟨rfl, sAt_ok (pos := 1705) (by decide +kernel)⟩, sAt_ok (pos := 112) (by decide +kernel), by decide +kernel⟩
set_option maxRecDepth 100000 in
theorem pk_30 : sOkQ pm_30 := ⟨by decide +kernel, Or.inl ⟨rfl, sAt_ok (pos := 1692) (by decide +kernel)⟩, sAt_ok (pos := 112) (by decide +kernel), by decide +kernel⟩
set_option maxRecDepth 100000 in
theorem pk_31 : sOkQ pm_31 := ⟨by decide +kernel, Or.inl ⟨rfl, sAt_ok (pos := 1996) (by decide +kernel)⟩, sAt_ok (pos := 112) (by decide +kernel), by decide +kernel⟩
set_option maxRecDepth 100000 in
theorem pk_32 : sOkQ pm_32 := ⟨by decide +kernel, Or.inl ⟨rfl, sAt_ok (pos := 1902) (by decide +kernel)⟩, sAt_ok (pos := 112) (by decide +kernel), by decide +kernel⟩
set_option maxRecDepth 100000 in
theorem pk_33 : sOkQ pm_33 := ⟨by decide +kernel, Or.inl ⟨rfl, sAt_ok (pos := 1870) (by decide +kernel)⟩, sAt_ok (pos := 112) (by decide +kernel), by decide +kernel⟩
set_option maxRecDepth 100000 in
theorem pk_34 : sOkQ pm_34 := ⟨by decide +kernel, Or.inl ⟨rfl, sAt_ok (pos := 1607) (by decide +kernel)⟩, sAt_ok (pos := 112) (by decide +kernel), by decide +kernel⟩
set_option maxRecDepth 100000 in
theorem pk_35 : sOkQ pm_35 := ⟨by decide +kernel, Or.inl ⟨rfl, sAt_ok (pos := 1967) (by decide +kernel)⟩, sAt_ok (pos := 112) (by decide +kernel), by decide +kernel⟩
set_option maxRecDepth 100000 in
theorem pk_36 : sOkQ pm_36 := ⟨by decide +kernel, Or.inl ⟨rfl, sAt_ok (pos := 1842) (by decide +kernel)⟩, sAt_ok (pos := 112) (by decide +kernel), by decide +kernel⟩
set_option maxRecDepth 100000 in
theorem pk_37 : sOkQ pm_37 := ⟨by decide +kernel, Or.inl ⟨rfl, sAt_ok (pos := 1730) (by decide +kernel)⟩, sAt_ok (pos := 112) (by decide +kernel), by decide +kernel⟩
set_option maxRecDepth 100000 in
theorem pk_38 : sOkQ pm_38 := ⟨by decide +kernel, Or.inl ⟨rfl, sAt_ok (pos := 1785) (by decide +kernel)⟩, sAt_ok (pos := 112) (by decide +kernel), by decide +kernel⟩
set_option maxRecDepth 100000 in
theorem pk_39 : sOkQ pm_39 := ⟨by decide +kernel, Or.inl ⟨rfl, sAt_ok (pos := 1878) (by decide +kernel)⟩, sAt_ok (pos := 112) (by decide +kernel), by decide +kernel⟩
set_option maxRecDepth 100000 in
theorem pk_40 : sOkQ pm_40 := ⟨by decide +kernel, Or.inl ⟨rfl, sAt_ok (pos := 1772) (by decide +kernel)⟩, sAt_ok (pos := 112) (by decide +kernel), by decide +kernel⟩
set_option maxRecDepth 100000 in
theorem pk_41 : sOkQ pm_41 := ⟨by decide +kernel, Or.inl ⟨rfl, sAt_ok (pos := 1914) (by decide +kernel)⟩, sAt_ok (pos := 112) (by decide +kernel), by decide +kernel⟩
set_option maxRecDepth 100000 in
theorem pk_42 : sOkQ pm_42 := ⟨by decide +kernel, Or.inl ⟨rfl, sAt_ok (pos := 1988) (by decide +kernel)⟩, sAt_ok (pos := 112) (by decide +kernel), by decide +kernel⟩
set_option maxRecDepth 100000 in
theorem pk_43 : sOkQ pm_43 := ⟨by decide +kernel, Or.inl ⟨rfl, sAt_ok (pos := 1930) (by decide +kernel)⟩, sAt_ok (pos := 112) (by decide +kernel), by decide +kernel⟩
set_option maxRecDepth 100000 in
theorem pk_44 : sOkQ pm_44 := ⟨by decide +kernel, Or.inl ⟨rfl, sAt_ok (pos := 1934) (by decide +kernel)⟩, sAt_ok (pos := 112) (by decide +kernel), by decide +kernel⟩
set_option maxRecDepth 100000 in
theorem pk_45 : sOkQ pm_45 := ⟨by decide +kernel, Or.inl ⟨rfl, sAt_ok (pos := 1599) (by decide +kernel)⟩, sAt_ok (pos := 112) (by decide +kernel), by decide +kernel⟩
set_option maxRecDepth 100000 in
theorem pk_46 : sOkQ pm_46 := ⟨by decide +kernel, Or.inl ⟨rfl, sAt_ok (pos := 1874) (by decide +kernel)⟩, sAt_ok (pos := 112) (by decide +kernel), by decide +kernel⟩
set_option maxRecDepth 100000 in
theorem pk_47 : sOkQ pm_47 := ⟨by decide +kernel, Or.inl ⟨rfl, sAt_ok (pos := 1942) (by decide +kernel)⟩, sAt_ok (pos := 112) (by decide +kernel), by decide +kernel⟩
set_option maxRecDepth 100000 in
theorem pk_48 : sOkQ pm_48 := ⟨by decide +kernel, Or.inl ⟨rfl, sAt_ok (pos := 1726) (by decide +kernel)⟩, sAt_ok (pos := 112) (by decide +kernel), by decide +kernel⟩
set_option maxRecDepth 100000 in
theorem pk_49 : sOkQ pm_49 := ⟨by decide +kernel, Or.inl ⟨rfl, sAt_ok (pos := 1591) (by decide +kernel)⟩, sAt_ok (pos := 112) (by decide +kernel), by decide +kernel⟩
set_option maxRecDepth 100000 in
theorem pk_50 : sOkQ pm_50 := ⟨by decide +kernel, Or.inl ⟨rfl, sAt_ok (pos := 1959) (by decide +kernel)⟩, sAt_ok (pos := 112) (by decide +kernel), by decide +kernel⟩
set_option maxRecDepth 100000 in
theorem pk_51 : sOkQ pm_51 := ⟨by decide +kernel, Or.inl ⟨rfl, sAt_ok (pos := 1975) (by decide +kernel)⟩, sAt_ok (pos := 112) (by decide +kernel), by decide +kernel⟩
set_option maxRecDepth 100000 in
theorem pk_52 : sOkQ pm_52 := ⟨by decide +kernel, Or.inl ⟨rfl, sAt_ok (pos := 1963) (by decide +kernel)⟩, sAt_ok (pos := 112) (by decide +kernel), by decide +kernel⟩
set_option maxRecDepth 100000 in
theorem pk_53 : sOkQ pm_53 := ⟨by decide +kernel, Or.inl ⟨rfl, sAt_ok (pos := 1918) (by decide +kernel)⟩, sAt_ok (pos := 112) (by decide +kernel), by decide +kernel⟩
set_option maxRecDepth 100000 in
theorem pk_54 : sOkQ pm_54 := ⟨by decide +kernel, Or.inl ⟨rfl, sAt_ok (pos := 1801) (by decide +kernel)⟩, sAt_ok (pos := 112) (by decide +kernel), by decide +kernel⟩
set_option maxRecDepth 100000 in
theorem pk_55 : sOkQ pm_55 := ⟨by decide +kernel, Or.inl ⟨rfl, sAt_ok (pos := 1749) (by decide +kernel)⟩, sAt_ok (pos := 112) (by decide +kernel), by decide +kernel⟩
set_option maxRecDepth 100000 in
theorem pk_56 : sOkQ pm_56 := ⟨by decide +kernel, Or.inl ⟨rfl, sAt_ok (pos := 1993) (by decide +kernel)⟩, sAt_ok (pos := 112) (by decide +kernel), by decide +kernel⟩
set_option maxRecDepth 100000 in
theorem pk_57 : sOkQ pm_57 := ⟨by decide +kernel, Or.inl ⟨rfl, sAt_ok (pos := 1380) (by decide +kernel)⟩, sAt_ok (pos := 112) (by decide +kernel), by decide +kernel⟩
set_option maxRecDepth 100000 in
theorem pk_58 : sOkQ pm_58 := ⟨by decide +kernel, Or.inl ⟨rfl, sAt_ok (pos := 1630) (by decide +kernel)⟩, sAt_ok (pos := 112) (by decide +kernel), by decide +kernel⟩
set_option maxRecDepth 100000 in
theorem pk_59 : sOkQ pm_59 := ⟨by decide +kernel, Or.inl ⟨rfl, sAt_ok (pos := 1793) (by decide +kernel)⟩, sAt_ok (pos := 112) (by decide +kernel), by decide +kernel⟩
set_option maxRecDepth 100000 in
theorem pk_60 : sOkQ pm_60 := ⟨by decide +kernel, Or.inl ⟨rfl, sAt_ok (pos := 1955) (by decide +kernel)⟩, sAt_ok (pos := 112) (by decide +kernel), by decide +kernel⟩
set_option maxRecDepth 100000 in
theorem pk_61 : sOkQ pm_61 := ⟨by decide +kernel, Or.inl ⟨rfl, sAt_ok (pos := 1613) (by decide +kernel)⟩, sAt_ok (pos := 112) (by decide +kernel), by decide +kernel⟩
set_option maxRecDepth 100000 in
theorem pk_62 : sOkQ pm_62 := ⟨by decide +kernel, Or.inl ⟨rfl, sAt_ok (pos := 1796) (by decide +kernel)⟩, sAt_ok (pos := 112) (by decide +kernel), by decide +kernel⟩
set_option maxRecDepth 100000 in
theorem pk_63 : sOkQ pm_63 := ⟨by decide +kernel, Or.inl ⟨rfl, sAt_ok (pos := 1805) (by decide +kernel)⟩, sAt_ok (pos := 112) (by decide +kernel), by decide +kernel⟩
set_option maxRecDepth 100000 in
theorem pk_64 : sOkQ pm_64 := ⟨by decide +kernel, Or.inl ⟨rfl, sAt_ok (pos := 1610) (by decide +kernel)⟩, sAt_ok (pos := 112) (by decide +kernel), by decide +kernel⟩
set_option maxRecDepth 100000 in
theorem pk_65 : sOkQ pm_65 := ⟨by decide +kernel, Or.inl ⟨rfl, sAt_ok (pos := 1813) (by decide +kernel)⟩, sAt_ok (pos := 112) (by decide +kernel), by decide +kernel⟩
set_option maxRecDepth 100000 in
theorem pk_66 : sOkQ pm_66 := ⟨by decide +kernel, Or.inl ⟨rfl, sAt_ok (pos := 1618) (by decide +kernel)⟩, sAt_ok (pos := 112) (by decide +kernel), by decide +kernel⟩
set_option maxRecDepth 100000 in
theorem pk_67 : sOkQ pm_67 := ⟨by decide +kernel, Or.inl ⟨rfl, sAt_ok (pos := 1645) (by decide +kernel)⟩, sAt_ok (pos := 112) (by decide +kernel), by decide +kernel⟩
set_option maxRecDepth 100000 in
theorem pk_68 : sOkQ pm_68 := ⟨by decide +kernel, Or.inl ⟨rfl, sAt_ok (pos := 1745) (by decide +kernel)⟩, sAt_ok (pos := 112) (by decide +kernel), by decide +kernel⟩
set_option maxRecDepth 100000 in
theorem pk_69 : sOkQ pm_69 := ⟨by decide +kernel, Or.inl ⟨rfl, sAt_ok (pos := 1826) (by decide +kernel)⟩, sAt_ok (pos := 112) (by decide +kernel), by decide +kernel⟩
set_option maxRecDepth 100000 in
theorem pk_70 : sOkQ pm_70 := ⟨by decide +kernel, Or.inl ⟨rfl, sAt_ok (pos := 1757) (by decide +kernel)⟩, sAt_ok (pos := 112) (by decide +kernel), by decide +kernel⟩
set_option maxRecDepth 100000 in
theorem pk_71 : sOkQ pm_71 := ⟨by decide +kernel, Or.inl ⟨rfl, sAt_ok (pos := 1761) (by decide +kernel)⟩, sAt_ok (pos := 112) (by decide +kernel), by decide +kernel⟩
set_option maxRecDepth 100000 in
theorem pk_72 : sOkQ pm_72 := ⟨by decide +kernel, Or.inl ⟨rfl, sAt_ok (pos := 1854) (by decide +kernel)⟩, sAt_ok (pos := 112) (by decide +kernel), by decide +kernel⟩
set_option maxRecDepth 100000 in
theorem pk_73 : sOkQ pm_73 := ⟨by decide +kernel, Or.inl ⟨rfl, sAt_ok (pos := 1846) (by decide +kernel)⟩, sAt_ok (pos := 112) (by decide +kernel), by decide +kernel⟩
set_option maxRecDepth 100000 in
theorem pk_74 : sOkQ pm_74 := ⟨by decide +kernel, Or.inl ⟨rfl, sAt_ok (pos := 1833) (by decide +kernel)⟩, sAt_ok (pos := 112) (by decide +kernel), by decide +kernel⟩
set_option maxRecDepth 100000 in
theorem pk_75 : sOkQ pm_75 := ⟨by decide +kernel, Or.inl ⟨rfl, sAt_ok (pos := 1678) (by decide +kernel)⟩, sAt_ok (pos := 112) (by decide +kernel), by decide +kernel⟩
set_option maxRecDepth 100000 in
theorem pk_76 : sOkQ pm_76 := ⟨by decide +kernel, Or.inl ⟨rfl, sAt_ok (pos := 1777) (by decide +kernel)⟩, sAt_ok (pos := 112) (by decide +kernel), by decide +kernel⟩
set_option maxRecDepth 100000 in
theorem pk_77 : sOkQ pm_77 := ⟨by decide +kernel, Or.inl ⟨rfl, sAt_ok (pos := 1781) (by decide +kernel)⟩, sAt_ok (pos := 112) (by decide +kernel), by decide +kernel⟩
set_option maxRecDepth 100000 in
theorem pk_78 : sOkQ pm_78 := ⟨by decide +kernel, Or.inl ⟨rfl, sAt_ok (pos := 1809) (by decide +kernel)⟩, sAt_ok (pos := 112) (by decide +kernel), by decide +kernel⟩
set_option maxRecDepth 100000 in
theorem pk_79 : sOkQ pm_79 := ⟨by decide +kernel, Or.inl ⟨rfl, sAt_ok (pos := 1682) (by decide +kernel)⟩, sAt_ok (pos := 112) (by decide +kernel), by decide +kernel⟩
set_option maxRecDepth 100000 in
theorem pk_80 : sOkQ pm_80 := ⟨by decide +kernel, Or.inl ⟨rfl, sAt_ok (pos := 1906) (by decide +kernel)⟩, sAt_ok (pos := 112) (by decide +kernel), by decide +kernel⟩
set_option maxRecDepth 100000 in
theorem pk_81 : sOkQ pm_81 := ⟨by decide +kernel, Or.inl ⟨rfl, sAt_ok (pos := 1910) (by decide +kernel)⟩, sAt_ok (pos := 112) (by decide +kernel), by decide +kernel⟩
set_option maxRecDepth 100000 in
theorem pk_82 : sOkQ pm_82 := ⟨by decide +kernel, Or.inl ⟨rfl, sAt_ok (pos := 1922) (by decide +kernel)⟩, sAt_ok (pos := 112) (by decide +kernel), by decide +kernel⟩
set_option maxRecDepth 100000 in
theorem pk_83 : sOkQ pm_83 := ⟨by decide +kernel, Or.inl ⟨rfl, sAt_ok (pos := 1862) (by decide +kernel)⟩, sAt_ok (pos := 112) (by decide +kernel), by decide +kernel⟩
set_option maxRecDepth 100000 in
theorem pk_84 : sOkQ pm_84 := ⟨by decide +kernel, Or.inl ⟨rfl, sAt_ok (pos := 1674) (by decide +kernel)⟩, sAt_ok (pos := 112) (by decide +kernel), by decide +kernel⟩
set_option maxRecDepth 100000 in
theorem pk_85 : sOkQ pm_85 := ⟨by decide +kernel, Or.inl ⟨rfl, sAt_ok (pos := 1595) (by decide +kernel)⟩, sAt_ok (pos := 112) (by decide +kernel), by decide +kernel⟩
set_option maxRecDepth 100000 in
theorem pk_86 : sOkQ pm_86 := ⟨by decide +kernel, Or.inl ⟨rfl, sAt_ok (pos := 1829) (by decide +kernel)⟩, sAt_ok (pos := 112) (by decide +kernel), by decide +kernel⟩
set_option maxRecDepth 100000 in
theorem pk_87 : sOkQ pm_87 := ⟨by decide +kernel, Or.inl ⟨rfl, sAt_ok (pos := 1858) (by decide +kernel)⟩, sAt_ok (pos := 112) (by decide +kernel), by decide +kernel⟩
set_option maxRecDepth 100000 in
theorem pk_88 : sOkQ pm_88 := ⟨by decide +kernel, Or.inl ⟨rfl, sAt_ok (pos := 1882) (by decide +kernel)⟩, sAt_ok (pos := 112) (by decide +kernel), by decide +kernel⟩
set_option maxRecDepth 100000 in
theorem pk_89 : sOkQ pm_89 := ⟨by decide +kernel, Or.inl ⟨rfl, sAt_ok (pos := 1887) (by decide +kernel)⟩, sAt_ok (pos := 112) (by decide +kernel), by decide +kernel⟩
set_option maxRecDepth 100000 in
theorem pk_90 : sOkQ pm_90 := ⟨by decide +kernel, Or.inl ⟨rfl, sAt_ok (pos := 1701) (by decide +kernel)⟩, sAt_ok (pos := 112) (by decide +kernel), by decide +kernel⟩
set_option maxRecDepth 100000 in
theorem pk_91 : sOkQ pm_91 := ⟨by decide +kernel, Or.inl ⟨rfl, sAt_ok (pos := 1649) (by decide +kernel)⟩, sAt_ok (pos := 112) (by decide +kernel), by decide +kernel⟩
set_option maxRecDepth 100000 in
theorem pk_92 : sOkQ pm_92 := ⟨by decide +kernel, Or.inl ⟨rfl, sAt_ok (pos := 1641) (by decide +kernel)⟩, sAt_ok (pos := 112) (by decide +kernel), by decide +kernel⟩
set_option maxRecDepth 100000 in
theorem pk_93 : sOkQ pm_93 := ⟨by decide +kernel, Or.inl ⟨rfl, sAt_ok (pos := 1622) (by decide +kernel)⟩, sAt_ok (pos := 112) (by decide +kernel), by decide +kernel⟩
set_option maxRecDepth 100000 in
theorem pk_94 : sOkQ pm_94 := ⟨by decide +kernel, Or.inl ⟨rfl, sAt_ok (pos := 1653) (by decide +kernel)⟩, sAt_ok (pos := 112) (by decide +kernel), by decide +kernel⟩
set_option maxRecDepth 100000 in
theorem pk_95 : sOkQ pm_95 := ⟨by decide +kernel, Or.inl ⟨rfl, sAt_ok (pos := 1670) (by decide +kernel)⟩, sAt_ok (pos := 112) (by decide +kernel), by decide +kernel⟩
set_option maxRecDepth 100000 in
theorem pk_96 : sOkQ pm_96 := ⟨by decide +kernel, Or.inl ⟨rfl, sAt_ok (pos := 1666) (by decide +kernel)⟩, sAt_ok (pos := 112) (by decide +kernel), by decide +kernel⟩
set_option maxRecDepth 100000 in
theorem pk_97 : sOkQ pm_97 := ⟨by decide +kernel, Or.inl ⟨rfl, sAt_ok (pos := 1662) (by decide +kernel)⟩, sAt_ok (pos := 112) (by decide +kernel), by decide +kernel⟩
set_option maxRecDepth 100000 in
theorem pk_98 : sOkQ pm_98 := ⟨by decide +kernel, Or.inl ⟨rfl, sAt_ok (pos := 1658) (by decide +kernel)⟩, sAt_ok (pos := 112) (by decide +kernel), by decide +kernel⟩
set_option maxRecDepth 100000 in
theorem pk_99 : sOkQ pm_99 := ⟨by decide +kernel, Or.inl ⟨rfl, sAt_ok (pos := 1768) (by decide +kernel)⟩, sAt_ok (pos := 112) (by decide +kernel), by decide +kernel⟩
set_option maxRecDepth 100000 in
theorem pk_100 : sOkQ pm_100 := ⟨by decide +kernel, Or.inl ⟨rfl, sAt_ok (pos := 1866) (by decide +kernel)⟩, sAt_ok (pos := 112) (by decide +kernel), by decide +kernel⟩
set_option maxRecDepth 100000 in
theorem pk_101 : sOkQ pm_101 := ⟨by decide +kernel, Or.inl ⟨rfl, sAt_ok (pos := 2000) (by decide +kernel)⟩, sAt_ok (pos := 112) (by decide +kernel), by decide +kernel⟩
set_option maxRecDepth 100000 in
theorem pk_102 : sOkQ pm_102 := ⟨by decide +kernel, Or.inl ⟨rfl, sAt_ok (pos := 1971) (by decide +kernel)⟩, sAt_ok (pos := 112) (by decide +kernel), by decide +kernel⟩
set_option maxRecDepth 100000 in
theorem pk_103 : sOkQ pm_103 := ⟨by decide +kernel, Or.inl ⟨rfl, sAt_ok (pos := 1688) (by decide +kernel)⟩, sAt_ok (pos := 112) (by decide +kernel), by decide +kernel⟩
set_option maxRecDepth 100000 in
theorem pk_104 : sOkQ pm_104 := ⟨by decide +kernel, Or.inl ⟨rfl, sAt_ok (pos := 1715) (by decide +kernel)⟩, sAt_ok (pos := 112) (by decide +kernel), by decide +kernel⟩
set_option maxRecDepth 100000 in
theorem pk_105 : sOkQ pm_105 := ⟨by decide +kernel, Or.inl ⟨rfl, sAt_ok (pos := 1697) (by decide +kernel)⟩, sAt_ok (pos := 112) (by decide +kernel), by decide +kernel⟩
set_option maxRecDepth 100000 in
theorem pk_106 : sOkQ pm_106 := ⟨by decide +kernel, Or.inl ⟨rfl, sAt_ok (pos := 1710) (by decide +kernel)⟩, sAt_ok (pos := 112) (by decide +kernel), by decide +kernel⟩
set_option maxRecDepth 100000 in
theorem pk_107 : sOkQ pm_107 := ⟨by decide +kernel, Or.inl ⟨rfl, sAt_ok (pos := 1822) (by decide +kernel)⟩, sAt_ok (pos := 112) (by decide +kernel), by decide +kernel⟩
set_option maxRecDepth 100000 in
theorem pk_108 : sOkQ pm_108 := ⟨by decide +kernel, Or.inl ⟨rfl, sAt_ok (pos := 1946) (by decide +kernel)⟩, sAt_ok (pos := 112) (by decide +kernel), by decide +kernel⟩
set_option maxRecDepth 100000 in
theorem pk_109 : sOkQ pm_109 := ⟨by decide +kernel, Or.inl ⟨rfl, sAt_ok (pos := 1899) (by decide +kernel)⟩, sAt_ok (pos := 112) (by decide +kernel), by decide +kernel⟩
set_option maxRecDepth 100000 in
theorem pk_110 : sOkQ pm_110 := ⟨by decide +kernel, Or.inl ⟨rfl, sAt_ok (pos := 1603) (by decide +kernel)⟩, sAt_ok (pos := 112) (by decide +kernel), by decide +kernel⟩
set_option maxRecDepth 100000 in
theorem pk_111 : sOkQ pm_111 := ⟨by decide +kernel, Or.inl ⟨rfl, sAt_ok (pos := 1722) (by decide +kernel)⟩, sAt_ok (pos := 112) (by decide +kernel), by decide +kernel⟩
set_option maxRecDepth 100000 in
theorem pk_112 : sOkQ pm_112 := ⟨by decide +kernel, Or.inl ⟨rfl, sAt_ok (pos := 1719) (by decide +kernel)⟩, sAt_ok (pos := 112) (by decide +kernel), by decide +kernel⟩
set_option maxRecDepth 100000 in
theorem pk_113 : sOkQ pm_113 := ⟨by decide +kernel, Or.inl ⟨rfl, sAt_ok (pos := 1734) (by decide +kernel)⟩, sAt_ok (pos := 112) (by decide +kernel), by decide +kernel⟩
set_option maxRecDepth 100000 in
theorem pk_114 : sOkQ pm_114 := ⟨by decide +kernel, Or.inl ⟨rfl, sAt_ok (pos := 1838) (by decide +kernel)⟩, sAt_ok (pos := 112) (by decide +kernel), by decide +kernel⟩
set_option maxRecDepth 100000 in
theorem pk_115 : sOkQ pm_115 := ⟨by decide +kernel, Or.inl ⟨rfl, sAt_ok (pos := 1742) (by decide +kernel)⟩, sAt_ok (pos := 112) (by decide +kernel), by decide +kernel⟩
set_option maxRecDepth 100000 in
theorem pk_116 : sOkQ pm_116 := ⟨by decide +kernel, Or.inl ⟨rfl, sAt_ok (pos := 1738) (by decide +kernel)⟩, sAt_ok (pos := 112) (by decide +kernel), by decide +kernel⟩
set_option maxRecDepth 100000 in
theorem pk_117 : sOkQ pm_117 := ⟨by decide +kernel, Or.inl ⟨rfl, sAt_ok (pos := 1753) (by decide +kernel)⟩, sAt_ok (pos := 112) (by decide +kernel), by decide +kernel⟩
set_option maxRecDepth 100000 in
theorem pk_118 : sOkQ pm_118 := ⟨by decide +kernel, Or.inl ⟨rfl, sAt_ok (pos := 1587) (by decide +kernel)⟩, sAt_ok (pos := 112) (by decide +kernel), by decide +kernel⟩
set_option maxRecDepth 100000 in
theorem pk_119 : sOkQ pm_119 := ⟨by decide +kernel, Or.inl ⟨rfl, sAt_ok (pos := 1818) (by decide +kernel)⟩, sAt_ok (pos := 112) (by decide +kernel), by decide +kernel⟩
set_option maxRecDepth 100000 in
theorem pk_120 : sOkQ pm_120 := ⟨by decide +kernel, Or.inl ⟨rfl, sAt_ok (pos := 1850) (by decide +kernel)⟩, sAt_ok (pos := 112) (by decide +kernel), by decide +kernel⟩
set_option maxRecDepth 100000 in
theorem pk_121 : sOkQ pm_121 := ⟨by decide +kernel, Or.inl ⟨rfl, sAt_ok (pos := 1891) (by decide +kernel)⟩, sAt_ok (pos := 112) (by decide +kernel), by decide +kernel⟩
set_option maxRecDepth 100000 in
theorem pk_122 : sOkQ pm_122 := ⟨by decide +kernel, Or.inl ⟨rfl, sAt_ok (pos := 1895) (by decide +kernel)⟩, sAt_ok (pos := 112) (by decide +kernel), by decide +kernel⟩
set_option maxRecDepth 100000 in
theorem pk_123 : sOkQ pm_123 := ⟨by decide +kernel, Or.inl ⟨rfl, sAt_ok (pos := 1765) (by decide +kernel)⟩, sAt_ok (pos := 112) (by decide +kernel), by decide +kernel⟩
set_option maxRecDepth 100000 in
theorem pk_124 : sOkQ pm_124 := ⟨by decide +kernel, Or.inl ⟨rfl, sAt_ok (pos := 1938) (by decide +kernel)⟩, sAt_ok (pos := 112) (by decide +kernel), by decide +kernel⟩
set_option maxRecDepth 100000 in
theorem pk_125 : sOkQ pm_125 := ⟨by decide +kernel, Or.inl ⟨rfl, sAt_ok (pos := 1626) (by decide +kernel)⟩, sAt_ok (pos := 112) (by decide +kernel), by decide +kernel⟩
set_option maxRecDepth 100000 in
theorem pk_126 : sOkQ pm_126 := ⟨by decide +kernel, Or.inl ⟨rfl, sAt_ok (pos := 1951) (by decide +kernel)⟩, sAt_ok (pos := 112) (by decide +kernel), by decide +kernel⟩
set_option maxRecDepth 100000 in
theorem pk_127 : sOkQ pm_127 := ⟨by decide +kernel, Or.inl ⟨rfl, sAt_ok (pos := 1926) (by decide +kernel)⟩, sAt_ok (pos := 112) (by decide +kernel), by decide +kernel⟩
set_option maxRecDepth 100000 in
theorem pk_128 : sOkQ pm_128 := ⟨by decide +kernel, Or.inl ⟨rfl, sAt_ok (pos := 1637) (by decide +kernel)⟩, sAt_ok (pos := 112) (by decide +kernel), by decide +kernel⟩
set_option maxRecDepth 100000 in
theorem pk_129 : sOkQ pm_129 := ⟨by decide +kernel, Or.inl ⟨rfl, sAt_ok (pos := 1979) (by decide +kernel)⟩, sAt_ok (pos := 112) (by decide +kernel), by decide +kernel⟩
set_option maxRecDepth 100000 in
theorem pk_130 : sOkQ pm_130 := ⟨by decide +kernel, Or.inl ⟨rfl, sAt_ok (pos := 540) (by decide +kernel)⟩, sAt_ok (pos := 110) (by decide +kernel), by decide +kernel⟩
set_option maxRecDepth 100000 in
theorem pk_131 : sOkQ pm_131 := ⟨by decide +kernel, Or.inl ⟨rfl, sAt_ok (pos := 1132) (by decide +kernel)⟩, sAt_ok (pos := 110) (by decide +kernel), by decide +kernel⟩
set_option maxRecDepth 100000 in
theorem pk_132 : sOkQ pm_132 := ⟨by decide +kernel, Or.inl ⟨rfl, sAt_ok (pos := 1048) (by decide +kernel)⟩, sAt_ok (pos := 110) (by decide +kernel), by decide +kernel⟩
set_option maxRecDepth 100000 in
theorem pk_133 : sOkQ pm_133 := ⟨by decide +kernel, Or.inl ⟨rfl, sAt_ok (pos := 620) (by decide +kernel)⟩, sAt_ok (pos := 110) (by decide +kernel), by decide +kernel⟩
set_option maxRecDepth 100000 in
theorem pk_134 : sOkQ pm_134 := ⟨by decide +kernel, Or.inl ⟨rfl, sAt_ok (pos := 544) (by decide +kernel)⟩, sAt_ok (pos := 110) (by decide +kernel), by decide +kernel⟩
set_option maxRecDepth 100000 in
theorem pk_135 : sOkQ pm_135 := ⟨by decide +kernel, Or.inl ⟨rfl, sAt_ok (pos := 1340) (by decide +kernel)⟩, sAt_ok (pos := 110) (by decide +kernel), by decide +kernel⟩
set_option maxRecDepth 100000 in
theorem pk_136 : sOkQ pm_136 := ⟨by decide +kernel, Or.inl ⟨rfl, sAt_ok (pos := 637) (by decide +kernel)⟩, sAt_ok (pos := 110) (by decide +kernel), by decide +kernel⟩
set_option maxRecDepth 100000 in
theorem pk_137 : sOkQ pm_137 := ⟨by decide +kernel, Or.inl ⟨rfl, sAt_ok (pos := 420) (by decide +kernel)⟩, sAt_ok (pos := 110) (by decide +kernel), by decide +kernel⟩
set_option maxRecDepth 100000 in
theorem pk_138 : sOkQ pm_138 := ⟨by decide +kernel, Or.inl ⟨rfl, sAt_ok (pos := 1052) (by decide +kernel)⟩, sAt_ok (pos := 110) (by decide +kernel), by decide +kernel⟩
set_option maxRecDepth 100000 in
theorem pk_139 : sOkQ pm_139 := ⟨by decide +kernel, Or.inl ⟨rfl, sAt_ok (pos := 641) (by decide +kernel)⟩, sAt_ok (pos := 110) (by decide +kernel), by decide +kernel⟩
set_option maxRecDepth 100000 in
theorem pk_140 : sOkQ pm_140 := ⟨by decide +kernel, Or.inl ⟨rfl, sAt_ok (pos := 1115) (by decide +kernel)⟩, sAt_ok (pos := 110) (by decide +kernel), by decide +kernel⟩
set_option maxRecDepth 100000 in
theorem pk_141 : sOkQ pm_141 := ⟨by decide +kernel, Or.inl ⟨rfl, sAt_ok (pos := 612) (by decide +kernel)⟩, sAt_ok (pos := 110) (by decide +kernel), by decide +kernel⟩
set_option maxRecDepth 100000 in
theorem pk_142 : sOkQ pm_142 := ⟨by decide +kernel, Or.inl ⟨rfl, sAt_ok (pos := 616) (by decide +kernel)⟩, sAt_ok (pos := 110) (by decide +kernel), by decide +kernel⟩
set_option maxRecDepth 100000 in
theorem pk_143 : sOkQ pm_143 := ⟨by decide +kernel, Or.inl ⟨rfl, sAt_ok (pos := 608) (by decide +kernel)⟩, sAt_ok (pos := 110) (by decide +kernel), by decide +kernel⟩
set_option maxRecDepth 100000 in
theorem pk_144 : sOkQ pm_144 := ⟨by decide +kernel, Or.inl ⟨rfl, sAt_ok (pos := 533) (by decide +kernel)⟩, sAt_ok (pos := 110) (by decide +kernel), by decide +kernel⟩
set_option maxRecDepth 100000 in
theorem pk_145 : sOkQ pm_145 := ⟨by decide +kernel, Or.inl ⟨rfl, sAt_ok (pos := 529) (by decide +kernel)⟩, sAt_ok (pos := 110) (by decide +kernel), by decide +kernel⟩
set_option maxRecDepth 100000 in
theorem pk_146 : sOkQ pm_146 := ⟨by decide +kernel, Or.inl ⟨rfl, sAt_ok (pos := 537) (by decide +kernel)⟩, sAt_ok (pos := 110) (by decide +kernel), by decide +kernel⟩
set_option maxRecDepth 100000 in
theorem pk_147 : sOkQ pm_147 := ⟨by decide +kernel, Or.inl ⟨rfl, sAt_ok (pos := 1145) (by decide +kernel)⟩, sAt_ok (pos := 110) (by decide +kernel), by decide +kernel⟩
set_option maxRecDepth 100000 in
theorem pk_148 : sOkQ pm_148 := ⟨by decide +kernel, Or.inl ⟨rfl, sAt_ok (pos := 552) (by decide +kernel)⟩, sAt_ok (pos := 110) (by decide +kernel), by decide +kernel⟩
set_option maxRecDepth 100000 in
theorem pk_149 : sOkQ pm_149 := ⟨by decide +kernel, Or.inl ⟨rfl, sAt_ok (pos := 560) (by decide +kernel)⟩, sAt_ok (pos := 110) (by decide +kernel), by decide +kernel⟩
set_option maxRecDepth 100000 in
theorem pk_150 : sOkQ pm_150 := ⟨by decide +kernel, Or.inl ⟨rfl, sAt_ok (pos := 1128) (by decide +kernel)⟩, sAt_ok (pos := 110) (by decide +kernel), by decide +kernel⟩
set_option maxRecDepth 100000 in
theorem pk_151 : sOkQ pm_151 := ⟨by decide +kernel, Or.inl ⟨rfl, sAt_ok (pos := 1099) (by decide +kernel)⟩, sAt_ok (pos := 110) (by decide +kernel), by decide +kernel⟩
set_option maxRecDepth 100000 in
theorem pk_152 : sOkQ pm_152 := ⟨by decide +kernel, Or.inl ⟨rfl, sAt_ok (pos := 568) (by decide +kernel)⟩, sAt_ok (pos := 110) (by decide +kernel), by decide +kernel⟩
set_option maxRecDepth 100000 in
theorem pk_153 : sOkQ pm_153 := ⟨by decide +kernel, Or.inl ⟨rfl, sAt_ok (pos := 767) (by decide +kernel)⟩, sAt_ok (pos := 103) (by decide +kernel), by decide +kernel⟩
set_option maxRecDepth 100000 in
theorem pk_154 : sOkQ pm_154 := ⟨by decide +kernel, Or.inl ⟨rfl, sAt_ok (pos := 1020) (by decide +kernel)⟩, sAt_ok (pos := 103) (by decide +kernel), by decide +kernel⟩
set_option maxRecDepth 100000 in
theorem pk_155 : sOkQ pm_155 := ⟨by decide +kernel, Or.inl ⟨rfl, sAt_ok (pos := 564) (by decide +kernel)⟩, sAt_ok (pos := 103) (by decide +kernel), by decide +kernel⟩
set_option maxRecDepth 100000 in
theorem pk_156 : sOkQ pm_156 := ⟨by decide +kernel, Or.inl ⟨rfl, sAt_ok (pos := 572) (by decide +kernel)⟩, sAt_ok (pos := 103) (by decide +kernel), by decide +kernel⟩
set_option maxRecDepth 100000 in
theorem pk_157 : sOkQ pm_157 := ⟨by decide +kernel, Or.inl ⟨rfl, sAt_ok (pos := 960) (by decide +kernel)⟩, sAt_ok (pos := 103) (by decide +kernel), by decide +kernel⟩
set_option maxRecDepth 100000 in
theorem pk_158 : sOkQ pm_158 := ⟨by decide +kernel, Or.inl ⟨rfl, sAt_ok (pos := 946) (by decide +kernel)⟩, sAt_ok (pos := 103) (by decide +kernel), by decide +kernel⟩
set_option maxRecDepth 100000 in
theorem pk_159 : sOkQ pm_159 := ⟨by decide +kernel, Or.inl ⟨rfl, sAt_ok (pos := 138) (by decide +kernel)⟩, sAt_ok (pos := 103) (by decide +kernel), by decide +kernel⟩
set_option maxRecDepth 100000 in
theorem pk_160 : sOkQ pm_160 := ⟨by decide +kernel, Or.inl ⟨rfl, sAt_ok (pos := 624) (by decide +kernel)⟩, sAt_ok (pos := 103) (by decide +kernel), by decide +kernel⟩
set_option maxRecDepth 100000 in
theorem pk_161 : sOkQ pm_161 := ⟨by decide +kernel, Or.inl ⟨rfl, sAt_ok (pos := 775) (by decide +kernel)⟩, sAt_ok (pos := 105) (by decide +kernel), by decide +kernel⟩
set_option maxRecDepth 100000 in
theorem pk_162 : sOkQ pm_162 := ⟨by decide +kernel, Or.inl ⟨rfl, sAt_ok (pos := 785) (by decide +kernel)⟩, sAt_ok (pos := 105) (by decide +kernel), by decide +kernel⟩
set_option maxRecDepth 100000 in
theorem pk_163 : sOkQ pm_163 := ⟨by decide +kernel, Or.inl ⟨rfl, sAt_ok (pos := 261) (by decide +kernel)⟩, sAt_ok (pos := 105) (by decide +kernel), by decide +kernel⟩
set_option maxRecDepth 100000 in
theorem pk_164 : sOkQ pm_164 := ⟨by decide +kernel, Or.inl ⟨rfl, sAt_ok (pos := 781) (by decide +kernel)⟩, sAt_ok (pos := 105) (by decide +kernel), by decide +kernel⟩
set_option maxRecDepth 100000 in
theorem pk_165 : sOkQ pm_165 := ⟨by decide +kernel, Or.inl ⟨rfl, sAt_ok (pos := 778) (by decide +kernel)⟩, sAt_ok (pos := 105) (by decide +kernel), by decide +kernel⟩
set_option maxRecDepth 100000 in
theorem pk_166 : sOkQ pm_166 := ⟨by decide +kernel, Or.inl ⟨rfl, sAt_ok (pos := 933) (by decide +kernel)⟩, sAt_ok (pos := 105) (by decide +kernel), by decide +kernel⟩
set_option maxRecDepth 100000 in
theorem pk_167 : sOkQ pm_167 := ⟨by decide +kernel, Or.inl ⟨rfl, sAt_ok (pos := 921) (by decide +kernel)⟩, sAt_ok (pos := 105) (by decide +kernel), by decide +kernel⟩
set_option maxRecDepth 100000 in
theorem pk_168 : sOkQ pm_168 := ⟨by decide +kernel, Or.inl ⟨rfl, sAt_ok (pos := 884) (by decide +kernel)⟩, sAt_ok (pos := 105) (by decide +kernel), by decide +kernel⟩
set_option maxRecDepth 100000 in
theorem pk_169 : sOkQ pm_169 := ⟨by decide +kernel, Or.inl ⟨rfl, sAt_ok (pos := 875) (by decide +kernel)⟩, sAt_ok (pos := 105) (by decide +kernel), by decide +kernel⟩
set_option maxRecDepth 100000 in
theorem pk_170 : sOkQ pm_170 := ⟨by decide +kernel, Or.inl ⟨rfl, sAt_ok (pos := 942) (by decide +kernel)⟩, sAt_ok (pos := 105) (by decide +kernel), by decide +kernel⟩
set_option maxRecDepth 100000 in
theorem pk_171 : sOkQ pm_171 := ⟨by decide +kernel, Or.inl ⟨rfl, sAt_ok (pos := 917) (by decide +kernel)⟩, sAt_ok (pos := 105) (by decide +kernel), by decide +kernel⟩
set_option maxRecDepth 100000 in
theorem pk_172 : sOkQ pm_172 := ⟨by decide +kernel, Or.inl ⟨rfl, sAt_ok (pos := 761) (by decide +kernel)⟩, sAt_ok (pos := 105) (by decide +kernel), by decide +kernel⟩
set_option maxRecDepth 100000 in
theorem pk_173 : sOkQ pm_173 := ⟨by decide +kernel, Or.inl ⟨rfl, sAt_ok (pos := 909) (by decide +kernel)⟩, sAt_ok (pos := 105) (by decide +kernel), by decide +kernel⟩
set_option maxRecDepth 100000 in
theorem pk_174 : sOkQ pm_174 := ⟨by decide +kernel, Or.inl ⟨rfl, sAt_ok (pos := 970) (by decide +kernel)⟩, sAt_ok (pos := 105) (by decide +kernel), by decide +kernel⟩
set_option maxRecDepth 100000 in
theorem pk_175 : sOkQ pm_175 := ⟨by decide +kernel, Or.inl ⟨rfl, sAt_ok (pos := 966) (by decide +kernel)⟩, sAt_ok (pos := 105) (by decide +kernel), by decide +kernel⟩
set_option maxRecDepth 100000 in
theorem pk_176 : sOkQ pm_176 := ⟨by decide +kernel, Or.inl ⟨rfl, sAt_ok (pos := 956) (by decide +kernel)⟩, sAt_ok (pos := 105) (by decide +kernel), by decide +kernel⟩
set_option maxRecDepth 100000 in
theorem pk_177 : sOkQ pm_177 := ⟨by decide +kernel, Or.inl ⟨rfl, sAt_ok (pos := 938) (by decide +kernel)⟩, sAt_ok (pos := 105) (by decide +kernel), by decide +kernel⟩
set_option maxRecDepth 100000 in
theorem pk_178 : sOkQ pm_178 := ⟨by decide +kernel, Or.inl ⟨rfl, sAt_ok (pos := 974) (by decide +kernel)⟩, sAt_ok (pos := 105) (by decide +kernel), by decide +kernel⟩
set_option maxRecDepth 100000 in
theorem pk_179 : sOkQ pm_179 := ⟨by decide +kernel, Or.inl ⟨rfl, sAt_ok (pos := 991) (by decide +kernel)⟩, sAt_ok (pos := 105) (by decide +kernel), by decide +kernel⟩
set_option maxRecDepth 100000 in
theorem pk_180 : sOkQ pm_180 := ⟨by decide +kernel, Or.inl ⟨rfl, sAt_ok (pos := 987) (by decide +kernel)⟩, sAt_ok (pos := 105) (by decide +kernel), by decide +kernel⟩
set_option maxRecDepth 100000 in
theorem pk_181 : sOkQ pm_181 := ⟨by decide +kernel, Or.inl ⟨rfl, sAt_ok (pos := 951) (by decide +kernel)⟩, sAt_ok (pos := 105) (by decide +kernel), by decide +kernel⟩
set_option maxRecDepth 100000 in
theorem pk_182 : sOkQ pm_182 := ⟨by decide +kernel, Or.inl ⟨rfl, sAt_ok (pos := 929) (by decide +kernel)⟩, sAt_ok (pos := 105) (by decide +kernel), by decide +kernel⟩
set_option maxRecDepth 100000 in
theorem pk_183 : sOkQ pm_183 := ⟨by decide +kernel, Or.inl ⟨rfl, sAt_ok (pos := 872) (by decide +kernel)⟩, sAt_ok (pos := 105) (by decide +kernel), by decide +kernel⟩
set_option maxRecDepth 100000 in
theorem pk_184 : sOkQ pm_184 := ⟨by decide +kernel, Or.inl ⟨rfl, sAt_ok (pos := 983) (by decide +kernel)⟩, sAt_ok (pos := 105) (by decide +kernel), by decide +kernel⟩
set_option maxRecDepth 100000 in
theorem pk_185 : sOkQ pm_185 := ⟨by decide +kernel, Or.inl ⟨rfl, sAt_ok (pos := 979) (by decide +kernel)⟩, sAt_ok (pos := 105) (by decide +kernel), by decide +kernel⟩
set_option maxRecDepth 100000 in
theorem pk_186 : sOkQ pm_186 := ⟨by decide +kernel, Or.inl ⟨rfl, sAt_ok (pos := 999) (by decide +kernel)⟩, sAt_ok (pos := 105) (by decide +kernel), by decide +kernel⟩
set_option maxRecDepth 100000 in
theorem pk_187 : sOkQ pm_187 := ⟨by decide +kernel, Or.inl ⟨rfl, sAt_ok (pos := 913) (by decide +kernel)⟩, sAt_ok (pos := 105) (by decide +kernel), by decide +kernel⟩
set_option maxRecDepth 100000 in
theorem pk_188 : sOkQ pm_188 := ⟨by decide +kernel, Or.inl ⟨rfl, sAt_ok (pos := 925) (by decide +kernel)⟩, sAt_ok (pos := 105) (by decide +kernel), by decide +kernel⟩
set_option maxRecDepth 100000 in
theorem pk_189 : sOkQ pm_189 := ⟨by decide +kernel, Or.inl ⟨rfl, sAt_ok (pos := 1002) (by decide +kernel)⟩, sAt_ok (pos := 105) (by decide +kernel), by decide +kernel⟩
set_option maxRecDepth 100000 in
theorem pk_190 : sOkQ pm_190 := ⟨by decide +kernel, Or.inl ⟨rfl, sAt_ok (pos := 995) (by decide +kernel)⟩, sAt_ok (pos := 104) (by decide +kernel), by decide +kernel⟩
set_option maxRecDepth 100000 in
theorem pk_191 : sOkQ pm_191 := ⟨by decide +kernel, Or.inl ⟨rfl, sAt_ok (pos := 771) (by decide +kernel)⟩, sAt_ok (pos := 104) (by decide +kernel), by decide +kernel⟩
set_option maxRecDepth 100000 in
theorem pk_192 : sOkQ pm_192 := ⟨by decide +kernel, Or.inl ⟨rfl, sAt_ok (pos := 1025) (by decide +kernel)⟩, sAt_ok (pos := 104) (by decide +kernel), by decide +kernel⟩
set_option maxRecDepth 100000 in
theorem pk_193 : sOkQ pm_193 := ⟨by decide +kernel, Or.inl ⟨rfl, sAt_ok (pos := 580) (by decide +kernel)⟩, sAt_ok (pos := 104) (by decide +kernel), by decide +kernel⟩
set_option maxRecDepth 100000 in
theorem pk_194 : sOkQ pm_194 := ⟨by decide +kernel, Or.inl ⟨rfl, sAt_ok (pos := 144) (by decide +kernel)⟩, sAt_ok (pos := 104) (by decide +kernel), by decide +kernel⟩
set_option maxRecDepth 100000 in
theorem pk_195 : sOkQ pm_195 := ⟨by decide +kernel, Or.inl ⟨rfl, sAt_ok (pos := 576) (by decide +kernel)⟩, sAt_ok (pos := 104) (by decide +kernel), by decide +kernel⟩
set_option maxRecDepth 100000 in
theorem pk_196 : sOkQ pm_196 := ⟨by decide +kernel, Or.inl ⟨rfl, sAt_ok (pos := 1298) (by decide +kernel)⟩, sAt_ok (pos := 109) (by decide +kernel), by decide +kernel⟩
set_option maxRecDepth 100000 in
theorem pk_197 : sOkQ pm_197 := ⟨by decide +kernel, Or.inl ⟨rfl, sAt_ok (pos := 677) (by decide +kernel)⟩, sAt_ok (pos := 109) (by decide +kernel), by decide +kernel⟩
set_option maxRecDepth 100000 in
theorem pk_198 : sOkQ pm_198 := ⟨by decide +kernel, Or.inl ⟨rfl, sAt_ok (pos := 379) (by decide +kernel)⟩, sAt_ok (pos := 109) (by decide +kernel), by decide +kernel⟩
set_option maxRecDepth 100000 in
theorem pk_199 : sOkQ pm_199 := ⟨by decide +kernel, Or.inl ⟨rfl, sAt_ok (pos := 1287) (by decide +kernel)⟩, sAt_ok (pos := 109) (by decide +kernel), by decide +kernel⟩
set_option maxRecDepth 100000 in
theorem pk_200 : sOkQ pm_200 := ⟨by decide +kernel, Or.inl ⟨rfl, sAt_ok (pos := 1203) (by decide +kernel)⟩, sAt_ok (pos := 107) (by decide +kernel), by decide +kernel⟩
set_option maxRecDepth 100000 in
theorem pk_201 : sOkQ pm_201 := ⟨by decide +kernel, Or.inl ⟨rfl, sAt_ok (pos := 593) (by decide +kernel)⟩, sAt_ok (pos := 107) (by decide +kernel), by decide +kernel⟩
set_option maxRecDepth 100000 in
theorem pk_202 : sOkQ pm_202 := ⟨by decide +kernel, Or.inl ⟨rfl, sAt_ok (pos := 521) (by decide +kernel)⟩, sAt_ok (pos := 107) (by decide +kernel), by decide +kernel⟩
set_option maxRecDepth 100000 in
theorem pk_203 : sOkQ pm_203 := ⟨by decide +kernel, Or.inl ⟨rfl, sAt_ok (pos := 525) (by decide +kernel)⟩, sAt_ok (pos := 107) (by decide +kernel), by decide +kernel⟩
set_option maxRecDepth 100000 in
theorem pk_204 : sOkQ pm_204 := ⟨by decide +kernel, Or.inl ⟨rfl, sAt_ok (pos := 305) (by decide +kernel)⟩, sAt_ok (pos := 107) (by decide +kernel), by decide +kernel⟩
set_option maxRecDepth 100000 in
theorem pk_205 : sOkQ pm_205 := ⟨by decide +kernel, Or.inl ⟨rfl, sAt_ok (pos := 548) (by decide +kernel)⟩, sAt_ok (pos := 107) (by decide +kernel), by decide +kernel⟩
set_option maxRecDepth 100000 in
theorem pk_206 : sOkQ pm_206 := ⟨by decide +kernel, Or.inl ⟨rfl, sAt_ok (pos := 556) (by decide +kernel)⟩, sAt_ok (pos := 107) (by decide +kernel), by decide +kernel⟩
set_option maxRecDepth 100000 in
theorem pk_207 : sOkQ pm_207 := ⟨by decide +kernel, Or.inl ⟨rfl, sAt_ok (pos := 1034) (by decide +kernel)⟩, sAt_ok (pos := 107) (by decide +kernel), by decide +kernel⟩
set_option maxRecDepth 100000 in
theorem pk_208 : sOkQ pm_208 := ⟨by decide +kernel, Or.inl ⟨rfl, sAt_ok (pos := 667) (by decide +kernel)⟩, sAt_ok (pos := 106) (by decide +kernel), by decide +kernel⟩
set_option maxRecDepth 100000 in
theorem pk_209 : sOkQ pm_209 := ⟨by decide +kernel, Or.inl ⟨rfl, sAt_ok (pos := 299) (by decide +kernel)⟩, sAt_ok (pos := 106) (by decide +kernel), by decide +kernel⟩
set_option maxRecDepth 100000 in
theorem pk_210 : sOkQ pm_210 := ⟨by decide +kernel, Or.inl ⟨rfl, sAt_ok (pos := 1016) (by decide +kernel)⟩, sAt_ok (pos := 106) (by decide +kernel), by decide +kernel⟩
set_option maxRecDepth 100000 in
theorem pk_211 : sOkQ pm_211 := ⟨by decide +kernel, Or.inl ⟨rfl, sAt_ok (pos := 1030) (by decide +kernel)⟩, sAt_ok (pos := 106) (by decide +kernel), by decide +kernel⟩
set_option maxRecDepth 100000 in
theorem pk_212 : sOkQ pm_212 := ⟨by decide +kernel, Or.inl ⟨rfl, sAt_ok (pos := 517) (by decide +kernel)⟩, sAt_ok (pos := 106) (by decide +kernel), by decide +kernel⟩
set_option maxRecDepth 100000 in
theorem pk_213 : sOkQ pm_213 := ⟨by decide +kernel, Or.inl ⟨rfl, sAt_ok (pos := 1311) (by decide +kernel)⟩, sAt_ok (pos := 111) (by decide +kernel), by decide +kernel⟩
set_option maxRecDepth 100000 in
theorem pk_214 : sOkQ pm_214 := ⟨by decide +kernel, Or.inl ⟨rfl, sAt_ok (pos := 1336) (by decide +kernel)⟩, sAt_ok (pos := 111) (by decide +kernel), by decide +kernel⟩
set_option maxRecDepth 100000 in
theorem pk_215 : sOkQ pm_215 := ⟨by decide +kernel, Or.inl ⟨rfl, sAt_ok (pos := 1220) (by decide +kernel)⟩, sAt_ok (pos := 111) (by decide +kernel), by decide +kernel⟩
set_option maxRecDepth 100000 in
theorem pk_216 : sOkQ pm_216 := ⟨by decide +kernel, Or.inl ⟨rfl, sAt_ok (pos := 1307) (by decide +kernel)⟩, sAt_ok (pos := 111) (by decide +kernel), by decide +kernel⟩
set_option maxRecDepth 100000 in
theorem pk_217 : sOkQ pm_217 := ⟨by decide +kernel, Or.inl ⟨rfl, sAt_ok (pos := 1344) (by decide +kernel)⟩, sAt_ok (pos := 111) (by decide +kernel), by decide +kernel⟩
set_option maxRecDepth 100000 in
theorem pk_218 : sOkQ pm_218 := ⟨by decide +kernel, Or.inl ⟨rfl, sAt_ok (pos := 1261) (by decide +kernel)⟩, sAt_ok (pos := 111) (by decide +kernel), by decide +kernel⟩
set_option maxRecDepth 100000 in
theorem pk_219 : sOkQ pm_219 := ⟨by decide +kernel, Or.inl ⟨rfl, sAt_ok (pos := 1318) (by decide +kernel)⟩, sAt_ok (pos := 111) (by decide +kernel), by decide +kernel⟩
set_option maxRecDepth 100000 in
theorem pk_220 : sOkQ pm_220 := ⟨by decide +kernel, Or.inl ⟨rfl, sAt_ok (pos := 1352) (by decide +kernel)⟩, sAt_ok (pos := 111) (by decide +kernel), by decide +kernel⟩
set_option maxRecDepth 100000 in
theorem pk_221 : sOkQ pm_221 := ⟨by decide +kernel, Or.inl ⟨rfl, sAt_ok (pos := 442) (by decide +kernel)⟩, sAt_ok (pos := 111) (by decide +kernel), by decide +kernel⟩
set_option maxRecDepth 100000 in
theorem pk_222 : sOkQ pm_222 := ⟨by decide +kernel, Or.inl ⟨rfl, sAt_ok (pos := 588) (by decide +kernel)⟩, sAt_ok (pos := 111) (by decide +kernel), by decide +kernel⟩
set_option maxRecDepth 100000 in
theorem pk_223 : sOkQ pm_223 := ⟨by decide +kernel, Or.inl ⟨rfl, sAt_ok (pos := 1372) (by decide +kernel)⟩, sAt_ok (pos := 111) (by decide +kernel), by decide +kernel⟩
set_option maxRecDepth 100000 in
theorem pk_224 : sOkQ pm_224 := ⟨by decide +kernel, Or.inl ⟨rfl, sAt_ok (pos := 1364) (by decide +kernel)⟩, sAt_ok (pos := 111) (by decide +kernel), by decide +kernel⟩
set_option maxRecDepth 100000 in
theorem pk_225 : sOkQ pm_225 := ⟨by decide +kernel, Or.inl ⟨rfl, sAt_ok (pos := 1333) (by decide +kernel)⟩, sAt_ok (pos := 111) (by decide +kernel), by decide +kernel⟩
set_option maxRecDepth 100000 in
theorem pk_226 : sOkQ pm_226 := ⟨by decide +kernel, Or.inl ⟨rfl, sAt_ok (pos := 1249) (by decide +kernel)⟩, sAt_ok (pos := 111) (by decide +kernel), by decide +kernel⟩
set_option maxRecDepth 100000 in
theorem pk_227 : sOkQ pm_227 := ⟨by decide +kernel, Or.inl ⟨rfl, sAt_ok (pos := 1367) (by decide +kernel)⟩, sAt_ok (pos := 111) (by decide +kernel), by decide +kernel⟩
set_option maxRecDepth 100000 in
theorem pk_228 : sOkQ pm_228 := ⟨by decide +kernel, Or.inl ⟨rfl, sAt_ok (pos := 1329) (by decide +kernel)⟩, sAt_ok (pos := 111) (by decide +kernel), by decide +kernel⟩
set_option maxRecDepth 100000 in
theorem pk_229 : sOkQ pm_229 := ⟨by decide +kernel, Or.inl ⟨rfl, sAt_ok (pos := 1348) (by decide +kernel)⟩, sAt_ok (pos := 111) (by decide +kernel), by decide +kernel⟩
set_option maxRecDepth 100000 in
theorem pk_230 : sOkQ pm_230 := ⟨by decide +kernel, Or.inl ⟨rfl, sAt_ok (pos := 1214) (by decide +kernel)⟩, sAt_ok (pos := 111) (by decide +kernel), by decide +kernel⟩
set_option maxRecDepth 100000 in
theorem pk_231 : sOkQ pm_231 := ⟨by decide +kernel, Or.inl ⟨rfl, sAt_ok (pos := 1303) (by decide +kernel)⟩, sAt_ok (pos := 111) (by decide +kernel), by decide +kernel⟩
set_option maxRecDepth 100000 in
theorem pk_232 : sOkQ pm_232 := ⟨by decide +kernel, Or.inl ⟨rfl, sAt_ok (pos := 1165) (by decide +kernel)⟩, sAt_ok (pos := 102) (by decide +kernel), by decide +kernel⟩
set_option maxRecDepth 100000 in
theorem pk_233 : sOkQ pm_233 := ⟨by decide +kernel, Or.inl ⟨rfl, sAt_ok (pos := 1075) (by decide +kernel)⟩, sAt_ok (pos := 102) (by decide +kernel), by decide +kernel⟩
set_option maxRecDepth 100000 in
theorem pk_234 : sOkQ pm_234 := ⟨by decide +kernel, Or.inl ⟨rfl, sAt_ok (pos := 1185) (by decide +kernel)⟩, sAt_ok (pos := 102) (by decide +kernel), by decide +kernel⟩
set_option maxRecDepth 100000 in
theorem pk_235 : sOkQ pm_235 := ⟨by decide +kernel, Or.inl ⟨rfl, sAt_ok (pos := 1140) (by decide +kernel)⟩, sAt_ok (pos := 102) (by decide +kernel), by decide +kernel⟩
set_option maxRecDepth 100000 in
theorem pk_236 : sOkQ pm_236 := ⟨by decide +kernel, Or.inl ⟨rfl, sAt_ok (pos := 596) (by decide +kernel)⟩, sAt_ok (pos := 102) (by decide +kernel), by decide +kernel⟩
set_option maxRecDepth 100000 in
theorem pk_237 : sOkQ pm_237 := ⟨by decide +kernel, Or.inl ⟨rfl, sAt_ok (pos := 1042) (by decide +kernel)⟩, sAt_ok (pos := 102) (by decide +kernel), by decide +kernel⟩
set_option maxRecDepth 100000 in
theorem pk_238 : sOkQ pm_238 := ⟨by decide +kernel, Or.inl ⟨rfl, sAt_ok (pos := 1192) (by decide +kernel)⟩, sAt_ok (pos := 102) (by decide +kernel), by decide +kernel⟩
set_option maxRecDepth 100000 in
theorem pk_239 : sOkQ pm_239 := ⟨by decide +kernel, Or.inl ⟨rfl, sAt_ok (pos := 584) (by decide +kernel)⟩, sAt_ok (pos := 102) (by decide +kernel), by decide +kernel⟩
set_option maxRecDepth 100000 in
theorem pk_240 : sOkQ pm_240 := ⟨by decide +kernel, Or.inl ⟨rfl, sAt_ok (pos := 1268) (by decide +kernel)⟩, sAt_ok (pos := 102) (by decide +kernel), by decide +kernel⟩
set_option maxRecDepth 100000 in
theorem pk_241 : sOkQ pm_241 := ⟨by decide +kernel, Or.inl ⟨rfl, sAt_ok (pos := 651) (by decide +kernel)⟩, sAt_ok (pos := 102) (by decide +kernel), by decide +kernel⟩
set_option maxRecDepth 100000 in
theorem pk_242 : sOkQ pm_242 := ⟨by decide +kernel, Or.inl ⟨rfl, sAt_ok (pos := 509) (by decide +kernel)⟩, sAt_ok (pos := 102) (by decide +kernel), by decide +kernel⟩
set_option maxRecDepth 100000 in
theorem pk_243 : sOkQ pm_243 := ⟨by decide +kernel, Or.inl ⟨rfl, sAt_ok (pos := 501) (by decide +kernel)⟩, sAt_ok (pos := 102) (by decide +kernel), by decide +kernel⟩
set_option maxRecDepth 100000 in
theorem pk_244 : sOkQ pm_244 := ⟨by decide +kernel, Or.inl ⟨rfl, sAt_ok (pos := 659) (by decide +kernel)⟩, sAt_ok (pos := 102) (by decide +kernel), by decide +kernel⟩
set_option maxRecDepth 100000 in
theorem pk_245 : sOkQ pm_245 := ⟨by decide +kernel, Or.inl ⟨rfl, sAt_ok (pos := 1325) (by decide +kernel)⟩, sAt_ok (pos := 102) (by decide +kernel), by decide +kernel⟩
set_option maxRecDepth 100000 in
theorem pk_246 : sOkQ pm_246 := ⟨by decide +kernel, Or.inl ⟨rfl, sAt_ok (pos := 1237) (by decide +kernel)⟩, sAt_ok (pos := 102) (by decide +kernel), by decide +kernel⟩
set_option maxRecDepth 100000 in
theorem pk_247 : sOkQ pm_247 := ⟨by decide +kernel, Or.inl ⟨rfl, sAt_ok (pos := 663) (by decide +kernel)⟩, sAt_ok (pos := 102) (by decide +kernel), by decide +kernel⟩
set_option maxRecDepth 100000 in
theorem pk_248 : sOkQ pm_248 := ⟨by decide +kernel, Or.inl ⟨rfl, sAt_ok (pos := 130) (by decide +kernel)⟩, sAt_ok (pos := 102) (by decide +kernel), by decide +kernel⟩
set_option maxRecDepth 100000 in
theorem pk_249 : sOkQ pm_249 := ⟨by decide +kernel, Or.inl ⟨rfl, sAt_ok (pos := 1152) (by decide +kernel)⟩, sAt_ok (pos := 102) (by decide +kernel), by decide +kernel⟩
set_option maxRecDepth 100000 in
theorem pk_250 : sOkQ pm_250 := ⟨by decide +kernel, Or.inl ⟨rfl, sAt_ok (pos := 1124) (by decide +kernel)⟩, sAt_ok (pos := 102) (by decide +kernel), by decide +kernel⟩
set_option maxRecDepth 100000 in
theorem pk_251 : sOkQ pm_251 := ⟨by decide +kernel, Or.inl ⟨rfl, sAt_ok (pos := 1089) (by decide +kernel)⟩, sAt_ok (pos := 102) (by decide +kernel), by decide +kernel⟩
set_option maxRecDepth 100000 in
theorem pk_252 : sOkQ pm_252 := ⟨by decide +kernel, Or.inl ⟨rfl, sAt_ok (pos := 1230) (by decide +kernel)⟩, sAt_ok (pos := 102) (by decide +kernel), by decide +kernel⟩
set_option maxRecDepth 100000 in
theorem pk_253 : sOkQ pm_253 := ⟨by decide +kernel, Or.inl ⟨rfl, sAt_ok (pos := 1244) (by decide +kernel)⟩, sAt_ok (pos := 102) (by decide +kernel), by decide +kernel⟩
set_option maxRecDepth 100000 in
theorem pk_254 : sOkQ pm_254 := ⟨by decide +kernel, Or.inl ⟨rfl, sAt_ok (pos := 1178) (by decide +kernel)⟩, sAt_ok (pos := 102) (by decide +kernel), by decide +kernel⟩
set_option maxRecDepth 100000 in
theorem pk_255 : sOkQ pm_255 := ⟨by decide +kernel, Or.inl ⟨rfl, sAt_ok (pos := 1079) (by decide +kernel)⟩, sAt_ok (pos := 102) (by decide +kernel), by decide +kernel⟩
set_option maxRecDepth 100000 in
theorem pk_256 : sOkQ pm_256 := ⟨by decide +kernel, Or.inl ⟨rfl, sAt_ok (pos := 1093) (by decide +kernel)⟩, sAt_ok (pos := 102) (by decide +kernel), by decide +kernel⟩
set_option maxRecDepth 100000 in
theorem pk_257 : sOkQ pm_257 := ⟨by decide +kernel, Or.inl ⟨rfl, sAt_ok (pos := 1110) (by decide +kernel)⟩, sAt_ok (pos := 102) (by decide +kernel), by decide +kernel⟩
set_option maxRecDepth 100000 in
theorem pk_258 : sOkQ pm_258 := ⟨by decide +kernel, Or.inl ⟨rfl, sAt_ok (pos := 691) (by decide +kernel)⟩, sAt_ok (pos := 102) (by decide +kernel), by decide +kernel⟩
set_option maxRecDepth 100000 in
theorem pk_259 : sOkQ pm_259 := ⟨by decide +kernel, Or.inl ⟨rfl, sAt_ok (pos := 1199) (by decide +kernel)⟩, sAt_ok (pos := 102) (by decide +kernel), by decide +kernel⟩
set_option maxRecDepth 100000 in
theorem pk_260 : sOkQ pm_260 := ⟨by decide +kernel, Or.inl ⟨rfl, sAt_ok (pos := 505) (by decide +kernel)⟩, sAt_ok (pos := 102) (by decide +kernel), by decide +kernel⟩
set_option maxRecDepth 100000 in
theorem pk_261 : sOkQ pm_261 := ⟨by decide +kernel, Or.inl ⟨rfl, sAt_ok (pos := 683) (by decide +kernel)⟩, sAt_ok (pos := 102) (by decide +kernel), by decide +kernel⟩
set_option maxRecDepth 100000 in
theorem pk_262 : sOkQ pm_262 := ⟨by decide +kernel, Or.inl ⟨rfl, sAt_ok (pos := 1272) (by decide +kernel)⟩, sAt_ok (pos := 102) (by decide +kernel), by decide +kernel⟩
set_option maxRecDepth 100000 in
theorem pk_263 : sOkQ pm_263 := ⟨by decide +kernel, Or.inl ⟨rfl, sAt_ok (pos := 1106) (by decide +kernel)⟩, sAt_ok (pos := 102) (by decide +kernel), by decide +kernel⟩
set_option maxRecDepth 100000 in
theorem pk_264 : sOkQ pm_264 := ⟨by decide +kernel, Or.inl ⟨rfl, sAt_ok (pos := 1283) (by decide +kernel)⟩, sAt_ok (pos := 102) (by decide +kernel), by decide +kernel⟩
set_option maxRecDepth 100000 in
theorem pk_265 : sOkQ pm_265 := ⟨by decide +kernel, Or.inl ⟨rfl, sAt_ok (pos := 1276) (by decide +kernel)⟩, sAt_ok (pos := 102) (by decide +kernel), by decide +kernel⟩
set_option maxRecDepth 100000 in
theorem pk_266 : sOkQ pm_266 := ⟨by decide +kernel, Or.inl ⟨rfl, sAt_ok (pos := 1210) (by decide +kernel)⟩, sAt_ok (pos := 102) (by decide +kernel), by decide +kernel⟩
set_option maxRecDepth 100000 in
theorem pk_267 : sOkQ pm_267 := ⟨by decide +kernel, Or.inl ⟨rfl, sAt_ok (pos := 1161) (by decide +kernel)⟩, sAt_ok (pos := 102) (by decide +kernel), by decide +kernel⟩
set_option maxRecDepth 100000 in
theorem pk_268 : sOkQ pm_268 := ⟨by decide +kernel, Or.inl ⟨rfl, sAt_ok (pos := 513) (by decide +kernel)⟩, sAt_ok (pos := 102) (by decide +kernel), by decide +kernel⟩
set_option maxRecDepth 100000 in
theorem pk_269 : sOkQ pm_269 := ⟨by decide +kernel, Or.inl ⟨rfl, sAt_ok (pos := 632) (by decide +kernel)⟩, sAt_ok (pos := 102) (by decide +kernel), by decide +kernel⟩
set_option maxRecDepth 100000 in
theorem pk_270 : sOkQ pm_270 := ⟨by decide +kernel, Or.inl ⟨rfl, sAt_ok (pos := 628) (by decide +kernel)⟩, sAt_ok (pos := 102) (by decide +kernel), by decide +kernel⟩
set_option maxRecDepth 100000 in
theorem pk_271 : sOkQ pm_271 := ⟨by decide +kernel, Or.inl ⟨rfl, sAt_ok (pos := 1294) (by decide +kernel)⟩, sAt_ok (pos := 102) (by decide +kernel), by decide +kernel⟩
set_option maxRecDepth 100000 in
theorem pk_272 : sOkQ pm_272 := ⟨by decide +kernel, Or.inl ⟨rfl, sAt_ok (pos := 1257) (by decide +kernel)⟩, sAt_ok (pos := 102) (by decide +kernel), by decide +kernel⟩
set_option maxRecDepth 100000 in
theorem pk_273 : sOkQ pm_273 := ⟨by decide +kernel, Or.inl ⟨rfl, sAt_ok (pos := 1359) (by decide +kernel)⟩, sAt_ok (pos := 102) (by decide +kernel), by decide +kernel⟩
set_option maxRecDepth 100000 in
theorem pk_274 : sOkQ pm_274 := ⟨by decide +kernel, Or.inl ⟨rfl, sAt_ok (pos := 804) (by decide +kernel)⟩, sAt_ok (pos := 118) (by decide +kernel), by decide +kernel⟩
set_option maxRecDepth 100000 in
theorem pk_275 : sOkQ pm_275 := ⟨by decide +kernel, Or.inl ⟨rfl, sAt_ok (pos := 889) (by decide +kernel)⟩, sAt_ok (pos := 118) (by decide +kernel), by decide +kernel⟩
set_option maxRecDepth 100000 in
theorem pk_276 : sOkQ pm_276 := ⟨by decide +kernel, Or.inl ⟨rfl, sAt_ok (pos := 808) (by decide +kernel)⟩, sAt_ok (pos := 118) (by decide +kernel), by decide +kernel⟩
set_option maxRecDepth 100000 in
theorem pk_277 : sOkQ pm_277 := ⟨by decide +kernel, Or.inl ⟨rfl, sAt_ok (pos := 798) (by decide +kernel)⟩, sAt_ok (pos := 118) (by decide +kernel), by decide +kernel⟩
set_option maxRecDepth 100000 in
theorem pk_278 : sOkQ pm_278 := ⟨by decide +kernel, Or.inl ⟨rfl, sAt_ok (pos := 790) (by decide +kernel)⟩, sAt_ok (pos := 118) (by decide +kernel), by decide +kernel⟩
set_option maxRecDepth 100000 in
theorem pk_279 : sOkQ pm_279 := ⟨by decide +kernel, Or.inl ⟨rfl, sAt_ok (pos := 794) (by decide +kernel)⟩, sAt_ok (pos := 118) (by decide +kernel), by decide +kernel⟩
set_option maxRecDepth 100000 in
theorem pk_280 : sOkQ pm_280 := ⟨by decide +kernel, Or.inl ⟨rfl, sAt_ok (pos := 895) (by decide +kernel)⟩, sAt_ok (pos := 118) (by decide +kernel), by decide +kernel⟩
set_option maxRecDepth 100000 in
theorem pk_281 : sOkQ pm_281 := ⟨by decide +kernel, Or.inl ⟨rfl, sAt_ok (pos := 892) (by decide +kernel)⟩, sAt_ok (pos := 119) (by decide +kernel), by decide +kernel⟩
set_option maxRecDepth 100000 in
theorem pk_282 : sOkQ pm_282 := ⟨by decide +kernel, Or.inl ⟨rfl, sAt_ok (pos := 814) (by decide +kernel)⟩, sAt_ok (pos := 119) (by decide +kernel), by decide +kernel⟩
set_option maxRecDepth 100000 in
theorem pk_283 : sOkQ pm_283 := ⟨by decide +kernel, Or.inl ⟨rfl, sAt_ok (pos := 811) (by decide +kernel)⟩, sAt_ok (pos := 119) (by decide +kernel), by decide +kernel⟩
set_option maxRecDepth 100000 in
theorem pk_284 : sOkQ pm_284 := ⟨by decide +kernel, Or.inl ⟨rfl, sAt_ok (pos := 819) (by decide +kernel)⟩, sAt_ok (pos := 119) (by decide +kernel), by decide +kernel⟩
set_option maxRecDepth 100000 in
theorem pk_285 : sOkQ pm_285 := ⟨by decide +kernel, Or.inl ⟨rfl, sAt_ok (pos := 898) (by decide +kernel)⟩, sAt_ok (pos := 121) (by decide +kernel), by decide +kernel⟩
set_option maxRecDepth 100000 in
theorem pk_286 : sOkQ pm_286 := ⟨by decide +kernel, Or.inl ⟨rfl, sAt_ok (pos := 644) (by decide +kernel)⟩, sAt_ok (pos := 125) (by decide +kernel), by decide +kernel⟩
