/-! ===== the program's table ===== -/
theorem fNil {P : Nat → sMd → Prop} {n : Nat} : ∀ (i : Nat) (M : sMd), ([] : List sMd)[i]? = some M → P (i + n) M := fun i M h => by simp at h
theorem fAll {P : Nat → sMd → Prop} {n : Nat} {a : sMd} {l : List sMd} (h : P n a) (t : ∀ (i : Nat) (M : sMd), l[i]? = some M → P (i + (n + 1)) M) : ∀ (i : Nat) (M : sMd), (a :: l)[i]? = some M → P (i + n) M
  | 0, M, e => by
    cases e
    rw [Nat.zero_add]
    exact h
  | i + 1, M, e => by
    have := t i M (by simpa using e)
    rwa [show i + 1 + n = i + (n + 1) by omega]
theorem pj_0 : mH pm_0 ≠ [] → (mY pm_0).cls = "WavingDesksLaw" := fun h => (h rfl).elim
theorem pj_1 : mH pm_1 ≠ [] → (mY pm_1).cls = "WavingDesksLaw" := fun _ => rfl
theorem pj_2 : mH pm_2 ≠ [] → (mY pm_2).cls = "WavingDesksLaw" := fun _ => rfl
theorem pj_3 : mH pm_3 ≠ [] → (mY pm_3).cls = "WavingDesksLaw" := fun _ => rfl
theorem pj_4 : mH pm_4 ≠ [] → (mY pm_4).cls = "WavingDesksLaw" := fun _ => rfl
theorem pj_5 : mH pm_5 ≠ [] → (mY pm_5).cls = "WavingDesksLaw" := fun _ => rfl
theorem pj_6 : mH pm_6 ≠ [] → (mY pm_6).cls = "WavingDesksLaw" := fun _ => rfl
theorem pj_7 : mH pm_7 ≠ [] → (mY pm_7).cls = "WavingDesksLaw" := fun _ => rfl
theorem pj_8 : mH pm_8 ≠ [] → (mY pm_8).cls = "WavingDesksLaw" := fun _ => rfl
theorem pj_9 : mH pm_9 ≠ [] → (mY pm_9).cls = "WavingDesksLaw" := fun _ => rfl
theorem pj_10 : mH pm_10 ≠ [] → (mY pm_10).cls = "WavingDesksLaw" := fun _ => rfl
theorem pj_11 : mH pm_11 ≠ [] → (mY pm_11).cls = "WavingDesksLaw" := fun _ => rfl
theorem pj_12 : mH pm_12 ≠ [] → (mY pm_12).cls = "WavingDesksLaw" := fun _ => rfl
theorem pj_13 : mH pm_13 ≠ [] → (mY pm_13).cls = "WavingDesksLaw" := fun _ => rfl
theorem pj_14 : mH pm_14 ≠ [] → (mY pm_14).cls = "WavingDesksLaw" := fun _ => rfl
theorem pj_15 : mH pm_15 ≠ [] → (mY pm_15).cls = "WavingDesksLaw" := fun _ => rfl
theorem pj_16 : mH pm_16 ≠ [] → (mY pm_16).cls = "WavingDesksLaw" := fun _ => rfl
theorem pj_17 : mH pm_17 ≠ [] → (mY pm_17).cls = "WavingDesksLaw" := fun _ => rfl
theorem pj_18 : mH pm_18 ≠ [] → (mY pm_18).cls = "WavingDesksLaw" := fun _ => rfl
theorem pj_19 : mH pm_19 ≠ [] → (mY pm_19).cls = "WavingDesksLaw" := fun _ => rfl
theorem pj_20 : mH pm_20 ≠ [] → (mY pm_20).cls = "WavingDesksLaw" := fun _ => rfl
theorem pj_21 : mH pm_21 ≠ [] → (mY pm_21).cls = "WavingDesksLaw" := fun _ => rfl
theorem pj_22 : mH pm_22 ≠ [] → (mY pm_22).cls = "WavingDesksLaw" := fun _ => rfl
theorem pj_23 : mH pm_23 ≠ [] → (mY pm_23).cls = "WavingDesksLaw" := fun _ => rfl
theorem pj_24 : mH pm_24 ≠ [] → (mY pm_24).cls = "WavingDesksLaw" := fun h => (h rfl).elim
theorem pj_25 : mH pm_25 ≠ [] → (mY pm_25).cls = "WavingDesksLaw" := fun h => (h rfl).elim
theorem pj_26 : mH pm_26 ≠ [] → (mY pm_26).cls = "WavingDesksLaw" := fun h => (h rfl).elim
theorem pj_27 : mH pm_27 ≠ [] → (mY pm_27).cls = "WavingDesksLaw" := fun h => (h rfl).elim
theorem pj_28 : mH pm_28 ≠ [] → (mY pm_28).cls = "WavingDesksLaw" := fun h => (h rfl).elim
theorem pj_29 : mH pm_29 ≠ [] → (mY pm_29).cls = "WavingDesksLaw" := fun h => (h rfl).elim
theorem pj_30 : mH pm_30 ≠ [] → (mY pm_30).cls = "WavingDesksLaw" := fun h => (h rfl).elim
theorem pj_31 : mH pm_31 ≠ [] → (mY pm_31).cls = "WavingDesksLaw" := fun h => (h rfl).elim
theorem pj_32 : mH pm_32 ≠ [] → (mY pm_32).cls = "WavingDesksLaw" := fun h => (h rfl).elim
theorem pj_33 : mH pm_33 ≠ [] → (mY pm_33).cls = "WavingDesksLaw" := fun h => (h rfl).elim
theorem pj_34 : mH pm_34 ≠ [] → (mY pm_34).cls = "WavingDesksLaw" := fun h => (h rfl).elim
theorem pj_35 : mH pm_35 ≠ [] → (mY pm_35).cls = "WavingDesksLaw" := fun h => (h rfl).elim
theorem pj_36 : mH pm_36 ≠ [] → (mY pm_36).cls = "WavingDesksLaw" := fun h => (h rfl).elim
theorem pj_37 : mH pm_37 ≠ [] → (mY pm_37).cls = "WavingDesksLaw" := fun h => (h rfl).elim
theorem pj_38 : mH pm_38 ≠ [] → (mY pm_38).cls = "WavingDesksLaw" := fun h => (h rfl).elim
theorem pj_39 : mH pm_39 ≠ [] → (mY pm_39).cls = "WavingDesksLaw" := fun h => (h rfl).elim
theorem pj_40 : mH pm_40 ≠ [] → (mY pm_40).cls = "WavingDesksLaw" := fun h => (h rfl).elim
theorem pj_41 : mH pm_41 ≠ [] → (mY pm_41).cls = "WavingDesksLaw" := fun h => (h rfl).elim
theorem pj_42 : mH pm_42 ≠ [] → (mY pm_42).cls = "WavingDesksLaw" := fun h => (h rfl).elim
theorem pj_43 : mH pm_43 ≠ [] → (mY pm_43).cls = "WavingDesksLaw" := fun h => (h rfl).elim
theorem pj_44 : mH pm_44 ≠ [] → (mY pm_44).cls = "WavingDesksLaw" := fun h => (h rfl).elim
theorem pj_45 : mH pm_45 ≠ [] → (mY pm_45).cls = "WavingDesksLaw" := fun h => (h rfl).elim
theorem pj_46 : mH pm_46 ≠ [] → (mY pm_46).cls = "WavingDesksLaw" := fun h => (h rfl).elim
theorem pj_47 : mH pm_47 ≠ [] → (mY pm_47).cls = "WavingDesksLaw" := fun h => (h rfl).elim
theorem pj_48 : mH pm_48 ≠ [] → (mY pm_48).cls = "WavingDesksLaw" := fun h => (h rfl).elim
theorem pj_49 : mH pm_49 ≠ [] → (mY pm_49).cls = "WavingDesksLaw" := fun h => (h rfl).elim
theorem pj_50 : mH pm_50 ≠ [] → (mY pm_50).cls = "WavingDesksLaw" := fun h => (h rfl).elim
theorem pj_51 : mH pm_51 ≠ [] → (mY pm_51).cls = "WavingDesksLaw" := fun h => (h rfl).elim
theorem pj_52 : mH pm_52 ≠ [] → (mY pm_52).cls = "WavingDesksLaw" := fun h => (h rfl).elim
theorem pj_53 : mH pm_53 ≠ [] → (mY pm_53).cls = "WavingDesksLaw" := fun h => (h rfl).elim
theorem pj_54 : mH pm_54 ≠ [] → (mY pm_54).cls = "WavingDesksLaw" := fun h => (h rfl).elim
theorem pj_55 : mH pm_55 ≠ [] → (mY pm_55).cls = "WavingDesksLaw" := fun h => (h rfl).elim
theorem pj_56 : mH pm_56 ≠ [] → (mY pm_56).cls = "WavingDesksLaw" := fun h => (h rfl).elim
theorem pj_57 : mH pm_57 ≠ [] → (mY pm_57).cls = "WavingDesksLaw" := fun h => (h rfl).elim
theorem pj_58 : mH pm_58 ≠ [] → (mY pm_58).cls = "WavingDesksLaw" := fun h => (h rfl).elim
theorem pj_59 : mH pm_59 ≠ [] → (mY pm_59).cls = "WavingDesksLaw" := fun h => (h rfl).elim
theorem pj_60 : mH pm_60 ≠ [] → (mY pm_60).cls = "WavingDesksLaw" := fun h => (h rfl).elim
theorem pj_61 : mH pm_61 ≠ [] → (mY pm_61).cls = "WavingDesksLaw" := fun h => (h rfl).elim
theorem pj_62 : mH pm_62 ≠ [] → (mY pm_62).cls = "WavingDesksLaw" := fun h => (h rfl).elim
theorem pj_63 : mH pm_63 ≠ [] → (mY pm_63).cls = "WavingDesksLaw" := fun h => (h rfl).elim
theorem pj_64 : mH pm_64 ≠ [] → (mY pm_64).cls = "WavingDesksLaw" := fun h => (h rfl).elim
theorem pj_65 : mH pm_65 ≠ [] → (mY pm_65).cls = "WavingDesksLaw" := fun h => (h rfl).elim
theorem pj_66 : mH pm_66 ≠ [] → (mY pm_66).cls = "WavingDesksLaw" := fun h => (h rfl).elim
theorem pj_67 : mH pm_67 ≠ [] → (mY pm_67).cls = "WavingDesksLaw" := fun h => (h rfl).elim
theorem pj_68 : mH pm_68 ≠ [] → (mY pm_68).cls = "WavingDesksLaw" := fun h => (h rfl).elim
theorem pj_69 : mH pm_69 ≠ [] → (mY pm_69).cls = "WavingDesksLaw" := fun h => (h rfl).elim
theorem pj_70 : mH pm_70 ≠ [] → (mY pm_70).cls = "WavingDesksLaw" := fun h => (h rfl).elim
theorem pj_71 : mH pm_71 ≠ [] → (mY pm_71).cls = "WavingDesksLaw" := fun h => (h rfl).elim
theorem pj_72 : mH pm_72 ≠ [] → (mY pm_72).cls = "WavingDesksLaw" := fun h => (h rfl).elim
theorem pj_73 : mH pm_73 ≠ [] → (mY pm_73).cls = "WavingDesksLaw" := fun h => (h rfl).elim
theorem pj_74 : mH pm_74 ≠ [] → (mY pm_74).cls = "WavingDesksLaw" := fun h => (h rfl).elim
theorem pj_75 : mH pm_75 ≠ [] → (mY pm_75).cls = "WavingDesksLaw" := fun h => (h rfl).elim
theorem pj_76 : mH pm_76 ≠ [] → (mY pm_76).cls = "WavingDesksLaw" := fun h => (h rfl).elim
theorem pj_77 : mH pm_77 ≠ [] → (mY pm_77).cls = "WavingDesksLaw" := fun h => (h rfl).elim
theorem pj_78 : mH pm_78 ≠ [] → (mY pm_78).cls = "WavingDesksLaw" := fun h => (h rfl).elim
theorem pj_79 : mH pm_79 ≠ [] → (mY pm_79).cls = "WavingDesksLaw" := fun h => (h rfl).elim
theorem pj_80 : mH pm_80 ≠ [] → (mY pm_80).cls = "WavingDesksLaw" := fun h => (h rfl).elim
theorem pj_81 : mH pm_81 ≠ [] → (mY pm_81).cls = "WavingDesksLaw" := fun h => (h rfl).elim
theorem pj_82 : mH pm_82 ≠ [] → (mY pm_82).cls = "WavingDesksLaw" := fun h => (h rfl).elim
theorem pj_83 : mH pm_83 ≠ [] → (mY pm_83).cls = "WavingDesksLaw" := fun h => (h rfl).elim
theorem pj_84 : mH pm_84 ≠ [] → (mY pm_84).cls = "WavingDesksLaw" := fun h => (h rfl).elim
theorem pj_85 : mH pm_85 ≠ [] → (mY pm_85).cls = "WavingDesksLaw" := fun h => (h rfl).elim
theorem pj_86 : mH pm_86 ≠ [] → (mY pm_86).cls = "WavingDesksLaw" := fun h => (h rfl).elim
theorem pj_87 : mH pm_87 ≠ [] → (mY pm_87).cls = "WavingDesksLaw" := fun h => (h rfl).elim
theorem pj_88 : mH pm_88 ≠ [] → (mY pm_88).cls = "WavingDesksLaw" := fun h => (h rfl).elim
theorem pj_89 : mH pm_89 ≠ [] → (mY pm_89).cls = "WavingDesksLaw" := fun h => (h rfl).elim
theorem pj_90 : mH pm_90 ≠ [] → (mY pm_90).cls = "WavingDesksLaw" := fun h => (h rfl).elim
theorem pj_91 : mH pm_91 ≠ [] → (mY pm_91).cls = "WavingDesksLaw" := fun h => (h rfl).elim
theorem pj_92 : mH pm_92 ≠ [] → (mY pm_92).cls = "WavingDesksLaw" := fun h => (h rfl).elim
theorem pj_93 : mH pm_93 ≠ [] → (mY pm_93).cls = "WavingDesksLaw" := fun h => (h rfl).elim
theorem pj_94 : mH pm_94 ≠ [] → (mY pm_94).cls = "WavingDesksLaw" := fun h => (h rfl).elim
theorem pj_95 : mH pm_95 ≠ [] → (mY pm_95).cls = "WavingDesksLaw" := fun h => (h rfl).elim
theorem pj_96 : mH pm_96 ≠ [] → (mY pm_96).cls = "WavingDesksLaw" := fun h => (h rfl).elim
theorem pj_97 : mH pm_97 ≠ [] → (mY pm_97).cls = "WavingDesksLaw" := fun h => (h rfl).elim
theorem pj_98 : mH pm_98 ≠ [] → (mY pm_98).cls = "WavingDesksLaw" := fun h => (h rfl).elim
theorem pj_99 : mH pm_99 ≠ [] → (mY pm_99).cls = "WavingDesksLaw" := fun h => (h rfl).elim
theorem pj_100 : mH pm_100 ≠ [] → (mY pm_100).cls = "WavingDesksLaw" := fun h => (h rfl).elim
theorem pj_101 : mH pm_101 ≠ [] → (mY pm_101).cls = "WavingDesksLaw" := fun h => (h rfl).elim
theorem pj_102 : mH pm_102 ≠ [] → (mY pm_102).cls = "WavingDesksLaw" := fun h => (h rfl).elim
theorem pj_103 : mH pm_103 ≠ [] → (mY pm_103).cls = "WavingDesksLaw" := fun h => (h rfl).elim
theorem pj_104 : mH pm_104 ≠ [] → (mY pm_104).cls = "WavingDesksLaw" := fun h => (h rfl).elim
theorem pj_105 : mH pm_105 ≠ [] → (mY pm_105).cls = "WavingDesksLaw" := fun h => (h rfl).elim
theorem pj_106 : mH pm_106 ≠ [] → (mY pm_106).cls = "WavingDesksLaw" := fun h => (h rfl).elim
theorem pj_107 : mH pm_107 ≠ [] → (mY pm_107).cls = "WavingDesksLaw" := fun h => (h rfl).elim
theorem pj_108 : mH pm_108 ≠ [] → (mY pm_108).cls = "WavingDesksLaw" := fun h => (h rfl).elim
theorem pj_109 : mH pm_109 ≠ [] → (mY pm_109).cls = "WavingDesksLaw" := fun h => (h rfl).elim
theorem pj_110 : mH pm_110 ≠ [] → (mY pm_110).cls = "WavingDesksLaw" := fun h => (h rfl).elim
theorem pj_111 : mH pm_111 ≠ [] → (mY pm_111).cls = "WavingDesksLaw" := fun h => (h rfl).elim
theorem pj_112 : mH pm_112 ≠ [] → (mY pm_112).cls = "WavingDesksLaw" := fun h => (h rfl).elim
theorem pj_113 : mH pm_113 ≠ [] → (mY pm_113).cls = "WavingDesksLaw" := fun h => (h rfl).elim
theorem pj_114 : mH pm_114 ≠ [] → (mY pm_114).cls = "WavingDesksLaw" := fun h => (h rfl).elim
theorem pj_115 : mH pm_115 ≠ [] → (mY pm_115).cls = "WavingDesksLaw" := fun h => (h rfl).elim
theorem pj_116 : mH pm_116 ≠ [] → (mY pm_116).cls = "WavingDesksLaw" := fun h => (h rfl).elim
theorem pj_117 : mH pm_117 ≠ [] → (mY pm_117).cls = "WavingDesksLaw" := fun h => (h rfl).elim
theorem pj_118 : mH pm_118 ≠ [] → (mY pm_118).cls = "WavingDesksLaw" := fun h => (h rfl).elim
theorem pj_119 : mH pm_119 ≠ [] → (mY pm_119).cls = "WavingDesksLaw" := fun h => (h rfl).elim
theorem pj_120 : mH pm_120 ≠ [] → (mY pm_120).cls = "WavingDesksLaw" := fun h => (h rfl).elim
theorem pj_121 : mH pm_121 ≠ [] → (mY pm_121).cls = "WavingDesksLaw" := fun h => (h rfl).elim
theorem pj_122 : mH pm_122 ≠ [] → (mY pm_122).cls = "WavingDesksLaw" := fun h => (h rfl).elim
theorem pj_123 : mH pm_123 ≠ [] → (mY pm_123).cls = "WavingDesksLaw" := fun h => (h rfl).elim
theorem pj_124 : mH pm_124 ≠ [] → (mY pm_124).cls = "WavingDesksLaw" := fun h => (h rfl).elim
theorem pj_125 : mH pm_125 ≠ [] → (mY pm_125).cls = "WavingDesksLaw" := fun h => (h rfl).elim
theorem pj_126 : mH pm_126 ≠ [] → (mY pm_126).cls = "WavingDesksLaw" := fun h => (h rfl).elim
theorem pj_127 : mH pm_127 ≠ [] → (mY pm_127).cls = "WavingDesksLaw" := fun h => (h rfl).elim
theorem pj_128 : mH pm_128 ≠ [] → (mY pm_128).cls = "WavingDesksLaw" := fun h => (h rfl).elim
theorem pj_129 : mH pm_129 ≠ [] → (mY pm_129).cls = "WavingDesksLaw" := fun h => (h rfl).elim
theorem pj_130 : mH pm_130 ≠ [] → (mY pm_130).cls = "WavingDesksLaw" := fun h => (h rfl).elim
theorem pj_131 : mH pm_131 ≠ [] → (mY pm_131).cls = "WavingDesksLaw" := fun h => (h rfl).elim
theorem pj_132 : mH pm_132 ≠ [] → (mY pm_132).cls = "WavingDesksLaw" := fun h => (h rfl).elim
theorem pj_133 : mH pm_133 ≠ [] → (mY pm_133).cls = "WavingDesksLaw" := fun h => (h rfl).elim
theorem pj_134 : mH pm_134 ≠ [] → (mY pm_134).cls = "WavingDesksLaw" := fun h => (h rfl).elim
theorem pj_135 : mH pm_135 ≠ [] → (mY pm_135).cls = "WavingDesksLaw" := fun h => (h rfl).elim
theorem pj_136 : mH pm_136 ≠ [] → (mY pm_136).cls = "WavingDesksLaw" := fun h => (h rfl).elim
theorem pj_137 : mH pm_137 ≠ [] → (mY pm_137).cls = "WavingDesksLaw" := fun h => (h rfl).elim
theorem pj_138 : mH pm_138 ≠ [] → (mY pm_138).cls = "WavingDesksLaw" := fun h => (h rfl).elim
theorem pj_139 : mH pm_139 ≠ [] → (mY pm_139).cls = "WavingDesksLaw" := fun h => (h rfl).elim
theorem pj_140 : mH pm_140 ≠ [] → (mY pm_140).cls = "WavingDesksLaw" := fun h => (h rfl).elim
theorem pj_141 : mH pm_141 ≠ [] → (mY pm_141).cls = "WavingDesksLaw" := fun h => (h rfl).elim
theorem pj_142 : mH pm_142 ≠ [] → (mY pm_142).cls = "WavingDesksLaw" := fun h => (h rfl).elim
theorem pj_143 : mH pm_143 ≠ [] → (mY pm_143).cls = "WavingDesksLaw" := fun h => (h rfl).elim
theorem pj_144 : mH pm_144 ≠ [] → (mY pm_144).cls = "WavingDesksLaw" := fun h => (h rfl).elim
theorem pj_145 : mH pm_145 ≠ [] → (mY pm_145).cls = "WavingDesksLaw" := fun h => (h rfl).elim
theorem pj_146 : mH pm_146 ≠ [] → (mY pm_146).cls = "WavingDesksLaw" := fun h => (h rfl).elim
theorem pj_147 : mH pm_147 ≠ [] → (mY pm_147).cls = "WavingDesksLaw" := fun h => (h rfl).elim
theorem pj_148 : mH pm_148 ≠ [] → (mY pm_148).cls = "WavingDesksLaw" := fun h => (h rfl).elim
theorem pj_149 : mH pm_149 ≠ [] → (mY pm_149).cls = "WavingDesksLaw" := fun h => (h rfl).elim
theorem pj_150 : mH pm_150 ≠ [] → (mY pm_150).cls = "WavingDesksLaw" := fun h => (h rfl).elim
theorem pj_151 : mH pm_151 ≠ [] → (mY pm_151).cls = "WavingDesksLaw" := fun h => (h rfl).elim
theorem pj_152 : mH pm_152 ≠ [] → (mY pm_152).cls = "WavingDesksLaw" := fun h => (h rfl).elim
theorem pj_153 : mH pm_153 ≠ [] → (mY pm_153).cls = "WavingDesksLaw" := fun h => (h rfl).elim
set_option maxRecDepth 100000 in
theorem pOk1 : ∀ (i : Nat) (M : sMd), pPT[i]? = some M → sOkT pPT M = true := fun i M h => (fAll (P := fun _ M => sOkT pPT M = true) (n := 0) po_0 (fAll po_1 (fAll po_2 (fAll po_3 (fAll po_4 (fAll po_5 (fAll po_6 (fAll po_7 (fAll po_8 (fAll po_9 (fAll po_10 (fAll po_11 (fAll po_12 (fAll po_13 (fAll po_14 (fAll po_15 (fAll po_16 (fAll po_17 (fAll po_18 (fAll po_19 (fAll po_20 (fAll po_21 (fAll po_22 (fAll po_23 (fAll po_24 (fAll po_25 (fAll po_26 (fAll po_27 (fAll po_28 (fAll po_29 (fAll po_30 (fAll po_31 (fAll po_32 (fAll po_33 (fAll po_34 (fAll po_35 (fAll po_36 (fAll po_37 (fAll po_38 (fAll po_39 (fAll po_40 (fAll po_41 (fAll po_42 (fAll po_43 (fAll po_44 (fAll po_45 (fAll po_46 (fAll po_47 (fAll po_48 (fAll po_49 (fAll po_50 (fAll po_51 (fAll po_52 (fAll po_53 (fAll po_54 (fAll po_55 (fAll po_56 (fAll po_57 (fAll po_58 (fAll po_59 (fAll po_60 (fAll po_61 (fAll po_62 (fAll po_63 (fAll po_64 (fAll po_65 (fAll po_66 (fAll po_67 (fAll po_68 (fAll po_69 (fAll po_70 (fAll po_71 (fAll po_72 (fAll po_73 (fAll po_74 (fAll po_75 (fAll po_76 (fAll po_77 (fAll po_78 (fAll po_79 (fAll po_80 (fAll po_81 (fAll po_82 (fAll po_83 (fAll po_84 (fAll po_85 (fAll po_86 (fAll po_87 (fAll po_88 (fAll po_89 (fAll po_90 (fAll po_91 (fAll po_92 (fAll po_93 (fAll po_94 (fAll po_95 (fAll po_96 (fAll po_97 (fAll po_98 (fAll po_99 (fAll po_100 (fAll po_101 (fAll po_102 (fAll po_103 (fAll po_104 (fAll po_105 (fAll po_106 (fAll po_107 (fAll po_108 (fAll po_109 (fAll po_110 (fAll po_111 (fAll po_112 (fAll po_113 (fAll po_114 (fAll po_115 (fAll po_116 (fAll po_117 (fAll po_118 (fAll po_119 (fAll po_120 (fAll po_121 (fAll po_122 (fAll po_123 (fAll po_124 (fAll po_125 (fAll po_126 (fAll po_127 (fAll po_128 (fAll po_129 (fAll po_130 (fAll po_131 (fAll po_132 (fAll po_133 (fAll po_134 (fAll po_135 (fAll po_136 (fAll po_137 (fAll po_138 (fAll po_139 (fAll po_140 (fAll po_141 (fAll po_142 (fAll po_143 (fAll po_144 (fAll po_145 (fAll po_146 (fAll po_147 (fAll po_148 (fAll po_149 (fAll po_150 (fAll po_151 (fAll po_152 (fAll po_153 (fNil))))))))))))))))))))))))))))))))))))))))))))))))))))))))))))))))))))))))))))))))))))))))))))))))))))))))))))))))))))))))))))))))))))))))))))))))))))))))))) i M h
set_option maxRecDepth 100000 in
theorem pOk2 : ∀ (i : Nat) (M : sMd), pPT[i]? = some M → i ≠ 0 → sOkQ M := fun i M h => (fAll (P := fun i M => i ≠ 0 → sOkQ M) (n := 0) (fun q => (q rfl).elim) (fAll (fun _ => pk_1) (fAll (fun _ => pk_2) (fAll (fun _ => pk_3) (fAll (fun _ => pk_4) (fAll (fun _ => pk_5) (fAll (fun _ => pk_6) (fAll (fun _ => pk_7) (fAll (fun _ => pk_8) (fAll (fun _ => pk_9) (fAll (fun _ => pk_10) (fAll (fun _ => pk_11) (fAll (fun _ => pk_12) (fAll (fun _ => pk_13) (fAll (fun _ => pk_14) (fAll (fun _ => pk_15) (fAll (fun _ => pk_16) (fAll (fun _ => pk_17) (fAll (fun _ => pk_18) (fAll (fun _ => pk_19) (fAll (fun _ => pk_20) (fAll (fun _ => pk_21) (fAll (fun _ => pk_22) (fAll (fun _ => pk_23) (fAll (fun _ => pk_24) (fAll (fun _ => pk_25) (fAll (fun _ => pk_26) (fAll (fun _ => pk_27) (fAll (fun _ => pk_28) (fAll (fun _ => pk_29) (fAll (fun _ => pk_30) (fAll (fun _ => pk_31) (fAll (fun _ => pk_32) (fAll (fun _ => pk_33) (fAll (fun _ => pk_34) (fAll (fun _ => pk_35) (fAll (fun _ => pk_36) (fAll (fun _ => pk_37) (fAll (fun _ => pk_38) (fAll (fun _ => pk_39) (fAll (fun _ => pk_40) (fAll (fun _ => pk_41) (fAll (fun _ => pk_42) (fAll (fun _ => pk_43) (fAll (fun _ => pk_44) (fAll (fun _ => pk_45) (fAll (fun _ => pk_46) (fAll (fun _ => pk_47) (fAll (fun _ => pk_48) (fAll (fun _ => pk_49) (fAll (fun _ => pk_50) (fAll (fun _ => pk_51) (fAll (fun _ => pk_52) (fAll (fun _ => pk_53) (fAll (fun _ => pk_54) (fAll (fun _ => pk_55) (fAll (fun _ => pk_56) (fAll (fun _ => pk_57) (fAll (fun _ => pk_58) (fAll (fun _ => pk_59) (fAll (fun _ => pk_60) (fAll (fun _ => pk_61) (fAll (fun _ => pk_62) (fAll (fun _ => pk_63) (fAll (fun _ => pk_64) (fAll (fun _ => pk_65) (fAll (fun _ => pk_66) (fAll (fun _ => pk_67) (fAll (fun _ => pk_68) (fAll (fun _ => pk_69) (fAll (fun _ => pk_70) (fAll (fun _ => pk_71) (fAll (fun _ => pk_72) (fAll (fun _ => pk_73) (fAll (fun _ => pk_74) (fAll (fun _ => pk_75) (fAll (fun _ => pk_76) (fAll (fun _ => pk_77) (fAll (fun _ => pk_78) (fAll (fun _ => pk_79) (fAll (fun _ => pk_80) (fAll (fun _ => pk_81) (fAll (fun _ => pk_82) (fAll (fun _ => pk_83) (fAll (fun _ => pk_84) (fAll (fun _ => pk_85) (fAll (fun _ => pk_86) (fAll (fun _ => pk_87) (fAll (fun _ => pk_88) (fAll (fun _ => pk_89) (fAll (fun _ => pk_90) (fAll (fun _ => pk_91) (fAll (fun _ => pk_92) (fAll (fun _ => pk_93) (fAll (fun _ => pk_94) (fAll (fun _ => pk_95) (fAll (fun _ => pk_96) (fAll (fun _ => pk_97) (fAll (fun _ => pk_98) (fAll (fun _ => pk_99) (fAll (fun _ => pk_100) (fAll (fun _ => pk_101) (fAll (fun _ => pk_102) (fAll (fun _ => pk_103) (fAll (fun _ => pk_104) (fAll (fun _ => pk_105) (fAll (fun _ => pk_106) (fAll (fun _ => pk_107) (fAll (fun _ => pk_108) (fAll (fun _ => pk_109) (fAll (fun _ => pk_110) (fAll (fun _ => pk_111) (fAll (fun _ => pk_112) (fAll (fun _ => pk_113) (fAll (fun _ => pk_114) (fAll (fun _ => pk_115) (fAll (fun _ => pk_116) (fAll (fun _ => pk_117) (fAll (fun _ => pk_118) (fAll (fun _ => pk_119) (fAll (fun _ => pk_120) (fAll (fun _ => pk_121) (fAll (fun _ => pk_122) (fAll (fun _ => pk_123) (fAll (fun _ => pk_124) (fAll (fun _ => pk_125) (fAll (fun _ => pk_126) (fAll (fun _ => pk_127) (fAll (fun _ => pk_128) (fAll (fun _ => pk_129) (fAll (fun _ => pk_130) (fAll (fun _ => pk_131) (fAll (fun _ => pk_132) (fAll (fun _ => pk_133) (fAll (fun _ => pk_134) (fAll (fun _ => pk_135) (fAll (fun _ => pk_136) (fAll (fun _ => pk_137) (fAll (fun _ => pk_138) (fAll (fun _ => pk_139) (fAll (fun _ => pk_140) (fAll (fun _ => pk_141) (fAll (fun _ => pk_142) (fAll (fun _ => pk_143) (fAll (fun _ => pk_144) (fAll (fun _ => pk_145) (fAll (fun _ => pk_146) (fAll (fun _ => pk_147) (fAll (fun _ => pk_148) (fAll (fun _ => pk_149) (fAll (fun _ => pk_150) (fAll (fun _ => pk_151) (fAll (fun _ => pk_152) (fAll (fun _ => pk_153) (fNil))))))))))))))))))))))))))))))))))))))))))))))))))))))))))))))))))))))))))))))))))))))))))))))))))))))))))))))))))))))))))))))))))))))))))))))))))))))))))) i M h
set_option maxRecDepth 100000 in
theorem pOk3 : ∀ (i : Nat) (M : sMd), pPT[i]? = some M → mH M ≠ [] → (mY M).cls = "WavingDesksLaw" := fun i M h => (fAll (P := fun _ M => mH M ≠ [] → (mY M).cls = "WavingDesksLaw") (n := 0) pj_0 (fAll pj_1 (fAll pj_2 (fAll pj_3 (fAll pj_4 (fAll pj_5 (fAll pj_6 (fAll pj_7 (fAll pj_8 (fAll pj_9 (fAll pj_10 (fAll pj_11 (fAll pj_12 (fAll pj_13 (fAll pj_14 (fAll pj_15 (fAll pj_16 (fAll pj_17 (fAll pj_18 (fAll pj_19 (fAll pj_20 (fAll pj_21 (fAll pj_22 (fAll pj_23 (fAll pj_24 (fAll pj_25 (fAll pj_26 (fAll pj_27 (fAll pj_28 (fAll pj_29 (fAll pj_30 (fAll pj_31 (fAll pj_32 (fAll pj_33 (fAll pj_34 (fAll pj_35 (fAll pj_36 (fAll pj_37 (fAll pj_38 (fAll pj_39 (fAll pj_40 (fAll pj_41 (fAll pj_42 (fAll pj_43 (fAll pj_44 (fAll pj_45 (fAll pj_46 (fAll pj_47 (fAll pj_48 (fAll pj_49 (fAll pj_50 (fAll pj_51 (fAll pj_52 (fAll pj_53 (fAll pj_54 (fAll pj_55 (fAll pj_56 (fAll pj_57 (fAll pj_58 (fAll pj_59 (fAll pj_60 (fAll pj_61 (fAll pj_62 (fAll pj_63 (fAll pj_64 (fAll pj_65 (fAll pj_66 (fAll pj_67 (fAll pj_68 (fAll pj_69 (fAll pj_70 (fAll pj_71 (fAll pj_72 (fAll pj_73 (fAll pj_74 (fAll pj_75 (fAll pj_76 (fAll pj_77 (fAll pj_78 (fAll pj_79 (fAll pj_80 (fAll pj_81 (fAll pj_82 (fAll pj_83 (fAll pj_84 (fAll pj_85 (fAll pj_86 (fAll pj_87 (fAll pj_88 (fAll pj_89 (fAll pj_90 (fAll pj_91 (fAll pj_92 (fAll pj_93 (fAll pj_94 (fAll pj_95 (fAll pj_96 (fAll pj_97 (fAll pj_98 (fAll pj_99 (fAll pj_100 (fAll pj_101 (fAll pj_102 (fAll pj_103 (fAll pj_104 (fAll pj_105 (fAll pj_106 (fAll pj_107 (fAll pj_108 (fAll pj_109 (fAll pj_110 (fAll pj_111 (fAll pj_112 (fAll pj_113 (fAll pj_114 (fAll pj_115 (fAll pj_116 (fAll pj_117 (fAll pj_118 (fAll pj_119 (fAll pj_120 (fAll pj_121 (fAll pj_122 (fAll pj_123 (fAll pj_124 (fAll pj_125 (fAll pj_126 (fAll pj_127 (fAll pj_128 (fAll pj_129 (fAll pj_130 (fAll pj_131 (fAll pj_132 (fAll pj_133 (fAll pj_134 (fAll pj_135 (fAll pj_136 (fAll pj_137 (fAll pj_138 (fAll pj_139 (fAll pj_140 (fAll pj_141 (fAll pj_142 (fAll pj_143 (fAll pj_144 (fAll pj_145 (fAll pj_146 (fAll pj_147 (fAll pj_148 (fAll pj_149 (fAll pj_150 (fAll pj_151 (fAll pj_152 (fAll pj_153 (fNil))))))))))))))))))))))))))))))))))))))))))))))))))))))))))))))))))))))))))))))))))))))))))))))))))))))))))))))))))))))))))))))))))))))))))))))))))))))))))) i M h
theorem pOk : sOkP pPT := ⟨pOk1, pOk2, pOk3⟩
