/-! ===== the program's table ===== -/
theorem pj_0 : mH pm_0 ≠ [] → (mY pm_0).cls = "WavingDesksLaw" := fun h => (h rfl).elim
theorem pj_1 : mH pm_1 ≠ [] → (mY pm_1).cls = "WavingDesksLaw" := fun _ => rfl
theorem pj_2 : mH pm_2 ≠ [] → (mY pm_2).cls = "WavingDesksLaw" := fun _ => rfl
theorem pj_3 : mH pm_3 ≠ [] → (mY pm_3).cls = "WavingDesksLaw" := fun _ => rfl
theorem pj_4 : mH pm_4 ≠ [] → (mY pm_4).cls = "WavingDesksLaw" := fun _ => rfl
theorem pj_5 : mH pm_5 ≠ [] → (mY pm_5).cls = "WavingDesksLaw" := fun _ => rfl
theorem pj_6 : mH pm_6 ≠ [] → (mY pm_6).cls = "WavingDesksLaw" := fun _ => rfl
theorem pj_7 : mH pm_7 ≠ [] → (mY pm_7).cls = "WavingDesksLaw" := fun _ => rfl
theorem pj_8 : mH pm_8 ≠ [] → (mY pm_8).cls = "WavingDesksLaw" := fun _ => rfl
theorem pj_9 : mH pm_9 ≠ [] → (mY pm_9).cls = "WavingDesksLaw" := fun _ => rfl
theorem pj_10 : mH pm_10 ≠ [] → (mY pm_10).cls = "WavingDesksLaw" := fun _ => rfl
theorem pj_11 : mH pm_11 ≠ [] → (mY pm_11).cls = "WavingDesksLaw" := fun _ => rfl
theorem pj_12 : mH pm_12 ≠ [] → (mY pm_12).cls = "WavingDesksLaw" := fun _ => rfl
theorem pj_13 : mH pm_13 ≠ [] → (mY pm_13).cls = "WavingDesksLaw" := fun _ => rfl
theorem pj_14 : mH pm_14 ≠ [] → (mY pm_14).cls = "WavingDesksLaw" := fun _ => rfl
theorem pj_15 : mH pm_15 ≠ [] → (mY pm_15).cls = "WavingDesksLaw" := fun _ => rfl
theorem pj_16 : mH pm_16 ≠ [] → (mY pm_16).cls = "WavingDesksLaw" := fun _ => rfl
theorem pj_17 : mH pm_17 ≠ [] → (mY pm_17).cls = "WavingDesksLaw" := fun _ => rfl
theorem pj_18 : mH pm_18 ≠ [] → (mY pm_18).cls = "WavingDesksLaw" := fun _ => rfl
theorem pj_19 : mH pm_19 ≠ [] → (mY pm_19).cls = "WavingDesksLaw" := fun _ => rfl
theorem pj_20 : mH pm_20 ≠ [] → (mY pm_20).cls = "WavingDesksLaw" := fun _ => rfl
theorem pj_21 : mH pm_21 ≠ [] → (mY pm_21).cls = "WavingDesksLaw" := fun _ => rfl
theorem pj_22 : mH pm_22 ≠ [] → (mY pm_22).cls = "WavingDesksLaw" := fun _ => rfl
theorem pj_23 : mH pm_23 ≠ [] → (mY pm_23).cls = "WavingDesksLaw" := fun _ => rfl
theorem pj_24 : mH pm_24 ≠ [] → (mY pm_24).cls = "WavingDesksLaw" := fun h => (h rfl).elim
theorem pj_25 : mH pm_25 ≠ [] → (mY pm_25).cls = "WavingDesksLaw" := fun h => (h rfl).elim
theorem pj_26 : mH pm_26 ≠ [] → (mY pm_26).cls = "WavingDesksLaw" := fun h => (h rfl).elim
theorem pj_27 : mH pm_27 ≠ [] → (mY pm_27).cls = "WavingDesksLaw" := fun h => (h rfl).elim
theorem pj_28 : mH pm_28 ≠ [] → (mY pm_28).cls = "WavingDesksLaw" := fun h => (h rfl).elim
theorem pj_29 : mH pm_29 ≠ [] → (mY pm_29).cls = "WavingDesksLaw" := fun h => (h rfl).elim
theorem pj_30 : mH pm_30 ≠ [] → (mY pm_30).cls = "WavingDesksLaw" := fun h => (h rfl).elim
theorem pj_31 : mH pm_31 ≠ [] → (mY pm_31).cls = "WavingDesksLaw" := fun h => (h rfl).elim
theorem pj_32 : mH pm_32 ≠ [] → (mY pm_32).cls = "WavingDesksLaw" := fun h => (h rfl).elim
theorem pj_33 : mH pm_33 ≠ [] → (mY pm_33).cls = "WavingDesksLaw" := fun h => (h rfl).elim
theorem pj_34 : mH pm_34 ≠ [] → (mY pm_34).cls = "WavingDesksLaw" := fun h => (h rfl).elim
theorem pj_35 : mH pm_35 ≠ [] → (mY pm_35).cls = "WavingDesksLaw" := fun h => (h rfl).elim
theorem pj_36 : mH pm_36 ≠ [] → (mY pm_36).cls = "WavingDesksLaw" := fun h => (h rfl).elim
theorem pj_37 : mH pm_37 ≠ [] → (mY pm_37).cls = "WavingDesksLaw" := fun h => (h rfl).elim
theorem pj_38 : mH pm_38 ≠ [] → (mY pm_38).cls = "WavingDesksLaw" := fun h => (h rfl).elim
theorem pj_39 : mH pm_39 ≠ [] → (mY pm_39).cls = "WavingDesksLaw" := fun h => (h rfl).elim
theorem pj_40 : mH pm_40 ≠ [] → (mY pm_40).cls = "WavingDesksLaw" := fun h => (h rfl).elim
theorem pj_41 : mH pm_41 ≠ [] → (mY pm_41).cls = "WavingDesksLaw" := fun h => (h rfl).elim
theorem pj_42 : mH pm_42 ≠ [] → (mY pm_42).cls = "WavingDesksLaw" := fun h => (h rfl).elim
theorem pj_43 : mH pm_43 ≠ [] → (mY pm_43).cls = "WavingDesksLaw" := fun h => (h rfl).elim
theorem pj_44 : mH pm_44 ≠ [] → (mY pm_44).cls = "WavingDesksLaw" := fun h => (h rfl).elim
theorem pj_45 : mH pm_45 ≠ [] → (mY pm_45).cls = "WavingDesksLaw" := fun h => (h rfl).elim
theorem pj_46 : mH pm_46 ≠ [] → (mY pm_46).cls = "WavingDesksLaw" := fun h => (h rfl).elim
theorem pj_47 : mH pm_47 ≠ [] → (mY pm_47).cls = "WavingDesksLaw" := fun h => (h rfl).elim
theorem pj_48 : mH pm_48 ≠ [] → (mY pm_48).cls = "WavingDesksLaw" := fun h => (h rfl).elim
theorem pj_49 : mH pm_49 ≠ [] → (mY pm_49).cls = "WavingDesksLaw" := fun h => (h rfl).elim
theorem pj_50 : mH pm_50 ≠ [] → (mY pm_50).cls = "WavingDesksLaw" := fun h => (h rfl).elim
theorem pj_51 : mH pm_51 ≠ [] → (mY pm_51).cls = "WavingDesksLaw" := fun h => (h rfl).elim
theorem pj_52 : mH pm_52 ≠ [] → (mY pm_52).cls = "WavingDesksLaw" := fun h => (h rfl).elim
theorem pj_53 : mH pm_53 ≠ [] → (mY pm_53).cls = "WavingDesksLaw" := fun h => (h rfl).elim
theorem pj_54 : mH pm_54 ≠ [] → (mY pm_54).cls = "WavingDesksLaw" := fun h => (h rfl).elim
theorem pj_55 : mH pm_55 ≠ [] → (mY pm_55).cls = "WavingDesksLaw" := fun h => (h rfl).elim
theorem pj_56 : mH pm_56 ≠ [] → (mY pm_56).cls = "WavingDesksLaw" := fun h => (h rfl).elim
theorem pj_57 : mH pm_57 ≠ [] → (mY pm_57).cls = "WavingDesksLaw" := fun h => (h rfl).elim
theorem pj_58 : mH pm_58 ≠ [] → (mY pm_58).cls = "WavingDesksLaw" := fun h => (h rfl).elim
theorem pj_59 : mH pm_59 ≠ [] → (mY pm_59).cls = "WavingDesksLaw" := fun h => (h rfl).elim
theorem pj_60 : mH pm_60 ≠ [] → (mY pm_60).cls = "WavingDesksLaw" := fun h => (h rfl).elim
theorem pj_61 : mH pm_61 ≠ [] → (mY pm_61).cls = "WavingDesksLaw" := fun h => (h rfl).elim
theorem pj_62 : mH pm_62 ≠ [] → (mY pm_62).cls = "WavingDesksLaw" := fun h => (h rfl).elim
theorem pj_63 : mH pm_63 ≠ [] → (mY pm_63).cls = "WavingDesksLaw" := fun h => (h rfl).elim
theorem pj_64 : mH pm_64 ≠ [] → (mY pm_64).cls = "WavingDesksLaw" := fun h => (h rfl).elim
theorem pj_65 : mH pm_65 ≠ [] → (mY pm_65).cls = "WavingDesksLaw" := fun h => (h rfl).elim
theorem pj_66 : mH pm_66 ≠ [] → (mY pm_66).cls = "WavingDesksLaw" := fun h => (h rfl).elim
theorem pj_67 : mH pm_67 ≠ [] → (mY pm_67).cls = "WavingDesksLaw" := fun h => (h rfl).elim
theorem pj_68 : mH pm_68 ≠ [] → (mY pm_68).cls = "WavingDesksLaw" := fun h => (h rfl).elim
theorem pj_69 : mH pm_69 ≠ [] → (mY pm_69).cls = "WavingDesksLaw" := fun h => (h rfl).elim
theorem pj_70 : mH pm_70 ≠ [] → (mY pm_70).cls = "WavingDesksLaw" := fun h => (h rfl).elim
theorem pj_71 : mH pm_71 ≠ [] → (mY pm_71).cls = "WavingDesksLaw" := fun h => (h rfl).elim
theorem pj_72 : mH pm_72 ≠ [] → (mY pm_72).cls = "WavingDesksLaw" := fun h => (h rfl).elim
theorem pj_73 : mH pm_73 ≠ [] → (mY pm_73).cls = "WavingDesksLaw" := fun h => (h rfl).elim
theorem pj_74 : mH pm_74 ≠ [] → (mY pm_74).cls = "WavingDesksLaw" := fun h => (h rfl).elim
theorem pj_75 : mH pm_75 ≠ [] → (mY pm_75).cls = "WavingDesksLaw" := fun h => (h rfl).elim
theorem pj_76 : mH pm_76 ≠ [] → (mY pm_76).cls = "WavingDesksLaw" := fun h => (h rfl).elim
theorem pj_77 : mH pm_77 ≠ [] → (mY pm_77).cls = "WavingDesksLaw" := fun h => (h rfl).elim
theorem pj_78 : mH pm_78 ≠ [] → (mY pm_78).cls = "WavingDesksLaw" := fun h => (h rfl).elim
theorem pj_79 : mH pm_79 ≠ [] → (mY pm_79).cls = "WavingDesksLaw" := fun h => (h rfl).elim
theorem pj_80 : mH pm_80 ≠ [] → (mY pm_80).cls = "WavingDesksLaw" := fun h => (h rfl).elim
theorem pj_81 : mH pm_81 ≠ [] → (mY pm_81).cls = "WavingDesksLaw" := fun h => (h rfl).elim
theorem pj_82 : mH pm_82 ≠ [] → (mY pm_82).cls = "WavingDesksLaw" := fun h => (h rfl).elim
theorem pj_83 : mH pm_83 ≠ [] → (mY pm_83).cls = "WavingDesksLaw" := fun h => (h rfl).elim
theorem pj_84 : mH pm_84 ≠ [] → (mY pm_84).cls = "WavingDesksLaw" := fun h => (h rfl).elim
theorem pj_85 : mH pm_85 ≠ [] → (mY pm_85).cls = "WavingDesksLaw" := fun h => (h rfl).elim
theorem pj_86 : mH pm_86 ≠ [] → (mY pm_86).cls = "WavingDesksLaw" := fun h => (h rfl).elim
theorem pj_87 : mH pm_87 ≠ [] → (mY pm_87).cls = "WavingDesksLaw" := fun h => (h rfl).elim
theorem pj_88 : mH pm_88 ≠ [] → (mY pm_88).cls = "WavingDesksLaw" := fun h => (h rfl).elim
theorem pj_89 : mH pm_89 ≠ [] → (mY pm_89).cls = "WavingDesksLaw" := fun h => (h rfl).elim
theorem pj_90 : mH pm_90 ≠ [] → (mY pm_90).cls = "WavingDesksLaw" := fun h => (h rfl).elim
theorem pj_91 : mH pm_91 ≠ [] → (mY pm_91).cls = "WavingDesksLaw" := fun h => (h rfl).elim
theorem pj_92 : mH pm_92 ≠ [] → (mY pm_92).cls = "WavingDesksLaw" := fun h => (h rfl).elim
theorem pj_93 : mH pm_93 ≠ [] → (mY pm_93).cls = "WavingDesksLaw" := fun h => (h rfl).elim
theorem pj_94 : mH pm_94 ≠ [] → (mY pm_94).cls = "WavingDesksLaw" := fun h => (h rfl).elim
theorem pj_95 : mH pm_95 ≠ [] → (mY pm_95).cls = "WavingDesksLaw" := fun h => (h rfl).elim
theorem pj_96 : mH pm_96 ≠ [] → (mY pm_96).cls = "WavingDesksLaw" := fun h => (h rfl).elim
theorem pj_97 : mH pm_97 ≠ [] → (mY pm_97).cls = "WavingDesksLaw" := fun h => (h rfl).elim
theorem pj_98 : mH pm_98 ≠ [] → (mY pm_98).cls = "WavingDesksLaw" := fun h => (h rfl).elim
theorem pj_99 : mH pm_99 ≠ [] → (mY pm_99).cls = "WavingDesksLaw" := fun h => (h rfl).elim
theorem pj_100 : mH pm_100 ≠ [] → (mY pm_100).cls = "WavingDesksLaw" := fun h => (h rfl).elim
theorem pj_101 : mH pm_101 ≠ [] → (mY pm_101).cls = "WavingDesksLaw" := fun h => (h rfl).elim
theorem pj_102 : mH pm_102 ≠ [] → (mY pm_102).cls = "WavingDesksLaw" := fun h => (h rfl).elim
theorem pj_103 : mH pm_103 ≠ [] → (mY pm_103).cls = "WavingDesksLaw" := fun h => (h rfl).elim
theorem pj_104 : mH pm_104 ≠ [] → (mY pm_104).cls = "WavingDesksLaw" := fun h => (h rfl).elim
theorem pj_105 : mH pm_105 ≠ [] → (mY pm_105).cls = "WavingDesksLaw" := fun h => (h rfl).elim
theorem pj_106 : mH pm_106 ≠ [] → (mY pm_106).cls = "WavingDesksLaw" := fun h => (h rfl).elim
theorem pj_107 : mH pm_107 ≠ [] → (mY pm_107).cls = "WavingDesksLaw" := fun h => (h rfl).elim
theorem pj_108 : mH pm_108 ≠ [] → (mY pm_108).cls = "WavingDesksLaw" := fun h => (h rfl).elim
theorem pj_109 : mH pm_109 ≠ [] → (mY pm_109).cls = "WavingDesksLaw" := fun h => (h rfl).elim
theorem pj_110 : mH pm_110 ≠ [] → (mY pm_110).cls = "WavingDesksLaw" := fun h => (h rfl).elim
theorem pj_111 : mH pm_111 ≠ [] → (mY pm_111).cls = "WavingDesksLaw" := fun h => (h rfl).elim
theorem pj_112 : mH pm_112 ≠ [] → (mY pm_112).cls = "WavingDesksLaw" := fun h => (h rfl).elim
theorem pj_113 : mH pm_113 ≠ [] → (mY pm_113).cls = "WavingDesksLaw" := fun h => (h rfl).elim
theorem pj_114 : mH pm_114 ≠ [] → (mY pm_114).cls = "WavingDesksLaw" := fun h => (h rfl).elim
theorem pj_115 : mH pm_115 ≠ [] → (mY pm_115).cls = "WavingDesksLaw" := fun h => (h rfl).elim
theorem pj_116 : mH pm_116 ≠ [] → (mY pm_116).cls = "WavingDesksLaw" := fun h => (h rfl).elim
theorem pj_117 : mH pm_117 ≠ [] → (mY pm_117).cls = "WavingDesksLaw" := fun h => (h rfl).elim
theorem pj_118 : mH pm_118 ≠ [] → (mY pm_118).cls = "WavingDesksLaw" := fun h => (h rfl).elim
theorem pj_119 : mH pm_119 ≠ [] → (mY pm_119).cls = "WavingDesksLaw" := fun h => (h rfl).elim
theorem pj_120 : mH pm_120 ≠ [] → (mY pm_120).cls = "WavingDesksLaw" := fun h => (h rfl).elim
theorem pj_121 : mH pm_121 ≠ [] → (mY pm_121).cls = "WavingDesksLaw" := fun h => (h rfl).elim
theorem pj_122 : mH pm_122 ≠ [] → (mY pm_122).cls = "WavingDesksLaw" := fun h => (h rfl).elim
theorem pj_123 : mH pm_123 ≠ [] → (mY pm_123).cls = "WavingDesksLaw" := fun h => (h rfl).elim
theorem pj_124 : mH pm_124 ≠ [] → (mY pm_124).cls = "WavingDesksLaw" := fun h => (h rfl).elim
theorem pj_125 : mH pm_125 ≠ [] → (mY pm_125).cls = "WavingDesksLaw" := fun h => (h rfl).elim
theorem pj_126 : mH pm_126 ≠ [] → (mY pm_126).cls = "WavingDesksLaw" := fun h => (h rfl).elim
theorem pj_127 : mH pm_127 ≠ [] → (mY pm_127).cls = "WavingDesksLaw" := fun h => (h rfl).elim
theorem pj_128 : mH pm_128 ≠ [] → (mY pm_128).cls = "WavingDesksLaw" := fun h => (h rfl).elim
theorem pj_129 : mH pm_129 ≠ [] → (mY pm_129).cls = "WavingDesksLaw" := fun h => (h rfl).elim
theorem pj_130 : mH pm_130 ≠ [] → (mY pm_130).cls = "WavingDesksLaw" := fun h => (h rfl).elim
theorem pj_131 : mH pm_131 ≠ [] → (mY pm_131).cls = "WavingDesksLaw" := fun h => (h rfl).elim
theorem pj_132 : mH pm_132 ≠ [] → (mY pm_132).cls = "WavingDesksLaw" := fun h => (h rfl).elim
theorem pj_133 : mH pm_133 ≠ [] → (mY pm_133).cls = "WavingDesksLaw" := fun h => (h rfl).elim
theorem pj_134 : mH pm_134 ≠ [] → (mY pm_134).cls = "WavingDesksLaw" := fun h => (h rfl).elim
theorem pj_135 : mH pm_135 ≠ [] → (mY pm_135).cls = "WavingDesksLaw" := fun h => (h rfl).elim
theorem pj_136 : mH pm_136 ≠ [] → (mY pm_136).cls = "WavingDesksLaw" := fun h => (h rfl).elim
theorem pj_137 : mH pm_137 ≠ [] → (mY pm_137).cls = "WavingDesksLaw" := fun h => (h rfl).elim
theorem pj_138 : mH pm_138 ≠ [] → (mY pm_138).cls = "WavingDesksLaw" := fun h => (h rfl).elim
theorem pj_139 : mH pm_139 ≠ [] → (mY pm_139).cls = "WavingDesksLaw" := fun h => (h rfl).elim
theorem pj_140 : mH pm_140 ≠ [] → (mY pm_140).cls = "WavingDesksLaw" := fun h => (h rfl).elim
theorem pj_141 : mH pm_141 ≠ [] → (mY pm_141).cls = "WavingDesksLaw" := fun h => (h rfl).elim
theorem pj_142 : mH pm_142 ≠ [] → (mY pm_142).cls = "WavingDesksLaw" := fun h => (h rfl).elim
theorem pj_143 : mH pm_143 ≠ [] → (mY pm_143).cls = "WavingDesksLaw" := fun h => (h rfl).elim
theorem pj_144 : mH pm_144 ≠ [] → (mY pm_144).cls = "WavingDesksLaw" := fun h => (h rfl).elim
theorem pj_145 : mH pm_145 ≠ [] → (mY pm_145).cls = "WavingDesksLaw" := fun h => (h rfl).elim
theorem pj_146 : mH pm_146 ≠ [] → (mY pm_146).cls = "WavingDesksLaw" := fun h => (h rfl).elim
theorem pj_147 : mH pm_147 ≠ [] → (mY pm_147).cls = "WavingDesksLaw" := fun h => (h rfl).elim
theorem pj_148 : mH pm_148 ≠ [] → (mY pm_148).cls = "WavingDesksLaw" := fun h => (h rfl).elim
theorem pj_149 : mH pm_149 ≠ [] → (mY pm_149).cls = "WavingDesksLaw" := fun h => (h rfl).elim
theorem pj_150 : mH pm_150 ≠ [] → (mY pm_150).cls = "WavingDesksLaw" := fun h => (h rfl).elim
theorem pj_151 : mH pm_151 ≠ [] → (mY pm_151).cls = "WavingDesksLaw" := fun h => (h rfl).elim
theorem pj_152 : mH pm_152 ≠ [] → (mY pm_152).cls = "WavingDesksLaw" := fun h => (h rfl).elim
theorem pj_153 : mH pm_153 ≠ [] → (mY pm_153).cls = "WavingDesksLaw" := fun h => (h rfl).elim
theorem pj_154 : mH pm_154 ≠ [] → (mY pm_154).cls = "WavingDesksLaw" := fun h => (h rfl).elim
theorem pj_155 : mH pm_155 ≠ [] → (mY pm_155).cls = "WavingDesksLaw" := fun h => (h rfl).elim
theorem pj_156 : mH pm_156 ≠ [] → (mY pm_156).cls = "WavingDesksLaw" := fun h => (h rfl).elim
theorem pj_157 : mH pm_157 ≠ [] → (mY pm_157).cls = "WavingDesksLaw" := fun h => (h rfl).elim
theorem pj_158 : mH pm_158 ≠ [] → (mY pm_158).cls = "WavingDesksLaw" := fun h => (h rfl).elim
theorem pj_159 : mH pm_159 ≠ [] → (mY pm_159).cls = "WavingDesksLaw" := fun h => (h rfl).elim
theorem pj_160 : mH pm_160 ≠ [] → (mY pm_160).cls = "WavingDesksLaw" := fun h => (h rfl).elim
theorem pj_161 : mH pm_161 ≠ [] → (mY pm_161).cls = "WavingDesksLaw" := fun h => (h rfl).elim
theorem pj_162 : mH pm_162 ≠ [] → (mY pm_162).cls = "WavingDesksLaw" := fun h => (h rfl).elim
theorem pj_163 : mH pm_163 ≠ [] → (mY pm_163).cls = "WavingDesksLaw" := fun h => (h rfl).elim
theorem pj_164 : mH pm_164 ≠ [] → (mY pm_164).cls = "WavingDesksLaw" := fun h => (h rfl).elim
theorem pj_165 : mH pm_165 ≠ [] → (mY pm_165).cls = "WavingDesksLaw" := fun h => (h rfl).elim
theorem pj_166 : mH pm_166 ≠ [] → (mY pm_166).cls = "WavingDesksLaw" := fun h => (h rfl).elim
theorem pj_167 : mH pm_167 ≠ [] → (mY pm_167).cls = "WavingDesksLaw" := fun h => (h rfl).elim
theorem pj_168 : mH pm_168 ≠ [] → (mY pm_168).cls = "WavingDesksLaw" := fun h => (h rfl).elim
theorem pj_169 : mH pm_169 ≠ [] → (mY pm_169).cls = "WavingDesksLaw" := fun h => (h rfl).elim
theorem pj_170 : mH pm_170 ≠ [] → (mY pm_170).cls = "WavingDesksLaw" := fun h => (h rfl).elim
theorem pj_171 : mH pm_171 ≠ [] → (mY pm_171).cls = "WavingDesksLaw" := fun h => (h rfl).elim
theorem pj_172 : mH pm_172 ≠ [] → (mY pm_172).cls = "WavingDesksLaw" := fun h => (h rfl).elim
theorem pj_173 : mH pm_173 ≠ [] → (mY pm_173).cls = "WavingDesksLaw" := fun h => (h rfl).elim
theorem pj_174 : mH pm_174 ≠ [] → (mY pm_174).cls = "WavingDesksLaw" := fun h => (h rfl).elim
theorem pj_175 : mH pm_175 ≠ [] → (mY pm_175).cls = "WavingDesksLaw" := fun h => (h rfl).elim
theorem pj_176 : mH pm_176 ≠ [] → (mY pm_176).cls = "WavingDesksLaw" := fun h => (h rfl).elim
theorem pj_177 : mH pm_177 ≠ [] → (mY pm_177).cls = "WavingDesksLaw" := fun h => (h rfl).elim
theorem pj_178 : mH pm_178 ≠ [] → (mY pm_178).cls = "WavingDesksLaw" := fun h => (h rfl).elim
theorem pj_179 : mH pm_179 ≠ [] → (mY pm_179).cls = "WavingDesksLaw" := fun h => (h rfl).elim
theorem pj_180 : mH pm_180 ≠ [] → (mY pm_180).cls = "WavingDesksLaw" := fun h => (h rfl).elim
theorem pj_181 : mH pm_181 ≠ [] → (mY pm_181).cls = "WavingDesksLaw" := fun h => (h rfl).elim
theorem pj_182 : mH pm_182 ≠ [] → (mY pm_182).cls = "WavingDesksLaw" := fun h => (h rfl).elim
theorem pj_183 : mH pm_183 ≠ [] → (mY pm_183).cls = "WavingDesksLaw" := fun h => (h rfl).elim
theorem pj_184 : mH pm_184 ≠ [] → (mY pm_184).cls = "WavingDesksLaw" := fun h => (h rfl).elim
theorem pj_185 : mH pm_185 ≠ [] → (mY pm_185).cls = "WavingDesksLaw" := fun h => (h rfl).elim
theorem pj_186 : mH pm_186 ≠ [] → (mY pm_186).cls = "WavingDesksLaw" := fun h => (h rfl).elim
theorem pj_187 : mH pm_187 ≠ [] → (mY pm_187).cls = "WavingDesksLaw" := fun h => (h rfl).elim
theorem pj_188 : mH pm_188 ≠ [] → (mY pm_188).cls = "WavingDesksLaw" := fun h => (h rfl).elim
theorem pj_189 : mH pm_189 ≠ [] → (mY pm_189).cls = "WavingDesksLaw" := fun h => (h rfl).elim
theorem pj_190 : mH pm_190 ≠ [] → (mY pm_190).cls = "WavingDesksLaw" := fun h => (h rfl).elim
theorem pj_191 : mH pm_191 ≠ [] → (mY pm_191).cls = "WavingDesksLaw" := fun h => (h rfl).elim
theorem pj_192 : mH pm_192 ≠ [] → (mY pm_192).cls = "WavingDesksLaw" := fun h => (h rfl).elim
theorem pj_193 : mH pm_193 ≠ [] → (mY pm_193).cls = "WavingDesksLaw" := fun h => (h rfl).elim
theorem pj_194 : mH pm_194 ≠ [] → (mY pm_194).cls = "WavingDesksLaw" := fun h => (h rfl).elim
theorem pj_195 : mH pm_195 ≠ [] → (mY pm_195).cls = "WavingDesksLaw" := fun h => (h rfl).elim
theorem pj_196 : mH pm_196 ≠ [] → (mY pm_196).cls = "WavingDesksLaw" := fun h => (h rfl).elim
theorem pj_197 : mH pm_197 ≠ [] → (mY pm_197).cls = "WavingDesksLaw" := fun h => (h rfl).elim
theorem pj_198 : mH pm_198 ≠ [] → (mY pm_198).cls = "WavingDesksLaw" := fun h => (h rfl).elim
theorem pj_199 : mH pm_199 ≠ [] → (mY pm_199).cls = "WavingDesksLaw" := fun h => (h rfl).elim
theorem pj_200 : mH pm_200 ≠ [] → (mY pm_200).cls = "WavingDesksLaw" := fun h => (h rfl).elim
theorem pj_201 : mH pm_201 ≠ [] → (mY pm_201).cls = "WavingDesksLaw" := fun h => (h rfl).elim
theorem pj_202 : mH pm_202 ≠ [] → (mY pm_202).cls = "WavingDesksLaw" := fun h => (h rfl).elim
theorem pj_203 : mH pm_203 ≠ [] → (mY pm_203).cls = "WavingDesksLaw" := fun h => (h rfl).elim
theorem pj_204 : mH pm_204 ≠ [] → (mY pm_204).cls = "WavingDesksLaw" := fun h => (h rfl).elim
theorem pj_205 : mH pm_205 ≠ [] → (mY pm_205).cls = "WavingDesksLaw" := fun h => (h rfl).elim
theorem pj_206 : mH pm_206 ≠ [] → (mY pm_206).cls = "WavingDesksLaw" := fun h => (h rfl).elim
theorem pj_207 : mH pm_207 ≠ [] → (mY pm_207).cls = "WavingDesksLaw" := fun h => (h rfl).elim
theorem pj_208 : mH pm_208 ≠ [] → (mY pm_208).cls = "WavingDesksLaw" := fun h => (h rfl).elim
theorem pj_209 : mH pm_209 ≠ [] → (mY pm_209).cls = "WavingDesksLaw" := fun h => (h rfl).elim
theorem pj_210 : mH pm_210 ≠ [] → (mY pm_210).cls = "WavingDesksLaw" := fun h => (h rfl).elim
theorem pj_211 : mH pm_211 ≠ [] → (mY pm_211).cls = "WavingDesksLaw" := fun h => (h rfl).elim
theorem pj_212 : mH pm_212 ≠ [] → (mY pm_212).cls = "WavingDesksLaw" := fun h => (h rfl).elim
theorem pj_213 : mH pm_213 ≠ [] → (mY pm_213).cls = "WavingDesksLaw" := fun h => (h rfl).elim
theorem pj_214 : mH pm_214 ≠ [] → (mY pm_214).cls = "WavingDesksLaw" := fun h => (h rfl).elim
theorem pj_215 : mH pm_215 ≠ [] → (mY pm_215).cls = "WavingDesksLaw" := fun h => (h rfl).elim
theorem pj_216 : mH pm_216 ≠ [] → (mY pm_216).cls = "WavingDesksLaw" := fun h => (h rfl).elim
theorem pj_217 : mH pm_217 ≠ [] → (mY pm_217).cls = "WavingDesksLaw" := fun h => (h rfl).elim
theorem pj_218 : mH pm_218 ≠ [] → (mY pm_218).cls = "WavingDesksLaw" := fun h => (h rfl).elim
theorem pj_219 : mH pm_219 ≠ [] → (mY pm_219).cls = "WavingDesksLaw" := fun h => (h rfl).elim
theorem pj_220 : mH pm_220 ≠ [] → (mY pm_220).cls = "WavingDesksLaw" := fun h => (h rfl).elim
theorem pj_221 : mH pm_221 ≠ [] → (mY pm_221).cls = "WavingDesksLaw" := fun h => (h rfl).elim
theorem pj_222 : mH pm_222 ≠ [] → (mY pm_222).cls = "WavingDesksLaw" := fun h => (h rfl).elim
theorem pj_223 : mH pm_223 ≠ [] → (mY pm_223).cls = "WavingDesksLaw" := fun h => (h rfl).elim
theorem pj_224 : mH pm_224 ≠ [] → (mY pm_224).cls = "WavingDesksLaw" := fun h => (h rfl).elim
theorem pj_225 : mH pm_225 ≠ [] → (mY pm_225).cls = "WavingDesksLaw" := fun h => (h rfl).elim
theorem pj_226 : mH pm_226 ≠ [] → (mY pm_226).cls = "WavingDesksLaw" := fun h => (h rfl).elim
theorem pj_227 : mH pm_227 ≠ [] → (mY pm_227).cls = "WavingDesksLaw" := fun h => (h rfl).elim
theorem pj_228 : mH pm_228 ≠ [] → (mY pm_228).cls = "WavingDesksLaw" := fun h => (h rfl).elim
theorem pj_229 : mH pm_229 ≠ [] → (mY pm_229).cls = "WavingDesksLaw" := fun h => (h rfl).elim
theorem pj_230 : mH pm_230 ≠ [] → (mY pm_230).cls = "WavingDesksLaw" := fun h => (h rfl).elim
theorem pj_231 : mH pm_231 ≠ [] → (mY pm_231).cls = "WavingDesksLaw" := fun h => (h rfl).elim
theorem pj_232 : mH pm_232 ≠ [] → (mY pm_232).cls = "WavingDesksLaw" := fun h => (h rfl).elim
theorem pj_233 : mH pm_233 ≠ [] → (mY pm_233).cls = "WavingDesksLaw" := fun h => (h rfl).elim
theorem pj_234 : mH pm_234 ≠ [] → (mY pm_234).cls = "WavingDesksLaw" := fun h => (h rfl).elim
theorem pj_235 : mH pm_235 ≠ [] → (mY pm_235).cls = "WavingDesksLaw" := fun h => (h rfl).elim
theorem pj_236 : mH pm_236 ≠ [] → (mY pm_236).cls = "WavingDesksLaw" := fun h => (h rfl).elim
theorem pj_237 : mH pm_237 ≠ [] → (mY pm_237).cls = "WavingDesksLaw" := fun h => (h rfl).elim
theorem pj_238 : mH pm_238 ≠ [] → (mY pm_238).cls = "WavingDesksLaw" := fun h => (h rfl).elim
theorem pj_239 : mH pm_239 ≠ [] → (mY pm_239).cls = "WavingDesksLaw" := fun h => (h rfl).elim
theorem pj_240 : mH pm_240 ≠ [] → (mY pm_240).cls = "WavingDesksLaw" := fun h => (h rfl).elim
theorem pj_241 : mH pm_241 ≠ [] → (mY pm_241).cls = "WavingDesksLaw" := fun h => (h rfl).elim
theorem pj_242 : mH pm_242 ≠ [] → (mY pm_242).cls = "WavingDesksLaw" := fun h => (h rfl).elim
theorem pj_243 : mH pm_243 ≠ [] → (mY pm_243).cls = "WavingDesksLaw" := fun h => (h rfl).elim
theorem pj_244 : mH pm_244 ≠ [] → (mY pm_244).cls = "WavingDesksLaw" := fun h => (h rfl).elim
theorem pj_245 : mH pm_245 ≠ [] → (mY pm_245).cls = "WavingDesksLaw" := fun h => (h rfl).elim
theorem pj_246 : mH pm_246 ≠ [] → (mY pm_246).cls = "WavingDesksLaw" := fun h => (h rfl).elim
theorem pj_247 : mH pm_247 ≠ [] → (mY pm_247).cls = "WavingDesksLaw" := fun h => (h rfl).elim
theorem pj_248 : mH pm_248 ≠ [] → (mY pm_248).cls = "WavingDesksLaw" := fun h => (h rfl).elim
theorem pj_249 : mH pm_249 ≠ [] → (mY pm_249).cls = "WavingDesksLaw" := fun h => (h rfl).elim
theorem pj_250 : mH pm_250 ≠ [] → (mY pm_250).cls = "WavingDesksLaw" := fun h => (h rfl).elim
theorem pj_251 : mH pm_251 ≠ [] → (mY pm_251).cls = "WavingDesksLaw" := fun h => (h rfl).elim
theorem pj_252 : mH pm_252 ≠ [] → (mY pm_252).cls = "WavingDesksLaw" := fun h => (h rfl).elim
theorem pj_253 : mH pm_253 ≠ [] → (mY pm_253).cls = "WavingDesksLaw" := fun h => (h rfl).elim
theorem pj_254 : mH pm_254 ≠ [] → (mY pm_254).cls = "WavingDesksLaw" := fun h => (h rfl).elim
theorem pj_255 : mH pm_255 ≠ [] → (mY pm_255).cls = "WavingDesksLaw" := fun h => (h rfl).elim
theorem pj_256 : mH pm_256 ≠ [] → (mY pm_256).cls = "WavingDesksLaw" := fun h => (h rfl).elim
theorem pj_257 : mH pm_257 ≠ [] → (mY pm_257).cls = "WavingDesksLaw" := fun h => (h rfl).elim
theorem pj_258 : mH pm_258 ≠ [] → (mY pm_258).cls = "WavingDesksLaw" := fun h => (h rfl).elim
theorem pj_259 : mH pm_259 ≠ [] → (mY pm_259).cls = "WavingDesksLaw" := fun h => (h rfl).elim
theorem pj_260 : mH pm_260 ≠ [] → (mY pm_260).cls = "WavingDesksLaw" := fun h => (h rfl).elim
theorem pj_261 : mH pm_261 ≠ [] → (mY pm_261).cls = "WavingDesksLaw" := fun h => (h rfl).elim
theorem pj_262 : mH pm_262 ≠ [] → (mY pm_262).cls = "WavingDesksLaw" := fun h => (h rfl).elim
theorem pj_263 : mH pm_263 ≠ [] → (mY pm_263).cls = "WavingDesksLaw" := fun h => (h rfl).elim
theorem pj_264 : mH pm_264 ≠ [] → (mY pm_264).cls = "WavingDesksLaw" := fun h => (h rfl).elim
theorem pj_265 : mH pm_265 ≠ [] → (mY pm_265).cls = "WavingDesksLaw" := fun h => (h rfl).elim
theorem pj_266 : mH pm_266 ≠ [] → (mY pm_266).cls = "WavingDesksLaw" := fun h => (h rfl).elim
theorem pj_267 : mH pm_267 ≠ [] → (mY pm_267).cls = "WavingDesksLaw" := fun h => (h rfl).elim
theorem pj_268 : mH pm_268 ≠ [] → (mY pm_268).cls = "WavingDesksLaw" := fun h => (h rfl).elim
theorem pj_269 : mH pm_269 ≠ [] → (mY pm_269).cls = "WavingDesksLaw" := fun h => (h rfl).elim
theorem pj_270 : mH pm_270 ≠ [] → (mY pm_270).cls = "WavingDesksLaw" := fun h => (h rfl).elim
theorem pj_271 : mH pm_271 ≠ [] → (mY pm_271).cls = "WavingDesksLaw" := fun h => (h rfl).elim
theorem pj_272 : mH pm_272 ≠ [] → (mY pm_272).cls = "WavingDesksLaw" := fun h => (h rfl).elim
theorem pj_273 : mH pm_273 ≠ [] → (mY pm_273).cls = "WavingDesksLaw" := fun h => (h rfl).elim
theorem pj_274 : mH pm_274 ≠ [] → (mY pm_274).cls = "WavingDesksLaw" := fun h => (h rfl).elim
theorem pj_275 : mH pm_275 ≠ [] → (mY pm_275).cls = "WavingDesksLaw" := fun h => (h rfl).elim
theorem pj_276 : mH pm_276 ≠ [] → (mY pm_276).cls = "WavingDesksLaw" := fun h => (h rfl).elim
theorem pj_277 : mH pm_277 ≠ [] → (mY pm_277).cls = "WavingDesksLaw" := fun h => (h rfl).elim
theorem pj_278 : mH pm_278 ≠ [] → (mY pm_278).cls = "WavingDesksLaw" := fun h => (h rfl).elim
theorem pj_279 : mH pm_279 ≠ [] → (mY pm_279).cls = "WavingDesksLaw" := fun h => (h rfl).elim
theorem pj_280 : mH pm_280 ≠ [] → (mY pm_280).cls = "WavingDesksLaw" := fun h => (h rfl).elim
theorem pj_281 : mH pm_281 ≠ [] → (mY pm_281).cls = "WavingDesksLaw" := fun h => (h rfl).elim
theorem pj_282 : mH pm_282 ≠ [] → (mY pm_282).cls = "WavingDesksLaw" := fun h => (h rfl).elim
theorem pj_283 : mH pm_283 ≠ [] → (mY pm_283).cls = "WavingDesksLaw" := fun h => (h rfl).elim
theorem pj_284 : mH pm_284 ≠ [] → (mY pm_284).cls = "WavingDesksLaw" := fun h => (h rfl).elim
theorem pj_285 : mH pm_285 ≠ [] → (mY pm_285).cls = "WavingDesksLaw" := fun h => (h rfl).elim
theorem pj_286 : mH pm_286 ≠ [] → (mY pm_286).cls = "WavingDesksLaw" := fun h => (h rfl).elim
def pA (M : sMd) : Prop := sOkT pPT M = true ∧ sOkQ M ∧ (mH M ≠ [] → (mY M).cls = "WavingDesksLaw")
theorem pA_nil : ∀ M ∈ ([] : List sMd), pA M := fun M h => by cases h
theorem pA_cons {a : sMd} {l : List sMd} (h : pA a) (t : ∀ M ∈ l, pA M) : ∀ M ∈ a :: l, pA M := fun M hM => by
  rcases List.mem_cons.mp hM with rfl | hM
  · exact h
  · exact t M hM
theorem pA_app {k l : List sMd} (h : ∀ M ∈ k, pA M) (t : ∀ M ∈ l, pA M) : ∀ M ∈ k ++ l, pA M := fun M hM => by
  rcases List.mem_append.mp hM with hM | hM
  · exact h M hM
  · exact t M hM
def pB_0 : List sMd := [pm_1, pm_2, pm_3, pm_4, pm_5, pm_6, pm_7, pm_8, pm_9, pm_10, pm_11, pm_12, pm_13, pm_14]
theorem pB_0_ok : ∀ M ∈ pB_0, pA M := pA_cons ⟨po_1, pk_1, pj_1⟩ (pA_cons ⟨po_2, pk_2, pj_2⟩ (pA_cons ⟨po_3, pk_3, pj_3⟩ (pA_cons ⟨po_4, pk_4, pj_4⟩ (pA_cons ⟨po_5, pk_5, pj_5⟩ (pA_cons ⟨po_6, pk_6, pj_6⟩ (pA_cons ⟨po_7, pk_7, pj_7⟩ (pA_cons ⟨po_8, pk_8, pj_8⟩ (pA_cons ⟨po_9, pk_9, pj_9⟩ (pA_cons ⟨po_10, pk_10, pj_10⟩ (pA_cons ⟨po_11, pk_11, pj_11⟩ (pA_cons ⟨po_12, pk_12, pj_12⟩ (pA_cons ⟨po_13, pk_13, pj_13⟩ (pA_cons ⟨po_14, pk_14, pj_14⟩ (pA_nil))))))))))))))
def pB_1 : List sMd := [pm_15, pm_16, pm_17, pm_18, pm_19, pm_20, pm_21, pm_22, pm_23, pm_24, pm_25, pm_26, pm_27, pm_28]
theorem pB_1_ok : ∀ M ∈ pB_1, pA M := pA_cons ⟨po_15, pk_15, pj_15⟩ (pA_cons ⟨po_16, pk_16, pj_16⟩ (pA_cons ⟨po_17, pk_17, pj_17⟩ (pA_cons ⟨po_18, pk_18, pj_18⟩ (pA_cons ⟨po_19, pk_19, pj_19⟩ (pA_cons ⟨po_20, pk_20, pj_20⟩ (pA_cons ⟨po_21, pk_21, pj_21⟩ (pA_cons ⟨po_22, pk_22, pj_22⟩ (pA_cons ⟨po_23, pk_23, pj_23⟩ (pA_cons ⟨po_24, pk_24, pj_24⟩ (pA_cons ⟨po_25, pk_25, pj_25⟩ (pA_cons ⟨po_26, pk_26, pj_26⟩ (pA_cons ⟨po_27, pk_27, pj_27⟩ (pA_cons ⟨po_28, pk_28, pj_28⟩ (pA_nil))))))))))))))
def pB_2 : List sMd := [pm_29, pm_30, pm_31, pm_32, pm_33, pm_34, pm_35, pm_36, pm_37, pm_38, pm_39, pm_40, pm_41, pm_42]
theorem pB_2_ok : ∀ M ∈ pB_2, pA M := pA_cons ⟨po_29, pk_29, pj_29⟩ (pA_cons ⟨po_30, pk_30, pj_30⟩ (pA_cons ⟨po_31, pk_31, pj_31⟩ (pA_cons ⟨po_32, pk_32, pj_32⟩ (pA_cons ⟨po_33, pk_33, pj_33⟩ (pA_cons ⟨po_34, pk_34, pj_34⟩ (pA_cons ⟨po_35, pk_35, pj_35⟩ (pA_cons ⟨po_36, pk_36, pj_36⟩ (pA_cons ⟨po_37, pk_37, pj_37⟩ (pA_cons ⟨po_38, pk_38, pj_38⟩ (pA_cons ⟨po_39, pk_39, pj_39⟩ (pA_cons ⟨po_40, pk_40, pj_40⟩ (pA_cons ⟨po_41, pk_41, pj_41⟩ (pA_cons ⟨po_42, pk_42, pj_42⟩ (pA_nil))))))))))))))
def pB_3 : List sMd := [pm_43, pm_44, pm_45, pm_46, pm_47, pm_48, pm_49, pm_50, pm_51, pm_52, pm_53, pm_54, pm_55, pm_56]
theorem pB_3_ok : ∀ M ∈ pB_3, pA M := pA_cons ⟨po_43, pk_43, pj_43⟩ (pA_cons ⟨po_44, pk_44, pj_44⟩ (pA_cons ⟨po_45, pk_45, pj_45⟩ (pA_cons ⟨po_46, pk_46, pj_46⟩ (pA_cons ⟨po_47, pk_47, pj_47⟩ (pA_cons ⟨po_48, pk_48, pj_48⟩ (pA_cons ⟨po_49, pk_49, pj_49⟩ (pA_cons ⟨po_50, pk_50, pj_50⟩ (pA_cons ⟨po_51, pk_51, pj_51⟩ (pA_cons ⟨po_52, pk_52, pj_52⟩ (pA_cons ⟨po_53, pk_53, pj_53⟩ (pA_cons ⟨po_54, pk_54, pj_54⟩ (pA_cons ⟨po_55, pk_55, pj_55⟩ (pA_cons ⟨po_56, pk_56, pj_56⟩ (pA_nil))))))))))))))
def pB_4 : List sMd := [pm_57, pm_58, pm_59, pm_60, pm_61, pm_62, pm_63, pm_64, pm_65, pm_66, pm_67, pm_68, pm_69, pm_70]
theorem pB_4_ok : ∀ M ∈ pB_4, pA M := pA_cons ⟨po_57, pk_57, pj_57⟩ (pA_cons ⟨po_58, pk_58, pj_58⟩ (pA_cons ⟨po_59, pk_59, pj_59⟩ (pA_cons ⟨po_60, pk_60, pj_60⟩ (pA_cons ⟨po_61, pk_61, pj_61⟩ (pA_cons ⟨po_62, pk_62, pj_62⟩ (pA_cons ⟨po_63, pk_63, pj_63⟩ (pA_cons ⟨po_64, pk_64, pj_64⟩ (pA_cons ⟨po_65, pk_65, pj_65⟩ (pA_cons ⟨po_66, pk_66, pj_66⟩ (pA_cons ⟨po_67, pk_67, pj_67⟩ (pA_cons ⟨po_68, pk_68, pj_68⟩ (pA_cons ⟨po_69, pk_69, pj_69⟩ (pA_cons ⟨po_70, pk_70, pj_70⟩ (pA_nil))))))))))))))
def pB_5 : List sMd := [pm_71, pm_72, pm_73, pm_74, pm_75, pm_76, pm_77, pm_78, pm_79, pm_80, pm_81, pm_82, pm_83, pm_84]
theorem pB_5_ok : ∀ M ∈ pB_5, pA M := pA_cons ⟨po_71, pk_71, pj_71⟩ (pA_cons ⟨po_72, pk_72, pj_72⟩ (pA_cons ⟨po_73, pk_73, pj_73⟩ (pA_cons ⟨po_74, pk_74, pj_74⟩ (pA_cons ⟨po_75, pk_75, pj_75⟩ (pA_cons ⟨po_76, pk_76, pj_76⟩ (pA_cons ⟨po_77, pk_77, pj_77⟩ (pA_cons ⟨po_78, pk_78, pj_78⟩ (pA_cons ⟨po_79, pk_79, pj_79⟩ (pA_cons ⟨po_80, pk_80, pj_80⟩ (pA_cons ⟨po_81, pk_81, pj_81⟩ (pA_cons ⟨po_82, pk_82, pj_82⟩ (pA_cons ⟨po_83, pk_83, pj_83⟩ (pA_cons ⟨po_84, pk_84, pj_84⟩ (pA_nil))))))))))))))
def pB_6 : List sMd := [pm_85, pm_86, pm_87, pm_88, pm_89, pm_90, pm_91, pm_92, pm_93, pm_94, pm_95, pm_96, pm_97, pm_98]
theorem pB_6_ok : ∀ M ∈ pB_6, pA M := pA_cons ⟨po_85, pk_85, pj_85⟩ (pA_cons ⟨po_86, pk_86, pj_86⟩ (pA_cons ⟨po_87, pk_87, pj_87⟩ (pA_cons ⟨po_88, pk_88, pj_88⟩ (pA_cons ⟨po_89, pk_89, pj_89⟩ (pA_cons ⟨po_90, pk_90, pj_90⟩ (pA_cons ⟨po_91, pk_91, pj_91⟩ (pA_cons ⟨po_92, pk_92, pj_92⟩ (pA_cons ⟨po_93, pk_93, pj_93⟩ (pA_cons ⟨po_94, pk_94, pj_94⟩ (pA_cons ⟨po_95, pk_95, pj_95⟩ (pA_cons ⟨po_96, pk_96, pj_96⟩ (pA_cons ⟨po_97, pk_97, pj_97⟩ (pA_cons ⟨po_98, pk_98, pj_98⟩ (pA_nil))))))))))))))
def pB_7 : List sMd := [pm_99, pm_100, pm_101, pm_102, pm_103, pm_104, pm_105, pm_106, pm_107, pm_108, pm_109, pm_110, pm_111, pm_112]
theorem pB_7_ok : ∀ M ∈ pB_7, pA M := pA_cons ⟨po_99, pk_99, pj_99⟩ (pA_cons ⟨po_100, pk_100, pj_100⟩ (pA_cons ⟨po_101, pk_101, pj_101⟩ (pA_cons ⟨po_102, pk_102, pj_102⟩ (pA_cons ⟨po_103, pk_103, pj_103⟩ (pA_cons ⟨po_104, pk_104, pj_104⟩ (pA_cons ⟨po_105, pk_105, pj_105⟩ (pA_cons ⟨po_106, pk_106, pj_106⟩ (pA_cons ⟨po_107, pk_107, pj_107⟩ (pA_cons ⟨po_108, pk_108, pj_108⟩ (pA_cons ⟨po_109, pk_109, pj_109⟩ (pA_cons ⟨po_110, pk_110, pj_110⟩ (pA_cons ⟨po_111, pk_111, pj_111⟩ (pA_cons ⟨po_112, pk_112, pj_112⟩ (pA_nil))))))))))))))
def pB_8 : List sMd := [pm_113, pm_114, pm_115, pm_116, pm_117, pm_118, pm_119, pm_120, pm_121, pm_122, pm_123, pm_124, pm_125, pm_126]
theorem pB_8_ok : ∀ M ∈ pB_8, pA M := pA_cons ⟨po_113, pk_113, pj_113⟩ (pA_cons ⟨po_114, pk_114, pj_114⟩ (pA_cons ⟨po_115, pk_115, pj_115⟩ (pA_cons ⟨po_116, pk_116, pj_116⟩ (pA_cons ⟨po_117, pk_117, pj_117⟩ (pA_cons ⟨po_118, pk_118, pj_118⟩ (pA_cons ⟨po_119, pk_119, pj_119⟩ (pA_cons ⟨po_120, pk_120, pj_120⟩ (pA_cons ⟨po_121, pk_121, pj_121⟩ (pA_cons ⟨po_122, pk_122, pj_122⟩ (pA_cons ⟨po_123, pk_123, pj_123⟩ (pA_cons ⟨po_124, pk_124, pj_124⟩ (pA_cons ⟨po_125, pk_125, pj_125⟩ (pA_cons ⟨po_126, pk_126, pj_126⟩ (pA_nil))))))))))))))
def pB_9 : List sMd := [pm_127, pm_128, pm_129, pm_130, pm_131, pm_132, pm_133, pm_134, pm_135, pm_136, pm_137, pm_138, pm_139, pm_140]
theorem pB_9_ok : ∀ M ∈ pB_9, pA M := pA_cons ⟨po_127, pk_127, pj_127⟩ (pA_cons ⟨po_128, pk_128, pj_128⟩ (pA_cons ⟨po_129, pk_129, pj_129⟩ (pA_cons ⟨po_130, pk_130, pj_130⟩ (pA_cons ⟨po_131, pk_131, pj_131⟩ (pA_cons ⟨po_132, pk_132, pj_132⟩ (pA_cons ⟨po_133, pk_133, pj_133⟩ (pA_cons ⟨po_134, pk_134, pj_134⟩ (pA_cons ⟨po_135, pk_135, pj_135⟩ (pA_cons ⟨po_136, pk_136, pj_136⟩ (pA_cons ⟨po_137, pk_137, pj_137⟩ (pA_cons ⟨po_138, pk_138, pj_138⟩ (pA_cons ⟨po_139, pk_139, pj_139⟩ (pA_cons ⟨po_140, pk_140, pj_140⟩ (pA_nil))))))))))))))
def pB_10 : List sMd := [pm_141, pm_142, pm_143, pm_144, pm_145, pm_146, pm_147, pm_148, pm_149, pm_150, pm_151, pm_152, pm_153, pm_154]
theorem pB_10_ok : ∀ M ∈ pB_10, pA M := pA_cons ⟨po_141, pk_141, pj_141⟩ (pA_cons ⟨po_142, pk_142, pj_142⟩ (pA_cons ⟨po_143, pk_143, pj_143⟩ (pA_cons ⟨po_144, pk_144, pj_144⟩ (pA_cons ⟨po_145, pk_145, pj_145⟩ (pA_cons ⟨po_146, pk_146, pj_146⟩ (pA_cons ⟨po_147, pk_147, pj_147⟩ (pA_cons ⟨po_148, pk_148, pj_148⟩ (pA_cons ⟨po_149, pk_149, pj_149⟩ (pA_cons ⟨po_150, pk_150, pj_150⟩ (pA_cons ⟨po_151, pk_151, pj_151⟩ (pA_cons ⟨po_152, pk_152, pj_152⟩ (pA_cons ⟨po_153, pk_153, pj_153⟩ (pA_cons ⟨po_154, pk_154, pj_154⟩ (pA_nil))))))))))))))
def pB_11 : List sMd := [pm_155, pm_156, pm_157, pm_158, pm_159, pm_160, pm_161, pm_162, pm_163, pm_164, pm_165, pm_166, pm_167, pm_168]
theorem pB_11_ok : ∀ M ∈ pB_11, pA M := pA_cons ⟨po_155, pk_155, pj_155⟩ (pA_cons ⟨po_156, pk_156, pj_156⟩ (pA_cons ⟨po_157, pk_157, pj_157⟩ (pA_cons ⟨po_158, pk_158, pj_158⟩ (pA_cons ⟨po_159, pk_159, pj_159⟩ (pA_cons ⟨po_160, pk_160, pj_160⟩ (pA_cons ⟨po_161, pk_161, pj_161⟩ (pA_cons ⟨po_162, pk_162, pj_162⟩ (pA_cons ⟨po_163, pk_163, pj_163⟩ (pA_cons ⟨po_164, pk_164, pj_164⟩ (pA_cons ⟨po_165, pk_165, pj_165⟩ (pA_cons ⟨po_166, pk_166, pj_166⟩ (pA_cons ⟨po_167, pk_167, pj_167⟩ (pA_cons ⟨po_168, pk_168, pj_168⟩ (pA_nil))))))))))))))
def pB_12 : List sMd := [pm_169, pm_170, pm_171, pm_172, pm_173, pm_174, pm_175, pm_176, pm_177, pm_178, pm_179, pm_180, pm_181, pm_182]
theorem pB_12_ok : ∀ M ∈ pB_12, pA M := pA_cons ⟨po_169, pk_169, pj_169⟩ (pA_cons ⟨po_170, pk_170, pj_170⟩ (pA_cons ⟨po_171, pk_171, pj_171⟩ (pA_cons ⟨po_172, pk_172, pj_172⟩ (pA_cons ⟨po_173, pk_173, pj_173⟩ (pA_cons ⟨po_174, pk_174, pj_174⟩ (pA_cons ⟨po_175, pk_175, pj_175⟩ (pA_cons ⟨po_176, pk_176, pj_176⟩ (pA_cons ⟨po_177, pk_177, pj_177⟩ (pA_cons ⟨po_178, pk_178, pj_178⟩ (pA_cons ⟨po_179, pk_179, pj_179⟩ (pA_cons ⟨po_180, pk_180, pj_180⟩ (pA_cons ⟨po_181, pk_181, pj_181⟩ (pA_cons ⟨po_182, pk_182, pj_182⟩ (pA_nil))))))))))))))
def pB_13 : List sMd := [pm_183, pm_184, pm_185, pm_186, pm_187, pm_188, pm_189, pm_190, pm_191, pm_192, pm_193, pm_194, pm_195, pm_196]
theorem pB_13_ok : ∀ M ∈ pB_13, pA M := pA_cons ⟨po_183, pk_183, pj_183⟩ (pA_cons ⟨po_184, pk_184, pj_184⟩ (pA_cons ⟨po_185, pk_185, pj_185⟩ (pA_cons ⟨po_186, pk_186, pj_186⟩ (pA_cons ⟨po_187, pk_187, pj_187⟩ (pA_cons ⟨po_188, pk_188, pj_188⟩ (pA_cons ⟨po_189, pk_189, pj_189⟩ (pA_cons ⟨po_190, pk_190, pj_190⟩ (pA_cons ⟨po_191, pk_191, pj_191⟩ (pA_cons ⟨po_192, pk_192, pj_192⟩ (pA_cons ⟨po_193, pk_193, pj_193⟩ (pA_cons ⟨po_194, pk_194, pj_194⟩ (pA_cons ⟨po_195, pk_195, pj_195⟩ (pA_cons ⟨po_196, pk_196, pj_196⟩ (pA_nil))))))))))))))
def pB_14 : List sMd := [pm_197, pm_198, pm_199, pm_200, pm_201, pm_202, pm_203, pm_204, pm_205, pm_206, pm_207, pm_208, pm_209, pm_210]
theorem pB_14_ok : ∀ M ∈ pB_14, pA M := pA_cons ⟨po_197, pk_197, pj_197⟩ (pA_cons ⟨po_198, pk_198, pj_198⟩ (pA_cons ⟨po_199, pk_199, pj_199⟩ (pA_cons ⟨po_200, pk_200, pj_200⟩ (pA_cons ⟨po_201, pk_201, pj_201⟩ (pA_cons ⟨po_202, pk_202, pj_202⟩ (pA_cons ⟨po_203, pk_203, pj_203⟩ (pA_cons ⟨po_204, pk_204, pj_204⟩ (pA_cons ⟨po_205, pk_205, pj_205⟩ (pA_cons ⟨po_206, pk_206, pj_206⟩ (pA_cons ⟨po_207, pk_207, pj_207⟩ (pA_cons ⟨po_208, pk_208, pj_208⟩ (pA_cons ⟨po_209, pk_209, pj_209⟩ (pA_cons ⟨po_210, pk_210, pj_210⟩ (pA_nil))))))))))))))
def pB_15 : List sMd := [pm_211, pm_212, pm_213, pm_214, pm_215, pm_216, pm_217, pm_218, pm_219, pm_220, pm_221, pm_222, pm_223, pm_224]
theorem pB_15_ok : ∀ M ∈ pB_15, pA M := pA_cons ⟨po_211, pk_211, pj_211⟩ (pA_cons ⟨po_212, pk_212, pj_212⟩ (pA_cons ⟨po_213, pk_213, pj_213⟩ (pA_cons ⟨po_214, pk_214, pj_214⟩ (pA_cons ⟨po_215, pk_215, pj_215⟩ (pA_cons ⟨po_216, pk_216, pj_216⟩ (pA_cons ⟨po_217, pk_217, pj_217⟩ (pA_cons ⟨po_218, pk_218, pj_218⟩ (pA_cons ⟨po_219, pk_219, pj_219⟩ (pA_cons ⟨po_220, pk_220, pj_220⟩ (pA_cons ⟨po_221, pk_221, pj_221⟩ (pA_cons ⟨po_222, pk_222, pj_222⟩ (pA_cons ⟨po_223, pk_223, pj_223⟩ (pA_cons ⟨po_224, pk_224, pj_224⟩ (pA_nil))))))))))))))
def pB_16 : List sMd := [pm_225, pm_226, pm_227, pm_228, pm_229, pm_230, pm_231, pm_232, pm_233, pm_234, pm_235, pm_236, pm_237, pm_238]
theorem pB_16_ok : ∀ M ∈ pB_16, pA M := pA_cons ⟨po_225, pk_225, pj_225⟩ (pA_cons ⟨po_226, pk_226, pj_226⟩ (pA_cons ⟨po_227, pk_227, pj_227⟩ (pA_cons ⟨po_228, pk_228, pj_228⟩ (pA_cons ⟨po_229, pk_229, pj_229⟩ (pA_cons ⟨po_230, pk_230, pj_230⟩ (pA_cons ⟨po_231, pk_231, pj_231⟩ (pA_cons ⟨po_232, pk_232, pj_232⟩ (pA_cons ⟨po_233, pk_233, pj_233⟩ (pA_cons ⟨po_234, pk_234, pj_234⟩ (pA_cons ⟨po_235, pk_235, pj_235⟩ (pA_cons ⟨po_236, pk_236, pj_236⟩ (pA_cons ⟨po_237, pk_237, pj_237⟩ (pA_cons ⟨po_238, pk_238, pj_238⟩ (pA_nil))))))))))))))
def pB_17 : List sMd := [pm_239, pm_240, pm_241, pm_242, pm_243, pm_244, pm_245, pm_246, pm_247, pm_248, pm_249, pm_250, pm_251, pm_252]
theorem pB_17_ok : ∀ M ∈ pB_17, pA M := pA_cons ⟨po_239, pk_239, pj_239⟩ (pA_cons ⟨po_240, pk_240, pj_240⟩ (pA_cons ⟨po_241, pk_241, pj_241⟩ (pA_cons ⟨po_242, pk_242, pj_242⟩ (pA_cons ⟨po_243, pk_243, pj_243⟩ (pA_cons ⟨po_244, pk_244, pj_244⟩ (pA_cons ⟨po_245, pk_245, pj_245⟩ (pA_cons ⟨po_246, pk_246, pj_246⟩ (pA_cons ⟨po_247, pk_247, pj_247⟩ (pA_cons ⟨po_248, pk_248, pj_248⟩ (pA_cons ⟨po_249, pk_249, pj_249⟩ (pA_cons ⟨po_250, pk_250, pj_250⟩ (pA_cons ⟨po_251, pk_251, pj_251⟩ (pA_cons ⟨po_252, pk_252, pj_252⟩ (pA_nil))))))))))))))
def pB_18 : List sMd := [pm_253, pm_254, pm_255, pm_256, pm_257, pm_258, pm_259, pm_260, pm_261, pm_262, pm_263, pm_264, pm_265, pm_266]
theorem pB_18_ok : ∀ M ∈ pB_18, pA M := pA_cons ⟨po_253, pk_253, pj_253⟩ (pA_cons ⟨po_254, pk_254, pj_254⟩ (pA_cons ⟨po_255, pk_255, pj_255⟩ (pA_cons ⟨po_256, pk_256, pj_256⟩ (pA_cons ⟨po_257, pk_257, pj_257⟩ (pA_cons ⟨po_258, pk_258, pj_258⟩ (pA_cons ⟨po_259, pk_259, pj_259⟩ (pA_cons ⟨po_260, pk_260, pj_260⟩ (pA_cons ⟨po_261, pk_261, pj_261⟩ (pA_cons ⟨po_262, pk_262, pj_262⟩ (pA_cons ⟨po_263, pk_263, pj_263⟩ (pA_cons ⟨po_264, pk_264, pj_264⟩ (pA_cons ⟨po_265, pk_265, pj_265⟩ (pA_cons ⟨po_266, pk_266, pj_266⟩ (pA_nil))))))))))))))
def pB_19 : List sMd := [pm_267, pm_268, pm_269, pm_270, pm_271, pm_272, pm_273, pm_274, pm_275, pm_276, pm_277, pm_278, pm_279, pm_280]
theorem pB_19_ok : ∀ M ∈ pB_19, pA M := pA_cons ⟨po_267, pk_267, pj_267⟩ (pA_cons ⟨po_268, pk_268, pj_268⟩ (pA_cons ⟨po_269, pk_269, pj_269⟩ (pA_cons ⟨po_270, pk_270, pj_270⟩ (pA_cons ⟨po_271, pk_271, pj_271⟩ (pA_cons ⟨po_272, pk_272, pj_272⟩ (pA_cons ⟨po_273, pk_273, pj_273⟩ (pA_cons ⟨po_274, pk_274, pj_274⟩ (pA_cons ⟨po_275, pk_275, pj_275⟩ (pA_cons ⟨po_276, pk_276, pj_276⟩ (pA_cons ⟨po_277, pk_277, pj_277⟩ (pA_cons ⟨po_278, pk_278, pj_278⟩ (pA_cons ⟨po_279, pk_279, pj_279⟩ (pA_cons ⟨po_280, pk_280, pj_280⟩ (pA_nil))))))))))))))
def pB_20 : List sMd := [pm_281, pm_282, pm_283, pm_284, pm_285, pm_286]
theorem pB_20_ok : ∀ M ∈ pB_20, pA M := pA_cons ⟨po_281, pk_281, pj_281⟩ (pA_cons ⟨po_282, pk_282, pj_282⟩ (pA_cons ⟨po_283, pk_283, pj_283⟩ (pA_cons ⟨po_284, pk_284, pj_284⟩ (pA_cons ⟨po_285, pk_285, pj_285⟩ (pA_cons ⟨po_286, pk_286, pj_286⟩ (pA_nil))))))
set_option maxRecDepth 100000 in
theorem pCut : pPT = pm_0 :: (pB_0 ++ (pB_1 ++ (pB_2 ++ (pB_3 ++ (pB_4 ++ (pB_5 ++ (pB_6 ++ (pB_7 ++ (pB_8 ++ (pB_9 ++ (pB_10 ++ (pB_11 ++ (pB_12 ++ (pB_13 ++ (pB_14 ++ (pB_15 ++ (pB_16 ++ (pB_17 ++ (pB_18 ++ (pB_19 ++ (pB_20))))))))))))))))))))) := rfl
theorem pTl : ∀ M ∈ (pB_0 ++ (pB_1 ++ (pB_2 ++ (pB_3 ++ (pB_4 ++ (pB_5 ++ (pB_6 ++ (pB_7 ++ (pB_8 ++ (pB_9 ++ (pB_10 ++ (pB_11 ++ (pB_12 ++ (pB_13 ++ (pB_14 ++ (pB_15 ++ (pB_16 ++ (pB_17 ++ (pB_18 ++ (pB_19 ++ (pB_20))))))))))))))))))))), pA M := pA_app pB_0_ok (pA_app pB_1_ok (pA_app pB_2_ok (pA_app pB_3_ok (pA_app pB_4_ok (pA_app pB_5_ok (pA_app pB_6_ok (pA_app pB_7_ok (pA_app pB_8_ok (pA_app pB_9_ok (pA_app pB_10_ok (pA_app pB_11_ok (pA_app pB_12_ok (pA_app pB_13_ok (pA_app pB_14_ok (pA_app pB_15_ok (pA_app pB_16_ok (pA_app pB_17_ok (pA_app pB_18_ok (pA_app pB_19_ok (pB_20_ok))))))))))))))))))))
theorem pOk1 (i : Nat) (M : sMd) (h : pPT[i]? = some M) : (i = 0 ∧ M = pm_0) ∨ (i ≠ 0 ∧ pA M) := by
  rw [pCut] at h
  cases i with
  | zero => exact Or.inl ⟨rfl, (Option.some.inj h).symm⟩
  | succ k => exact Or.inr ⟨Nat.succ_ne_zero k, pTl M (List.mem_of_getElem? (by simpa using h))⟩
theorem pOk : sOkP pPT := by
  refine ⟨fun i M h => ?_, fun i M h hi => ?_, fun i M h => ?_⟩
  · rcases pOk1 i M h with ⟨-, rfl⟩ | ⟨-, h⟩
    · exact po_0
    · exact h.1
  · rcases pOk1 i M h with ⟨h0, -⟩ | ⟨-, h⟩
    · exact absurd h0 hi
    · exact h.2.1
  · rcases pOk1 i M h with ⟨-, rfl⟩ | ⟨-, h⟩
    · exact pj_0
    · exact h.2.2
