/-! ===== the program's table ===== -/
theorem pj_0 : mH pm_0 ≠ [] → (mY pm_0).cls = "WavingDesksLaw" := fun h => (h rfl).elim
theorem pj_1 : mH pm_1 ≠ [] → (mY pm_1).cls = "WavingDesksLaw" := fun _ => rfl
theorem pj_2 : mH pm_2 ≠ [] → (mY pm_2).cls = "WavingDesksLaw" := fun _ => rfl
theorem pj_3 : mH pm_3 ≠ [] → (mY pm_3).cls = "WavingDesksLaw" := fun _ => rfl
theorem pj_4 : mH pm_4 ≠ [] → (mY pm_4).cls = "WavingDesksLaw" := fun _ => rfl
theorem pj_5 : mH pm_5 ≠ [] → (mY pm_5).cls = "WavingDesksLaw" := fun _ => rfl
theorem pj_6 : mH pm_6 ≠ [] → (mY pm_6).cls = "WavingDesksLaw" := fun _ => rfl
theorem pj_7 : mH pm_7 ≠ [] → (mY pm_7).cls = "WavingDesksLaw" := fun _ => rfl
theorem pj_8 : mH pm_8 ≠ [] → (mY pm_8).cls = "WavingDesksLaw" := fun _ => rfl
theorem pj_9 : mH pm_9 ≠ [] → (mY pm_9).cls = "WavingDesksLaw" := fun _ => rfl
theorem pj_10 : mH pm_10 ≠ [] → (mY pm_10).cls = "WavingDesksLaw" := fun _ => rfl
theorem pj_11 : mH pm_11 ≠ [] → (mY pm_11).cls = "WavingDesksLaw" := fun _ => rfl
theorem pj_12 : mH pm_12 ≠ [] → (mY pm_12).cls = "WavingDesksLaw" := fun _ => rfl
theorem pj_13 : mH pm_13 ≠ [] → (mY pm_13).cls = "WavingDesksLaw" := fun _ => rfl
theorem pj_14 : mH pm_14 ≠ [] → (mY pm_14).cls = "WavingDesksLaw" := fun _ => rfl
theorem pj_15 : mH pm_15 ≠ [] → (mY pm_15).cls = "WavingDesksLaw" := fun _ => rfl
theorem pj_16 : mH pm_16 ≠ [] → (mY pm_16).cls = "WavingDesksLaw" := fun _ => rfl
theorem pj_17 : mH pm_17 ≠ [] → (mY pm_17).cls = "WavingDesksLaw" := fun _ => rfl
theorem pj_18 : mH pm_18 ≠ [] → (mY pm_18).cls = "WavingDesksLaw" := fun _ => rfl
theorem pj_19 : mH pm_19 ≠ [] → (mY pm_19).cls = "WavingDesksLaw" := fun _ => rfl
theorem pj_20 : mH pm_20 ≠ [] → (mY pm_20).cls = "WavingDesksLaw" := fun _ => rfl
theorem pj_21 : mH pm_21 ≠ [] → (mY pm_21).cls = "WavingDesksLaw" := fun _ => rfl
theorem pj_22 : mH pm_22 ≠ [] → (mY pm_22).cls = "WavingDesksLaw" := fun _ => rfl
theorem pj_23 : mH pm_23 ≠ [] → (mY pm_23).cls = "WavingDesksLaw" := fun _ => rfl
theorem pj_24 : mH pm_24 ≠ [] → (mY pm_24).cls = "WavingDesksLaw" := fun h => (h rfl).elim
theorem pj_25 : mH pm_25 ≠ [] → (mY pm_25).cls = "WavingDesksLaw" := fun h => (h rfl).elim
theorem pj_26 : mH pm_26 ≠ [] → (mY pm_26).cls = "WavingDesksLaw" := fun h => (h rfl).elim
theorem pj_27 : mH pm_27 ≠ [] → (mY pm_27).cls = "WavingDesksLaw" := fun h => (h rfl).elim
theorem pj_28 : mH pm_28 ≠ [] → (mY pm_28).cls = "WavingDesksLaw" := fun h => (h rfl).elim
theorem pj_29 : mH pm_29 ≠ [] → (mY pm_29).cls = "WavingDesksLaw" := fun h => (h rfl).elim
theorem pj_30 : mH pm_30 ≠ [] → (mY pm_30).cls = "WavingDesksLaw" := fun h => (h rfl).elim
theorem pj_31 : mH pm_31 ≠ [] → (mY pm_31).cls = "WavingDesksLaw" := fun h => (h rfl).elim
theorem pj_32 : mH pm_32 ≠ [] → (mY pm_32).cls = "WavingDesksLaw" := fun h => (h rfl).elim
theorem pj_33 : mH pm_33 ≠ [] → (mY pm_33).cls = "WavingDesksLaw" := fun h => (h rfl).elim
theorem pj_34 : mH pm_34 ≠ [] → (mY pm_34).cls = "WavingDesksLaw" := fun h => (h rfl).elim
theorem pj_35 : mH pm_35 ≠ [] → (mY pm_35).cls = "WavingDesksLaw" := fun h => (h rfl).elim
theorem pj_36 : mH pm_36 ≠ [] → (mY pm_36).cls = "WavingDesksLaw" := fun h => (h rfl).elim
theorem pj_37 : mH pm_37 ≠ [] → (mY pm_37).cls = "WavingDesksLaw" := fun h => (h rfl).elim
theorem pj_38 : mH pm_38 ≠ [] → (mY pm_38).cls = "WavingDesksLaw" := fun h => (h rfl).elim
theorem pj_39 : mH pm_39 ≠ [] → (mY pm_39).cls = "WavingDesksLaw" := fun h => (h rfl).elim
theorem pj_40 : mH pm_40 ≠ [] → (mY pm_40).cls = "WavingDesksLaw" := fun h => (h rfl).elim
theorem pj_41 : mH pm_41 ≠ [] → (mY pm_41).cls = "WavingDesksLaw" := fun h => (h rfl).elim
theorem pj_42 : mH pm_42 ≠ [] → (mY pm_42).cls = "WavingDesksLaw" := fun h => (h rfl).elim
theorem pj_43 : mH pm_43 ≠ [] → (mY pm_43).cls = "WavingDesksLaw" := fun h => (h rfl).elim
theorem pj_44 : mH pm_44 ≠ [] → (mY pm_44).cls = "WavingDesksLaw" := fun h => (h rfl).elim
theorem pj_45 : mH pm_45 ≠ [] → (mY pm_45).cls = "WavingDesksLaw" := fun h => (h rfl).elim
theorem pj_46 : mH pm_46 ≠ [] → (mY pm_46).cls = "WavingDesksLaw" := fun h => (h rfl).elim
theorem pj_47 : mH pm_47 ≠ [] → (mY pm_47).cls = "WavingDesksLaw" := fun h => (h rfl).elim
theorem pj_48 : mH pm_48 ≠ [] → (mY pm_48).cls = "WavingDesksLaw" := fun h => (h rfl).elim
theorem pj_49 : mH pm_49 ≠ [] → (mY pm_49).cls = "WavingDesksLaw" := fun h => (h rfl).elim
theorem pj_50 : mH pm_50 ≠ [] → (mY pm_50).cls = "WavingDesksLaw" := fun h => (h rfl).elim
theorem pj_51 : mH pm_51 ≠ [] → (mY pm_51).cls = "WavingDesksLaw" := fun h => (h rfl).elim
theorem pj_52 : mH pm_52 ≠ [] → (mY pm_52).cls = "WavingDesksLaw" := fun h => (h rfl).elim
theorem pj_53 : mH pm_53 ≠ [] → (mY pm_53).cls = "WavingDesksLaw" := fun h => (h rfl).elim
theorem pj_54 : mH pm_54 ≠ [] → (mY pm_54).cls = "WavingDesksLaw" := fun h => (h rfl).elim
theorem pj_55 : mH pm_55 ≠ [] → (mY pm_55).cls = "WavingDesksLaw" := fun h => (h rfl).elim
theorem pj_56 : mH pm_56 ≠ [] → (mY pm_56).cls = "WavingDesksLaw" := fun h => (h rfl).elim
theorem pj_57 : mH pm_57 ≠ [] → (mY pm_57).cls = "WavingDesksLaw" := fun h => (h rfl).elim
theorem pj_58 : mH pm_58 ≠ [] → (mY pm_58).cls = "WavingDesksLaw" := fun h => (h rfl).elim
theorem pj_59 : mH pm_59 ≠ [] → (mY pm_59).cls = "WavingDesksLaw" := fun h => (h rfl).elim
theorem pj_60 : mH pm_60 ≠ [] → (mY pm_60).cls = "WavingDesksLaw" := fun h => (h rfl).elim
theorem pj_61 : mH pm_61 ≠ [] → (mY pm_61).cls = "WavingDesksLaw" := fun h => (h rfl).elim
theorem pj_62 : mH pm_62 ≠ [] → (mY pm_62).cls = "WavingDesksLaw" := fun h => (h rfl).elim
theorem pj_63 : mH pm_63 ≠ [] → (mY pm_63).cls = "WavingDesksLaw" := fun h => (h rfl).elim
theorem pj_64 : mH pm_64 ≠ [] → (mY pm_64).cls = "WavingDesksLaw" := fun h => (h rfl).elim
theorem pj_65 : mH pm_65 ≠ [] → (mY pm_65).cls = "WavingDesksLaw" := fun h => (h rfl).elim
theorem pj_66 : mH pm_66 ≠ [] → (mY pm_66).cls = "WavingDesksLaw" := fun h => (h rfl).elim
theorem pj_67 : mH pm_67 ≠ [] → (mY pm_67).cls = "WavingDesksLaw" := fun h => (h rfl).elim
theorem pj_68 : mH pm_68 ≠ [] → (mY pm_68).cls = "WavingDesksLaw" := fun h => (h rfl).elim
theorem pj_69 : mH pm_69 ≠ [] → (mY pm_69).cls = "WavingDesksLaw" := fun h => (h rfl).elim
theorem pj_70 : mH pm_70 ≠ [] → (mY pm_70).cls = "WavingDesksLaw" := fun h => (h rfl).elim
theorem pj_71 : mH pm_71 ≠ [] → (mY pm_71).cls = "WavingDesksLaw" := fun h => (h rfl).elim
theorem pj_72 : mH pm_72 ≠ [] → (mY pm_72).cls = "WavingDesksLaw" := fun h => (h rfl).elim
theorem pj_73 : mH pm_73 ≠ [] → (mY pm_73).cls = "WavingDesksLaw" := fun h => (h rfl).elim
theorem pj_74 : mH pm_74 ≠ [] → (mY pm_74).cls = "WavingDesksLaw" := fun h => (h rfl).elim
theorem pj_75 : mH pm_75 ≠ [] → (mY pm_75).cls = "WavingDesksLaw" := fun h => (h rfl).elim
theorem pj_76 : mH pm_76 ≠ [] → (mY pm_76).cls = "WavingDesksLaw" := fun h => (h rfl).elim
theorem pj_77 : mH pm_77 ≠ [] → (mY pm_77).cls = "WavingDesksLaw" := fun h => (h rfl).elim
theorem pj_78 : mH pm_78 ≠ [] → (mY pm_78).cls = "WavingDesksLaw" := fun h => (h rfl).elim
theorem pj_79 : mH pm_79 ≠ [] → (mY pm_79).cls = "WavingDesksLaw" := fun h => (h rfl).elim
theorem pj_80 : mH pm_80 ≠ [] → (mY pm_80).cls = "WavingDesksLaw" := fun h => (h rfl).elim
theorem pj_81 : mH pm_81 ≠ [] → (mY pm_81).cls = "WavingDesksLaw" := fun h => (h rfl).elim
theorem pj_82 : mH pm_82 ≠ [] → (mY pm_82).cls = "WavingDesksLaw" := fun h => (h rfl).elim
theorem pj_83 : mH pm_83 ≠ [] → (mY pm_83).cls = "WavingDesksLaw" := fun h => (h rfl).elim
theorem pj_84 : mH pm_84 ≠ [] → (mY pm_84).cls = "WavingDesksLaw" := fun h => (h rfl).elim
theorem pj_85 : mH pm_85 ≠ [] → (mY pm_85).cls = "WavingDesksLaw" := fun h => (h rfl).elim
theorem pj_86 : mH pm_86 ≠ [] → (mY pm_86).cls = "WavingDesksLaw" := fun h => (h rfl).elim
theorem pj_87 : mH pm_87 ≠ [] → (mY pm_87).cls = "WavingDesksLaw" := fun h => (h rfl).elim
theorem pj_88 : mH pm_88 ≠ [] → (mY pm_88).cls = "WavingDesksLaw" := fun h => (h rfl).elim
theorem pj_89 : mH pm_89 ≠ [] → (mY pm_89).cls = "WavingDesksLaw" := fun h => (h rfl).elim
theorem pj_90 : mH pm_90 ≠ [] → (mY pm_90).cls = "WavingDesksLaw" := fun h => (h rfl).elim
theorem pj_91 : mH pm_91 ≠ [] → (mY pm_91).cls = "WavingDesksLaw" := fun h => (h rfl).elim
theorem pj_92 : mH pm_92 ≠ [] → (mY pm_92).cls = "WavingDesksLaw" := fun h => (h rfl).elim
theorem pj_93 : mH pm_93 ≠ [] → (mY pm_93).cls = "WavingDesksLaw" := fun h => (h rfl).elim
theorem pj_94 : mH pm_94 ≠ [] → (mY pm_94).cls = "WavingDesksLaw" := fun h => (h rfl).elim
theorem pj_95 : mH pm_95 ≠ [] → (mY pm_95).cls = "WavingDesksLaw" := fun h => (h rfl).elim
theorem pj_96 : mH pm_96 ≠ [] → (mY pm_96).cls = "WavingDesksLaw" := fun h => (h rfl).elim
theorem pj_97 : mH pm_97 ≠ [] → (mY pm_97).cls = "WavingDesksLaw" := fun h => (h rfl).elim
theorem pj_98 : mH pm_98 ≠ [] → (mY pm_98).cls = "WavingDesksLaw" := fun h => (h rfl).elim
theorem pj_99 : mH pm_99 ≠ [] → (mY pm_99).cls = "WavingDesksLaw" := fun h => (h rfl).elim
theorem pj_100 : mH pm_100 ≠ [] → (mY pm_100).cls = "WavingDesksLaw" := fun h => (h rfl).elim
theorem pj_101 : mH pm_101 ≠ [] → (mY pm_101).cls = "WavingDesksLaw" := fun h => (h rfl).elim
theorem pj_102 : mH pm_102 ≠ [] → (mY pm_102).cls = "WavingDesksLaw" := fun h => (h rfl).elim
theorem pj_103 : mH pm_103 ≠ [] → (mY pm_103).cls = "WavingDesksLaw" := fun h => (h rfl).elim
theorem pj_104 : mH pm_104 ≠ [] → (mY pm_104).cls = "WavingDesksLaw" := fun h => (h rfl).elim
theorem pj_105 : mH pm_105 ≠ [] → (mY pm_105).cls = "WavingDesksLaw" := fun h => (h rfl).elim
theorem pj_106 : mH pm_106 ≠ [] → (mY pm_106).cls = "WavingDesksLaw" := fun h => (h rfl).elim
theorem pj_107 : mH pm_107 ≠ [] → (mY pm_107).cls = "WavingDesksLaw" := fun h => (h rfl).elim
theorem pj_108 : mH pm_108 ≠ [] → (mY pm_108).cls = "WavingDesksLaw" := fun h => (h rfl).elim
theorem pj_109 : mH pm_109 ≠ [] → (mY pm_109).cls = "WavingDesksLaw" := fun h => (h rfl).elim
theorem pj_110 : mH pm_110 ≠ [] → (mY pm_110).cls = "WavingDesksLaw" := fun h => (h rfl).elim
theorem pj_111 : mH pm_111 ≠ [] → (mY pm_111).cls = "WavingDesksLaw" := fun h => (h rfl).elim
theorem pj_112 : mH pm_112 ≠ [] → (mY pm_112).cls = "WavingDesksLaw" := fun h => (h rfl).elim
theorem pj_113 : mH pm_113 ≠ [] → (mY pm_113).cls = "WavingDesksLaw" := fun h => (h rfl).elim
theorem pj_114 : mH pm_114 ≠ [] → (mY pm_114).cls = "WavingDesksLaw" := fun h => (h rfl).elim
theorem pj_115 : mH pm_115 ≠ [] → (mY pm_115).cls = "WavingDesksLaw" := fun h => (h rfl).elim
theorem pj_116 : mH pm_116 ≠ [] → (mY pm_116).cls = "WavingDesksLaw" := fun h => (h rfl).elim
theorem pj_117 : mH pm_117 ≠ [] → (mY pm_117).cls = "WavingDesksLaw" := fun h => (h rfl).elim
theorem pj_118 : mH pm_118 ≠ [] → (mY pm_118).cls = "WavingDesksLaw" := fun h => (h rfl).elim
theorem pj_119 : mH pm_119 ≠ [] → (mY pm_119).cls = "WavingDesksLaw" := fun h => (h rfl).elim
theorem pj_120 : mH pm_120 ≠ [] → (mY pm_120).cls = "WavingDesksLaw" := fun h => (h rfl).elim
theorem pj_121 : mH pm_121 ≠ [] → (mY pm_121).cls = "WavingDesksLaw" := fun h => (h rfl).elim
theorem pj_122 : mH pm_122 ≠ [] → (mY pm_122).cls = "WavingDesksLaw" := fun h => (h rfl).elim
theorem pj_123 : mH pm_123 ≠ [] → (mY pm_123).cls = "WavingDesksLaw" := fun h => (h rfl).elim
theorem pj_124 : mH pm_124 ≠ [] → (mY pm_124).cls = "WavingDesksLaw" := fun h => (h rfl).elim
theorem pj_125 : mH pm_125 ≠ [] → (mY pm_125).cls = "WavingDesksLaw" := fun h => (h rfl).elim
theorem pj_126 : mH pm_126 ≠ [] → (mY pm_126).cls = "WavingDesksLaw" := fun h => (h rfl).elim
theorem pj_127 : mH pm_127 ≠ [] → (mY pm_127).cls = "WavingDesksLaw" := fun h => (h rfl).elim
theorem pj_128 : mH pm_128 ≠ [] → (mY pm_128).cls = "WavingDesksLaw" := fun h => (h rfl).elim
theorem pj_129 : mH pm_129 ≠ [] → (mY pm_129).cls = "WavingDesksLaw" := fun h => (h rfl).elim
theorem pj_130 : mH pm_130 ≠ [] → (mY pm_130).cls = "WavingDesksLaw" := fun h => (h rfl).elim
theorem pj_131 : mH pm_131 ≠ [] → (mY pm_131).cls = "WavingDesksLaw" := fun h => (h rfl).elim
theorem pj_132 : mH pm_132 ≠ [] → (mY pm_132).cls = "WavingDesksLaw" := fun h => (h rfl).elim
theorem pj_133 : mH pm_133 ≠ [] → (mY pm_133).cls = "WavingDesksLaw" := fun h => (h rfl).elim
theorem pj_134 : mH pm_134 ≠ [] → (mY pm_134).cls = "WavingDesksLaw" := fun h => (h rfl).elim
theorem pj_135 : mH pm_135 ≠ [] → (mY pm_135).cls = "WavingDesksLaw" := fun h => (h rfl).elim
theorem pj_136 : mH pm_136 ≠ [] → (mY pm_136).cls = "WavingDesksLaw" := fun h => (h rfl).elim
theorem pj_137 : mH pm_137 ≠ [] → (mY pm_137).cls = "WavingDesksLaw" := fun h => (h rfl).elim
theorem pj_138 : mH pm_138 ≠ [] → (mY pm_138).cls = "WavingDesksLaw" := fun h => (h rfl).elim
theorem pj_139 : mH pm_139 ≠ [] → (mY pm_139).cls = "WavingDesksLaw" := fun h => (h rfl).elim
theorem pj_140 : mH pm_140 ≠ [] → (mY pm_140).cls = "WavingDesksLaw" := fun h => (h rfl).elim
theorem pj_141 : mH pm_141 ≠ [] → (mY pm_141).cls = "WavingDesksLaw" := fun h => (h rfl).elim
theorem pj_142 : mH pm_142 ≠ [] → (mY pm_142).cls = "WavingDesksLaw" := fun h => (h rfl).elim
theorem pj_143 : mH pm_143 ≠ [] → (mY pm_143).cls = "WavingDesksLaw" := fun h => (h rfl).elim
theorem pj_144 : mH pm_144 ≠ [] → (mY pm_144).cls = "WavingDesksLaw" := fun h => (h rfl).elim
theorem pj_145 : mH pm_145 ≠ [] → (mY pm_145).cls = "WavingDesksLaw" := fun h => (h rfl).elim
theorem pj_146 : mH pm_146 ≠ [] → (mY pm_146).cls = "WavingDesksLaw" := fun h => (h rfl).elim
theorem pj_147 : mH pm_147 ≠ [] → (mY pm_147).cls = "WavingDesksLaw" := fun h => (h rfl).elim
theorem pj_148 : mH pm_148 ≠ [] → (mY pm_148).cls = "WavingDesksLaw" := fun h => (h rfl).elim
theorem pj_149 : mH pm_149 ≠ [] → (mY pm_149).cls = "WavingDesksLaw" := fun h => (h rfl).elim
theorem pj_150 : mH pm_150 ≠ [] → (mY pm_150).cls = "WavingDesksLaw" := fun h => (h rfl).elim
theorem pj_151 : mH pm_151 ≠ [] → (mY pm_151).cls = "WavingDesksLaw" := fun h => (h rfl).elim
theorem pj_152 : mH pm_152 ≠ [] → (mY pm_152).cls = "WavingDesksLaw" := fun h => (h rfl).elim
theorem pj_153 : mH pm_153 ≠ [] → (mY pm_153).cls = "WavingDesksLaw" := fun h => (h rfl).elim
def pA (M : sMd) : Prop := sOkT pPT M = true ∧ sOkQ M ∧ (mH M ≠ [] → (mY M).cls = "WavingDesksLaw")
theorem pA_nil : ∀ M ∈ ([] : List sMd), pA M := fun M h => by cases h
theorem pA_cons {a : sMd} {l : List sMd} (h : pA a) (t : ∀ M ∈ l, pA M) : ∀ M ∈ a :: l, pA M := fun M hM => by
  rcases List.mem_cons.mp hM with rfl | hM
  · exact h
  · exact t M hM
theorem pA_app {k l : List sMd} (h : ∀ M ∈ k, pA M) (t : ∀ M ∈ l, pA M) : ∀ M ∈ k ++ l, pA M := fun M hM => by
  rcases List.mem_append.mp hM with hM | hM
  · exact h M hM
  · exact t M hM
def pB_0 : List sMd := [pm_1, pm_2, pm_3, pm_4, pm_5, pm_6, pm_7, pm_8, pm_9, pm_10, pm_11, pm_12, pm_13, pm_14]
theorem pB_0_ok : ∀ M ∈ pB_0, pA M := pA_cons ⟨po_1, pk_1, pj_1⟩ (pA_cons ⟨po_2, pk_2, pj_2⟩ (pA_cons ⟨po_3, pk_3, pj_3⟩ (pA_cons ⟨po_4, pk_4, pj_4⟩ (pA_cons ⟨po_5, pk_5, pj_5⟩ (pA_cons ⟨po_6, pk_6, pj_6⟩ (pA_cons ⟨po_7, pk_7, pj_7⟩ (pA_cons ⟨po_8, pk_8, pj_8⟩ (pA_cons ⟨po_9, pk_9, pj_9⟩ (pA_cons ⟨po_10, pk_10, pj_10⟩ (pA_cons ⟨po_11, pk_11, pj_11⟩ (pA_cons ⟨po_12, pk_12, pj_12⟩ (pA_cons ⟨po_13, pk_13, pj_13⟩ (pA_cons ⟨po_14, pk_14, pj_14⟩ (pA_nil))))))))))))))
def pB_1 : List sMd := [pm_15, pm_16, pm_17, pm_18, pm_19, pm_20, pm_21, pm_22, pm_23, pm_24, pm_25, pm_26, pm_27, pm_28]
theorem pB_1_ok : ∀ M ∈ pB_1, pA M := pA_cons ⟨po_15, pk_15, pj_15⟩ (pA_cons ⟨po_16, pk_16, pj_16⟩ (pA_cons ⟨po_17, pk_17, pj_17⟩ (pA_cons ⟨po_18, pk_18, pj_18⟩ (pA_cons ⟨po_19, pk_19, pj_19⟩ (pA_cons ⟨po_20, pk_20, pj_20⟩ (pA_cons ⟨po_21, pk_21, pj_21⟩ (pA_cons ⟨po_22, pk_22, pj_22⟩ (pA_cons ⟨po_23, pk_23, pj_23⟩ (pA_cons ⟨po_24, pk_24, pj_24⟩ (pA_cons ⟨po_25, pk_25, pj_25⟩ (pA_cons ⟨po_26, pk_26, pj_26⟩ (pA_cons ⟨po_27, pk_27, pj_27⟩ (pA_cons ⟨po_28, pk_28, pj_28⟩ (pA_nil))))))))))))))
def pB_2 : List sMd := [pm_29, pm_30, pm_31, pm_32, pm_33, pm_34, pm_35, pm_36, pm_37, pm_38, pm_39, pm_40, pm_41, pm_42]
theorem pB_2_ok : ∀ M ∈ pB_2, pA M := pA_cons ⟨po_29, pk_29, pj_29⟩ (pA_cons ⟨po_30, pk_30, pj_30⟩ (pA_cons ⟨po_31, pk_31, pj_31⟩ (pA_cons ⟨po_32, pk_32, pj_32⟩ (pA_cons ⟨po_33, pk_33, pj_33⟩ (pA_cons ⟨po_34, pk_34, pj_34⟩ (pA_cons ⟨po_35, pk_35, pj_35⟩ (pA_cons ⟨po_36, pk_36, pj_36⟩ (pA_cons ⟨po_37, pk_37, pj_37⟩ (pA_cons ⟨po_38, pk_38, pj_38⟩ (pA_cons ⟨po_39, pk_39, pj_39⟩ (pA_cons ⟨po_40, pk_40, pj_40⟩ (pA_cons ⟨po_41, pk_41, pj_41⟩ (pA_cons ⟨po_42, pk_42, pj_42⟩ (pA_nil))))))))))))))
def pB_3 : List sMd := [pm_43, pm_44, pm_45, pm_46, pm_47, pm_48, pm_49, pm_50, pm_51, pm_52, pm_53, pm_54, pm_55, pm_56]
theorem pB_3_ok : ∀ M ∈ pB_3, pA M := pA_cons ⟨po_43, pk_43, pj_43⟩ (pA_cons ⟨po_44, pk_44, pj_44⟩ (pA_cons ⟨po_45, pk_45, pj_45⟩ (pA_cons ⟨po_46, pk_46, pj_46⟩ (pA_cons ⟨po_47, pk_47, pj_47⟩ (pA_cons ⟨po_48, pk_48, pj_48⟩ (pA_cons ⟨po_49, pk_49, pj_49⟩ (pA_cons ⟨po_50, pk_50, pj_50⟩ (pA_cons ⟨po_51, pk_51, pj_51⟩ (pA_cons ⟨po_52, pk_52, pj_52⟩ (pA_cons ⟨po_53, pk_53, pj_53⟩ (pA_cons ⟨po_54, pk_54, pj_54⟩ (pA_cons ⟨po_55, pk_55, pj_55⟩ (pA_cons ⟨po_56, pk_56, pj_56⟩ (pA_nil))))))))))))))
def pB_4 : List sMd := [pm_57, pm_58, pm_59, pm_60, pm_61, pm_62, pm_63, pm_64, pm_65, pm_66, pm_67, pm_68, pm_69, pm_70]
theorem pB_4_ok : ∀ M ∈ pB_4, pA M := pA_cons ⟨po_57, pk_57, pj_57⟩ (pA_cons ⟨po_58, pk_58, pj_58⟩ (pA_cons ⟨po_59, pk_59, pj_59⟩ (pA_cons ⟨po_60, pk_60, pj_60⟩ (pA_cons ⟨po_61, pk_61, pj_61⟩ (pA_cons ⟨po_62, pk_62, pj_62⟩ (pA_cons ⟨po_63, pk_63, pj_63⟩ (pA_cons ⟨po_64, pk_64, pj_64⟩ (pA_cons ⟨po_65, pk_65, pj_65⟩ (pA_cons ⟨po_66, pk_66, pj_66⟩ (pA_cons ⟨po_67, pk_67, pj_67⟩ (pA_cons ⟨po_68, pk_68, pj_68⟩ (pA_cons ⟨po_69, pk_69, pj_69⟩ (pA_cons ⟨po_70, pk_70, pj_70⟩ (pA_nil))))))))))))))
def pB_5 : List sMd := [pm_71, pm_72, pm_73, pm_74, pm_75, pm_76, pm_77, pm_78, pm_79, pm_80, pm_81, pm_82, pm_83, pm_84]
theorem pB_5_ok : ∀ M ∈ pB_5, pA M := pA_cons ⟨po_71, pk_71, pj_71⟩ (pA_cons ⟨po_72, pk_72, pj_72⟩ (pA_cons ⟨po_73, pk_73, pj_73⟩ (pA_cons ⟨po_74, pk_74, pj_74⟩ (pA_cons ⟨po_75, pk_75, pj_75⟩ (pA_cons ⟨po_76, pk_76, pj_76⟩ (pA_cons ⟨po_77, pk_77, pj_77⟩ (pA_cons ⟨po_78, pk_78, pj_78⟩ (pA_cons ⟨po_79, pk_79, pj_79⟩ (pA_cons ⟨po_80, pk_80, pj_80⟩ (pA_cons ⟨po_81, pk_81, pj_81⟩ (pA_cons ⟨po_82, pk_82, pj_82⟩ (pA_cons ⟨po_83, pk_83, pj_83⟩ (pA_cons ⟨po_84, pk_84, pj_84⟩ (pA_nil))))))))))))))
def pB_6 : List sMd := [pm_85, pm_86, pm_87, pm_88, pm_89, pm_90, pm_91, pm_92, pm_93, pm_94, pm_95, pm_96, pm_97, pm_98]
theorem pB_6_ok : ∀ M ∈ pB_6, pA M := pA_cons ⟨po_85, pk_85, pj_85⟩ (pA_cons ⟨po_86, pk_86, pj_86⟩ (pA_cons ⟨po_87, pk_87, pj_87⟩ (pA_cons ⟨po_88, pk_88, pj_88⟩ (pA_cons ⟨po_89, pk_89, pj_89⟩ (pA_cons ⟨po_90, pk_90, pj_90⟩ (pA_cons ⟨po_91, pk_91, pj_91⟩ (pA_cons ⟨po_92, pk_92, pj_92⟩ (pA_cons ⟨po_93, pk_93, pj_93⟩ (pA_cons ⟨po_94, pk_94, pj_94⟩ (pA_cons ⟨po_95, pk_95, pj_95⟩ (pA_cons ⟨po_96, pk_96, pj_96⟩ (pA_cons ⟨po_97, pk_97, pj_97⟩ (pA_cons ⟨po_98, pk_98, pj_98⟩ (pA_nil))))))))))))))
def pB_7 : List sMd := [pm_99, pm_100, pm_101, pm_102, pm_103, pm_104, pm_105, pm_106, pm_107, pm_108, pm_109, pm_110, pm_111, pm_112]
theorem pB_7_ok : ∀ M ∈ pB_7, pA M := pA_cons ⟨po_99, pk_99, pj_99⟩ (pA_cons ⟨po_100, pk_100, pj_100⟩ (pA_cons ⟨po_101, pk_101, pj_101⟩ (pA_cons ⟨po_102, pk_102, pj_102⟩ (pA_cons ⟨po_103, pk_103, pj_103⟩ (pA_cons ⟨po_104, pk_104, pj_104⟩ (pA_cons ⟨po_105, pk_105, pj_105⟩ (pA_cons ⟨po_106, pk_106, pj_106⟩ (pA_cons ⟨po_107, pk_107, pj_107⟩ (pA_cons ⟨po_108, pk_108, pj_108⟩ (pA_cons ⟨po_109, pk_109, pj_109⟩ (pA_cons ⟨po_110, pk_110, pj_110⟩ (pA_cons ⟨po_111, pk_111, pj_111⟩ (pA_cons ⟨po_112, pk_112, pj_112⟩ (pA_nil))))))))))))))
def pB_8 : List sMd := [pm_113, pm_114, pm_115, pm_116, pm_117, pm_118, pm_119, pm_120, pm_121, pm_122, pm_123, pm_124, pm_125, pm_126]
theorem pB_8_ok : ∀ M ∈ pB_8, pA M := pA_cons ⟨po_113, pk_113, pj_113⟩ (pA_cons ⟨po_114, pk_114, pj_114⟩ (pA_cons ⟨po_115, pk_115, pj_115⟩ (pA_cons ⟨po_116, pk_116, pj_116⟩ (pA_cons ⟨po_117, pk_117, pj_117⟩ (pA_cons ⟨po_118, pk_118, pj_118⟩ (pA_cons ⟨po_119, pk_119, pj_119⟩ (pA_cons ⟨po_120, pk_120, pj_120⟩ (pA_cons ⟨po_121, pk_121, pj_121⟩ (pA_cons ⟨po_122, pk_122, pj_122⟩ (pA_cons ⟨po_123, pk_123, pj_123⟩ (pA_cons ⟨po_124, pk_124, pj_124⟩ (pA_cons ⟨po_125, pk_125, pj_125⟩ (pA_cons ⟨po_126, pk_126, pj_126⟩ (pA_nil))))))))))))))
def pB_9 : List sMd := [pm_127, pm_128, pm_129, pm_130, pm_131, pm_132, pm_133, pm_134, pm_135, pm_136, pm_137, pm_138, pm_139, pm_140]
theorem pB_9_ok : ∀ M ∈ pB_9, pA M := pA_cons ⟨po_127, pk_127, pj_127⟩ (pA_cons ⟨po_128, pk_128, pj_128⟩ (pA_cons ⟨po_129, pk_129, pj_129⟩ (pA_cons ⟨po_130, pk_130, pj_130⟩ (pA_cons ⟨po_131, pk_131, pj_131⟩ (pA_cons ⟨po_132, pk_132, pj_132⟩ (pA_cons ⟨po_133, pk_133, pj_133⟩ (pA_cons ⟨po_134, pk_134, pj_134⟩ (pA_cons ⟨po_135, pk_135, pj_135⟩ (pA_cons ⟨po_136, pk_136, pj_136⟩ (pA_cons ⟨po_137, pk_137, pj_137⟩ (pA_cons ⟨po_138, pk_138, pj_138⟩ (pA_cons ⟨po_139, pk_139, pj_139⟩ (pA_cons ⟨po_140, pk_140, pj_140⟩ (pA_nil))))))))))))))
def pB_10 : List sMd := [pm_141, pm_142, pm_143, pm_144, pm_145, pm_146, pm_147, pm_148, pm_149, pm_150, pm_151, pm_152, pm_153]
theorem pB_10_ok : ∀ M ∈ pB_10, pA M := pA_cons ⟨po_141, pk_141, pj_141⟩ (pA_cons ⟨po_142, pk_142, pj_142⟩ (pA_cons ⟨po_143, pk_143, pj_143⟩ (pA_cons ⟨po_144, pk_144, pj_144⟩ (pA_cons ⟨po_145, pk_145, pj_145⟩ (pA_cons ⟨po_146, pk_146, pj_146⟩ (pA_cons ⟨po_147, pk_147, pj_147⟩ (pA_cons ⟨po_148, pk_148, pj_148⟩ (pA_cons ⟨po_149, pk_149, pj_149⟩ (pA_cons ⟨po_150, pk_150, pj_150⟩ (pA_cons ⟨po_151, pk_151, pj_151⟩ (pA_cons ⟨po_152, pk_152, pj_152⟩ (pA_cons ⟨po_153, pk_153, pj_153⟩ (pA_nil)))))))))))))
set_option maxRecDepth 100000 in
theorem pCut : pPT = pm_0 :: (pB_0 ++ (pB_1 ++ (pB_2 ++ (pB_3 ++ (pB_4 ++ (pB_5 ++ (pB_6 ++ (pB_7 ++ (pB_8 ++ (pB_9 ++ (pB_10))))))))))) := rfl
theorem pTl : ∀ M ∈ (pB_0 ++ (pB_1 ++ (pB_2 ++ (pB_3 ++ (pB_4 ++ (pB_5 ++ (pB_6 ++ (pB_7 ++ (pB_8 ++ (pB_9 ++ (pB_10))))))))))), pA M := pA_app pB_0_ok (pA_app pB_1_ok (pA_app pB_2_ok (pA_app pB_3_ok (pA_app pB_4_ok (pA_app pB_5_ok (pA_app pB_6_ok (pA_app pB_7_ok (pA_app pB_8_ok (pA_app pB_9_ok (pB_10_ok))))))))))
theorem pOk1 (i : Nat) (M : sMd) (h : pPT[i]? = some M) : (i = 0 ∧ M = pm_0) ∨ (i ≠ 0 ∧ pA M) := by
  rw [pCut] at h
  cases i with
  | zero => exact Or.inl ⟨rfl, (Option.some.inj h).symm⟩
  | succ k => exact Or.inr ⟨Nat.succ_ne_zero k, pTl M (List.mem_of_getElem? (by simpa using h))⟩
theorem pOk : sOkP pPT := by
  refine ⟨fun i M h => ?_, fun i M h hi => ?_, fun i M h => ?_⟩
  · rcases pOk1 i M h with ⟨-, rfl⟩ | ⟨-, h⟩
    · exact po_0
    · exact h.1
  · rcases pOk1 i M h with ⟨h0, -⟩ | ⟨-, h⟩
    · exact absurd h0 hi
    · exact h.2.1
  · rcases pOk1 i M h with ⟨-, rfl⟩ | ⟨-, h⟩
    · exact pj_0
    · exact h.2.2
