theorem wt4_64 : (Cond.fieldLink "MacroReckonerModel" 23 "MacroReckonerModel" "length" "[I") ∈ wg := List.mem_filter.mpr ⟨List.mem_append_right _ (List.mem_append_right _ (List.mem_append_right _ (List.mem_append_right _ (List.mem_append_left _ (List.mem_of_getElem? (i := 64) rfl))))), rfl⟩
theorem wt4_65 : (Cond.fieldLink "MacroReckonerModel" 26 "MacroReckonerModel" "body" "[I") ∈ wg := List.mem_filter.mpr ⟨List.mem_append_right _ (List.mem_append_right _ (List.mem_append_right _ (List.mem_append_right _ (List.mem_append_left _ (List.mem_of_getElem? (i := 65) rfl))))), rfl⟩
theorem wt4_66 : (Cond.fieldLink "MacroReckonerModel" 83 "MacroReckonerModel" "height" "I") ∈ wg := List.mem_filter.mpr ⟨List.mem_append_right _ (List.mem_append_right _ (List.mem_append_right _ (List.mem_append_right _ (List.mem_append_left _ (List.mem_of_getElem? (i := 66) rfl))))), rfl⟩
theorem wt4_67 : (Cond.fieldLink "MacroReckonerModel" 98 "MacroReckonerModel" "k" "I") ∈ wg := List.mem_filter.mpr ⟨List.mem_append_right _ (List.mem_append_right _ (List.mem_append_right _ (List.mem_append_right _ (List.mem_append_left _ (List.mem_of_getElem? (i := 67) rfl))))), rfl⟩
theorem wt4_68 : (Cond.fieldLink "MacroReckonerModel" 120 "MacroReckonerModel" "texts" "I") ∈ wg := List.mem_filter.mpr ⟨List.mem_append_right _ (List.mem_append_right _ (List.mem_append_right _ (List.mem_append_right _ (List.mem_append_left _ (List.mem_of_getElem? (i := 68) rfl))))), rfl⟩
theorem wt4_69 : (Cond.fieldLink "MacroReckonerModel" 29 "MacroReckonerModel" "runFrom" "[I") ∈ wg := List.mem_filter.mpr ⟨List.mem_append_right _ (List.mem_append_right _ (List.mem_append_right _ (List.mem_append_right _ (List.mem_append_left _ (List.mem_of_getElem? (i := 69) rfl))))), rfl⟩
theorem wt4_70 : (Cond.fieldLink "MacroReckonerModel" 32 "MacroReckonerModel" "runTo" "[I") ∈ wg := List.mem_filter.mpr ⟨List.mem_append_right _ (List.mem_append_right _ (List.mem_append_right _ (List.mem_append_right _ (List.mem_append_left _ (List.mem_of_getElem? (i := 70) rfl))))), rfl⟩
theorem wt4_71 : (Cond.fieldLink "MacroReckonerModel" 35 "MacroReckonerModel" "runText" "[I") ∈ wg := List.mem_filter.mpr ⟨List.mem_append_right _ (List.mem_append_right _ (List.mem_append_right _ (List.mem_append_right _ (List.mem_append_left _ (List.mem_of_getElem? (i := 71) rfl))))), rfl⟩
theorem wt4_72 : (Cond.fieldLink "MacroReckonerModel" 114 "MacroReckonerModel" "printed" "I") ∈ wg := List.mem_filter.mpr ⟨List.mem_append_right _ (List.mem_append_right _ (List.mem_append_right _ (List.mem_append_right _ (List.mem_append_left _ (List.mem_of_getElem? (i := 72) rfl))))), rfl⟩
theorem wt4_73 : (Cond.fieldLink "MacroReckonerModel" 38 "MacroReckonerModel" "page" "[I") ∈ wg := List.mem_filter.mpr ⟨List.mem_append_right _ (List.mem_append_right _ (List.mem_append_right _ (List.mem_append_right _ (List.mem_append_left _ (List.mem_of_getElem? (i := 73) rfl))))), rfl⟩
theorem wt4_74 : (Cond.fieldLink "MacroReckonerModel" 135 "MacroReckonerModel" "token" "I") ∈ wg := List.mem_filter.mpr ⟨List.mem_append_right _ (List.mem_append_right _ (List.mem_append_right _ (List.mem_append_right _ (List.mem_append_left _ (List.mem_of_getElem? (i := 74) rfl))))), rfl⟩
theorem wt4_75 : (Cond.fieldLink "MacroReckonerModel" 126 "MacroReckonerModel" "from" "I") ∈ wg := List.mem_filter.mpr ⟨List.mem_append_right _ (List.mem_append_right _ (List.mem_append_right _ (List.mem_append_right _ (List.mem_append_left _ (List.mem_of_getElem? (i := 75) rfl))))), rfl⟩
theorem wt4_76 : (Cond.fieldLink "MacroReckonerModel" 132 "MacroReckonerModel" "to" "I") ∈ wg := List.mem_filter.mpr ⟨List.mem_append_right _ (List.mem_append_right _ (List.mem_append_right _ (List.mem_append_right _ (List.mem_append_left _ (List.mem_of_getElem? (i := 76) rfl))))), rfl⟩
theorem wt4_77 : (Cond.fieldLink "MacroReckonerModel" 41 "MacroReckonerModel" "taken" "[I") ∈ wg := List.mem_filter.mpr ⟨List.mem_append_right _ (List.mem_append_right _ (List.mem_append_right _ (List.mem_append_right _ (List.mem_append_left _ (List.mem_of_getElem? (i := 77) rfl))))), rfl⟩
theorem wt4_78 : (Cond.fieldLink "MacroReckonerModel" 154 "MacroReckonerModel" "takenLength" "I") ∈ wg := List.mem_filter.mpr ⟨List.mem_append_right _ (List.mem_append_right _ (List.mem_append_right _ (List.mem_append_right _ (List.mem_append_left _ (List.mem_of_getElem? (i := 78) rfl))))), rfl⟩
theorem wt4_79 : (Cond.fieldLink "MacroReckonerModel" 44 "MacroReckonerModel" "digits" "[I") ∈ wg := List.mem_filter.mpr ⟨List.mem_append_right _ (List.mem_append_right _ (List.mem_append_right _ (List.mem_append_right _ (List.mem_append_left _ (List.mem_of_getElem? (i := 79) rfl))))), rfl⟩
theorem wt4_80 : (Cond.fieldLink "MacroReckonerModel" 47 "MacroReckonerModel" "size" "[I") ∈ wg := List.mem_filter.mpr ⟨List.mem_append_right _ (List.mem_append_right _ (List.mem_append_right _ (List.mem_append_right _ (List.mem_append_left _ (List.mem_of_getElem? (i := 80) rfl))))), rfl⟩
theorem wt4_81 : (Cond.lays "MacroReckonerModel" "MacroReckonerModel" "fault" "I") ∈ wg := List.mem_filter.mpr ⟨List.mem_append_right _ (List.mem_append_right _ (List.mem_append_right _ (List.mem_append_right _ (List.mem_append_left _ (List.mem_of_getElem? (i := 81) rfl))))), rfl⟩
theorem wt4_83 : (Cond.lays "MacroReckonerModel" "MacroReckonerModel" "left" "I") ∈ wg := List.mem_filter.mpr ⟨List.mem_append_right _ (List.mem_append_right _ (List.mem_append_right _ (List.mem_append_right _ (List.mem_append_left _ (List.mem_of_getElem? (i := 83) rfl))))), rfl⟩
theorem wt4_85 : (Cond.laysFinal "MacroReckonerModel" "MacroReckonerModel" "input" "[I") ∈ wg := List.mem_filter.mpr ⟨List.mem_append_right _ (List.mem_append_right _ (List.mem_append_right _ (List.mem_append_right _ (List.mem_append_left _ (List.mem_of_getElem? (i := 85) rfl))))), rfl⟩
theorem wt4_87 : (Cond.laysFinal "MacroReckonerModel" "MacroReckonerModel" "isText" "[Z") ∈ wg := List.mem_filter.mpr ⟨List.mem_append_right _ (List.mem_append_right _ (List.mem_append_right _ (List.mem_append_right _ (List.mem_append_left _ (List.mem_of_getElem? (i := 87) rfl))))), rfl⟩
theorem wt4_89 : (Cond.laysFinal "MacroReckonerModel" "MacroReckonerModel" "sign" "[I") ∈ wg := List.mem_filter.mpr ⟨List.mem_append_right _ (List.mem_append_right _ (List.mem_append_right _ (List.mem_append_right _ (List.mem_append_left _ (List.mem_of_getElem? (i := 89) rfl))))), rfl⟩
theorem wt4_91 : (Cond.laysFinal "MacroReckonerModel" "MacroReckonerModel" "scale" "[I") ∈ wg := List.mem_filter.mpr ⟨List.mem_append_right _ (List.mem_append_right _ (List.mem_append_right _ (List.mem_append_right _ (List.mem_append_left _ (List.mem_of_getElem? (i := 91) rfl))))), rfl⟩
theorem wt4_93 : (Cond.laysFinal "MacroReckonerModel" "MacroReckonerModel" "length" "[I") ∈ wg := List.mem_filter.mpr ⟨List.mem_append_right _ (List.mem_append_right _ (List.mem_append_right _ (List.mem_append_right _ (List.mem_append_left _ (List.mem_of_getElem? (i := 93) rfl))))), rfl⟩
theorem wt4_95 : (Cond.laysFinal "MacroReckonerModel" "MacroReckonerModel" "body" "[I") ∈ wg := List.mem_filter.mpr ⟨List.mem_append_right _ (List.mem_append_right _ (List.mem_append_right _ (List.mem_append_right _ (List.mem_append_left _ (List.mem_of_getElem? (i := 95) rfl))))), rfl⟩
theorem wt4_97 : (Cond.lays "MacroReckonerModel" "MacroReckonerModel" "height" "I") ∈ wg := List.mem_filter.mpr ⟨List.mem_append_right _ (List.mem_append_right _ (List.mem_append_right _ (List.mem_append_right _ (List.mem_append_left _ (List.mem_of_getElem? (i := 97) rfl))))), rfl⟩
theorem wt4_99 : (Cond.lays "MacroReckonerModel" "MacroReckonerModel" "k" "I") ∈ wg := List.mem_filter.mpr ⟨List.mem_append_right _ (List.mem_append_right _ (List.mem_append_right _ (List.mem_append_right _ (List.mem_append_left _ (List.mem_of_getElem? (i := 99) rfl))))), rfl⟩
theorem wt4_101 : (Cond.lays "MacroReckonerModel" "MacroReckonerModel" "texts" "I") ∈ wg := List.mem_filter.mpr ⟨List.mem_append_right _ (List.mem_append_right _ (List.mem_append_right _ (List.mem_append_right _ (List.mem_append_left _ (List.mem_of_getElem? (i := 101) rfl))))), rfl⟩
theorem wt4_103 : (Cond.laysFinal "MacroReckonerModel" "MacroReckonerModel" "runFrom" "[I") ∈ wg := List.mem_filter.mpr ⟨List.mem_append_right _ (List.mem_append_right _ (List.mem_append_right _ (List.mem_append_right _ (List.mem_append_left _ (List.mem_of_getElem? (i := 103) rfl))))), rfl⟩
theorem wt4_105 : (Cond.laysFinal "MacroReckonerModel" "MacroReckonerModel" "runTo" "[I") ∈ wg := List.mem_filter.mpr ⟨List.mem_append_right _ (List.mem_append_right _ (List.mem_append_right _ (List.mem_append_right _ (List.mem_append_left _ (List.mem_of_getElem? (i := 105) rfl))))), rfl⟩
theorem wt4_107 : (Cond.laysFinal "MacroReckonerModel" "MacroReckonerModel" "runText" "[I") ∈ wg := List.mem_filter.mpr ⟨List.mem_append_right _ (List.mem_append_right _ (List.mem_append_right _ (List.mem_append_right _ (List.mem_append_left _ (List.mem_of_getElem? (i := 107) rfl))))), rfl⟩
theorem wt4_109 : (Cond.lays "MacroReckonerModel" "MacroReckonerModel" "printed" "I") ∈ wg := List.mem_filter.mpr ⟨List.mem_append_right _ (List.mem_append_right _ (List.mem_append_right _ (List.mem_append_right _ (List.mem_append_left _ (List.mem_of_getElem? (i := 109) rfl))))), rfl⟩
theorem wt4_111 : (Cond.laysFinal "MacroReckonerModel" "MacroReckonerModel" "page" "[I") ∈ wg := List.mem_filter.mpr ⟨List.mem_append_right _ (List.mem_append_right _ (List.mem_append_right _ (List.mem_append_right _ (List.mem_append_left _ (List.mem_of_getElem? (i := 111) rfl))))), rfl⟩
theorem wt4_113 : (Cond.lays "MacroReckonerModel" "MacroReckonerModel" "token" "I") ∈ wg := List.mem_filter.mpr ⟨List.mem_append_right _ (List.mem_append_right _ (List.mem_append_right _ (List.mem_append_right _ (List.mem_append_left _ (List.mem_of_getElem? (i := 113) rfl))))), rfl⟩
theorem wt4_115 : (Cond.lays "MacroReckonerModel" "MacroReckonerModel" "from" "I") ∈ wg := List.mem_filter.mpr ⟨List.mem_append_right _ (List.mem_append_right _ (List.mem_append_right _ (List.mem_append_right _ (List.mem_append_left _ (List.mem_of_getElem? (i := 115) rfl))))), rfl⟩
theorem wt4_117 : (Cond.lays "MacroReckonerModel" "MacroReckonerModel" "to" "I") ∈ wg := List.mem_filter.mpr ⟨List.mem_append_right _ (List.mem_append_right _ (List.mem_append_right _ (List.mem_append_right _ (List.mem_append_left _ (List.mem_of_getElem? (i := 117) rfl))))), rfl⟩
theorem wt4_119 : (Cond.laysFinal "MacroReckonerModel" "MacroReckonerModel" "taken" "[I") ∈ wg := List.mem_filter.mpr ⟨List.mem_append_right _ (List.mem_append_right _ (List.mem_append_right _ (List.mem_append_right _ (List.mem_append_left _ (List.mem_of_getElem? (i := 119) rfl))))), rfl⟩
theorem wt4_121 : (Cond.lays "MacroReckonerModel" "MacroReckonerModel" "takenLength" "I") ∈ wg := List.mem_filter.mpr ⟨List.mem_append_right _ (List.mem_append_right _ (List.mem_append_right _ (List.mem_append_right _ (List.mem_append_left _ (List.mem_of_getElem? (i := 121) rfl))))), rfl⟩
theorem wt4_123 : (Cond.laysFinal "MacroReckonerModel" "MacroReckonerModel" "digits" "[I") ∈ wg := List.mem_filter.mpr ⟨List.mem_append_right _ (List.mem_append_right _ (List.mem_append_right _ (List.mem_append_right _ (List.mem_append_left _ (List.mem_of_getElem? (i := 123) rfl))))), rfl⟩
theorem wt4_125 : (Cond.laysFinal "MacroReckonerModel" "MacroReckonerModel" "size" "[I") ∈ wg := List.mem_filter.mpr ⟨List.mem_append_right _ (List.mem_append_right _ (List.mem_append_right _ (List.mem_append_right _ (List.mem_append_left _ (List.mem_of_getElem? (i := 125) rfl))))), rfl⟩
theorem wt4_127 : (Cond.superclass "MacroReckonerModel" "java/lang/Object") ∈ wg := List.mem_filter.mpr ⟨List.mem_append_right _ (List.mem_append_right _ (List.mem_append_right _ (List.mem_append_right _ (List.mem_append_left _ (List.mem_of_getElem? (i := 127) rfl))))), rfl⟩
theorem wt4_128 : (Cond.arrayClass Jvm.ClassFile.FieldType.boolean) ∈ wg := List.mem_filter.mpr ⟨List.mem_append_right _ (List.mem_append_right _ (List.mem_append_right _ (List.mem_append_right _ (List.mem_append_left _ (List.mem_of_getElem? (i := 128) rfl))))), rfl⟩
theorem wt4_129 : (Cond.methodLink "MacroReckonerLaw" 33 ⟨"MacroReckonerModel", "thrown", "()I"⟩) ∈ wg := List.mem_filter.mpr ⟨List.mem_append_right _ (List.mem_append_right _ (List.mem_append_right _ (List.mem_append_right _ (List.mem_append_left _ (List.mem_of_getElem? (i := 129) rfl))))), rfl⟩
theorem wt4_130 : (Cond.instanceMethod ⟨"MacroReckonerModel", "thrown", "()I"⟩) ∈ wg := List.mem_filter.mpr ⟨List.mem_append_right _ (List.mem_append_right _ (List.mem_append_right _ (List.mem_append_right _ (List.mem_append_left _ (List.mem_of_getElem? (i := 130) rfl))))), rfl⟩
theorem wt4_131 : (Cond.selects "MacroReckonerModel" ⟨"MacroReckonerModel", "thrown", "()I"⟩ ⟨"MacroReckonerModel", "thrown", "()I"⟩) ∈ wg := List.mem_filter.mpr ⟨List.mem_append_right _ (List.mem_append_right _ (List.mem_append_right _ (List.mem_append_right _ (List.mem_append_left _ (List.mem_of_getElem? (i := 131) rfl))))), rfl⟩
theorem wt4_132 : (Cond.code ⟨"MacroReckonerModel", "thrown", "()I"⟩ prog_9_method_2_code 1 (Option.some Jvm.ClassFile.FieldType.int)) ∈ wg := List.mem_filter.mpr ⟨List.mem_append_right _ (List.mem_append_right _ (List.mem_append_right _ (List.mem_append_right _ (List.mem_append_left _ (List.mem_of_getElem? (i := 132) rfl))))), rfl⟩
theorem wt4_133 : (Cond.methodLink "MacroReckonerLaw" 26 ⟨"MacroReckonerModel", "type", "(C)Z"⟩) ∈ wg := List.mem_filter.mpr ⟨List.mem_append_right _ (List.mem_append_right _ (List.mem_append_right _ (List.mem_append_right _ (List.mem_append_left _ (List.mem_of_getElem? (i := 133) rfl))))), rfl⟩
theorem wt4_134 : (Cond.instanceMethod ⟨"MacroReckonerModel", "type", "(C)Z"⟩) ∈ wg := List.mem_filter.mpr ⟨List.mem_append_right _ (List.mem_append_right _ (List.mem_append_right _ (List.mem_append_right _ (List.mem_append_left _ (List.mem_of_getElem? (i := 134) rfl))))), rfl⟩
theorem wt4_135 : (Cond.selects "MacroReckonerModel" ⟨"MacroReckonerModel", "type", "(C)Z"⟩ ⟨"MacroReckonerModel", "type", "(C)Z"⟩) ∈ wg := List.mem_filter.mpr ⟨List.mem_append_right _ (List.mem_append_right _ (List.mem_append_right _ (List.mem_append_right _ (List.mem_append_left _ (List.mem_of_getElem? (i := 135) rfl))))), rfl⟩
theorem wt4_136 : (Cond.code ⟨"MacroReckonerModel", "type", "(C)Z"⟩ prog_9_method_53_code 2 (Option.some Jvm.ClassFile.FieldType.boolean)) ∈ wg := List.mem_filter.mpr ⟨List.mem_append_right _ (List.mem_append_right _ (List.mem_append_right _ (List.mem_append_right _ (List.mem_append_left _ (List.mem_of_getElem? (i := 136) rfl))))), rfl⟩
theorem wt4_137 : (Cond.methodLink "MacroReckonerLaw" 32 ⟨"MacroReckonerModel", "run", "(I)I"⟩) ∈ wg := List.mem_filter.mpr ⟨List.mem_append_right _ (List.mem_append_right _ (List.mem_append_right _ (List.mem_append_right _ (List.mem_append_left _ (List.mem_of_getElem? (i := 137) rfl))))), rfl⟩
theorem wt4_138 : (Cond.instanceMethod ⟨"MacroReckonerModel", "run", "(I)I"⟩) ∈ wg := List.mem_filter.mpr ⟨List.mem_append_right _ (List.mem_append_right _ (List.mem_append_right _ (List.mem_append_right _ (List.mem_append_left _ (List.mem_of_getElem? (i := 138) rfl))))), rfl⟩
theorem wt4_139 : (Cond.selects "MacroReckonerModel" ⟨"MacroReckonerModel", "run", "(I)I"⟩ ⟨"MacroReckonerModel", "run", "(I)I"⟩) ∈ wg := List.mem_filter.mpr ⟨List.mem_append_right _ (List.mem_append_right _ (List.mem_append_right _ (List.mem_append_right _ (List.mem_append_left _ (List.mem_of_getElem? (i := 139) rfl))))), rfl⟩
theorem wt4_140 : (Cond.code ⟨"MacroReckonerModel", "run", "(I)I"⟩ prog_9_method_54_code 4 (Option.some Jvm.ClassFile.FieldType.int)) ∈ wg := List.mem_filter.mpr ⟨List.mem_append_right _ (List.mem_append_right _ (List.mem_append_right _ (List.mem_append_right _ (List.mem_append_left _ (List.mem_of_getElem? (i := 140) rfl))))), rfl⟩
theorem wt4_141 : (Cond.methodLink "MacroReckonerModel" 232 ⟨"MacroReckonerModel", "isCommand", "()Z"⟩) ∈ wg := List.mem_filter.mpr ⟨List.mem_append_right _ (List.mem_append_right _ (List.mem_append_right _ (List.mem_append_right _ (List.mem_append_left _ (List.mem_of_getElem? (i := 141) rfl))))), rfl⟩
theorem wt4_143 : (Cond.instanceMethod ⟨"MacroReckonerModel", "isCommand", "()Z"⟩) ∈ wg := List.mem_filter.mpr ⟨List.mem_append_right _ (List.mem_append_right _ (List.mem_append_right _ (List.mem_append_right _ (List.mem_append_left _ (List.mem_of_getElem? (i := 143) rfl))))), rfl⟩
theorem wt4_144 : (Cond.code ⟨"MacroReckonerModel", "isCommand", "()Z"⟩ prog_9_method_37_code 1 (Option.some Jvm.ClassFile.FieldType.boolean)) ∈ wg := List.mem_filter.mpr ⟨List.mem_append_right _ (List.mem_append_right _ (List.mem_append_right _ (List.mem_append_right _ (List.mem_append_left _ (List.mem_of_getElem? (i := 144) rfl))))), rfl⟩
theorem wt4_145 : (Cond.methodLink "MacroReckonerModel" 151 ⟨"MacroReckonerModel", "look", "()V"⟩) ∈ wg := List.mem_filter.mpr ⟨List.mem_append_right _ (List.mem_append_right _ (List.mem_append_right _ (List.mem_append_right _ (List.mem_append_left _ (List.mem_of_getElem? (i := 145) rfl))))), rfl⟩
theorem wt4_147 : (Cond.instanceMethod ⟨"MacroReckonerModel", "look", "()V"⟩) ∈ wg := List.mem_filter.mpr ⟨List.mem_append_right _ (List.mem_append_right _ (List.mem_append_right _ (List.mem_append_right _ (List.mem_append_left _ (List.mem_of_getElem? (i := 147) rfl))))), rfl⟩
theorem wt4_148 : (Cond.code ⟨"MacroReckonerModel", "look", "()V"⟩ prog_9_method_34_code 2 (Option.none : Option Jvm.ClassFile.FieldType)) ∈ wg := List.mem_filter.mpr ⟨List.mem_append_right _ (List.mem_append_right _ (List.mem_append_right _ (List.mem_append_right _ (List.mem_append_left _ (List.mem_of_getElem? (i := 148) rfl))))), rfl⟩
theorem wt4_149 : (Cond.methodLink "MacroReckonerModel" 129 ⟨"MacroReckonerModel", "at", "(I)I"⟩) ∈ wg := List.mem_filter.mpr ⟨List.mem_append_right _ (List.mem_append_right _ (List.mem_append_right _ (List.mem_append_right _ (List.mem_append_left _ (List.mem_of_getElem? (i := 149) rfl))))), rfl⟩
theorem wt4_151 : (Cond.instanceMethod ⟨"MacroReckonerModel", "at", "(I)I"⟩) ∈ wg := List.mem_filter.mpr ⟨List.mem_append_right _ (List.mem_append_right _ (List.mem_append_right _ (List.mem_append_right _ (List.mem_append_left _ (List.mem_of_getElem? (i := 151) rfl))))), rfl⟩
theorem wt4_152 : (Cond.code ⟨"MacroReckonerModel", "at", "(I)I"⟩ prog_9_method_33_code 2 (Option.some Jvm.ClassFile.FieldType.int)) ∈ wg := List.mem_filter.mpr ⟨List.mem_append_right _ (List.mem_append_right _ (List.mem_append_right _ (List.mem_append_right _ (List.mem_append_left _ (List.mem_of_getElem? (i := 152) rfl))))), rfl⟩
theorem wt4_153 : (Cond.methodLink "MacroReckonerModel" 138 ⟨"MacroReckonerModel", "lookText", "(I)V"⟩) ∈ wg := List.mem_filter.mpr ⟨List.mem_append_right _ (List.mem_append_right _ (List.mem_append_right _ (List.mem_append_right _ (List.mem_append_left _ (List.mem_of_getElem? (i := 153) rfl))))), rfl⟩
theorem wt4_155 : (Cond.instanceMethod ⟨"MacroReckonerModel", "lookText", "(I)V"⟩) ∈ wg := List.mem_filter.mpr ⟨List.mem_append_right _ (List.mem_append_right _ (List.mem_append_right _ (List.mem_append_right _ (List.mem_append_left _ (List.mem_of_getElem? (i := 155) rfl))))), rfl⟩
theorem wt4_156 : (Cond.code ⟨"MacroReckonerModel", "lookText", "(I)V"⟩ prog_9_method_35_code 3 (Option.none : Option Jvm.ClassFile.FieldType)) ∈ wg := List.mem_filter.mpr ⟨List.mem_append_right _ (List.mem_append_right _ (List.mem_append_right _ (List.mem_append_right _ (List.mem_append_left _ (List.mem_of_getElem? (i := 156) rfl))))), rfl⟩
theorem wt4_157 : (Cond.methodLink "MacroReckonerModel" 141 ⟨"MacroReckonerModel", "isPairSign", "(I)Z"⟩) ∈ wg := List.mem_filter.mpr ⟨List.mem_append_right _ (List.mem_append_right _ (List.mem_append_right _ (List.mem_append_right _ (List.mem_append_left _ (List.mem_of_getElem? (i := 157) rfl))))), rfl⟩
theorem wt4_158 : (Cond.static ⟨"MacroReckonerModel", "isPairSign", "(I)Z"⟩) ∈ wg := List.mem_filter.mpr ⟨List.mem_append_right _ (List.mem_append_right _ (List.mem_append_right _ (List.mem_append_right _ (List.mem_append_left _ (List.mem_of_getElem? (i := 158) rfl))))), rfl⟩
theorem wt4_159 : (Cond.code ⟨"MacroReckonerModel", "isPairSign", "(I)Z"⟩ prog_9_method_32_code 1 (Option.some Jvm.ClassFile.FieldType.boolean)) ∈ wg := List.mem_filter.mpr ⟨List.mem_append_right _ (List.mem_append_right _ (List.mem_append_right _ (List.mem_append_right _ (List.mem_append_left _ (List.mem_of_getElem? (i := 159) rfl))))), rfl⟩
theorem wt4_160 : (Cond.methodLink "MacroReckonerModel" 145 ⟨"MacroReckonerModel", "isDigit", "(I)Z"⟩) ∈ wg := List.mem_filter.mpr ⟨List.mem_append_right _ (List.mem_append_right _ (List.mem_append_right _ (List.mem_append_right _ (List.mem_append_left _ (List.mem_of_getElem? (i := 160) rfl))))), rfl⟩
theorem wt4_161 : (Cond.static ⟨"MacroReckonerModel", "isDigit", "(I)Z"⟩) ∈ wg := List.mem_filter.mpr ⟨List.mem_append_right _ (List.mem_append_right _ (List.mem_append_right _ (List.mem_append_right _ (List.mem_append_left _ (List.mem_of_getElem? (i := 161) rfl))))), rfl⟩
theorem wt4_162 : (Cond.code ⟨"MacroReckonerModel", "isDigit", "(I)Z"⟩ prog_9_method_31_code 1 (Option.some Jvm.ClassFile.FieldType.boolean)) ∈ wg := List.mem_filter.mpr ⟨List.mem_append_right _ (List.mem_append_right _ (List.mem_append_right _ (List.mem_append_right _ (List.mem_append_left _ (List.mem_of_getElem? (i := 162) rfl))))), rfl⟩
theorem wt4_163 : (Cond.methodLink "MacroReckonerModel" 148 ⟨"MacroReckonerModel", "lookNumeral", "(I)V"⟩) ∈ wg := List.mem_filter.mpr ⟨List.mem_append_right _ (List.mem_append_right _ (List.mem_append_right _ (List.mem_append_right _ (List.mem_append_left _ (List.mem_of_getElem? (i := 163) rfl))))), rfl⟩
theorem wt4_165 : (Cond.instanceMethod ⟨"MacroReckonerModel", "lookNumeral", "(I)V"⟩) ∈ wg := List.mem_filter.mpr ⟨List.mem_append_right _ (List.mem_append_right _ (List.mem_append_right _ (List.mem_append_right _ (List.mem_append_left _ (List.mem_of_getElem? (i := 165) rfl))))), rfl⟩
theorem wt4_166 : (Cond.code ⟨"MacroReckonerModel", "lookNumeral", "(I)V"⟩ prog_9_method_36_code 5 (Option.none : Option Jvm.ClassFile.FieldType)) ∈ wg := List.mem_filter.mpr ⟨List.mem_append_right _ (List.mem_append_right _ (List.mem_append_right _ (List.mem_append_right _ (List.mem_append_left _ (List.mem_of_getElem? (i := 166) rfl))))), rfl⟩
theorem wt4_167 : (Cond.methodLink "MacroReckonerModel" 236 ⟨"MacroReckonerModel", "command", "()I"⟩) ∈ wg := List.mem_filter.mpr ⟨List.mem_append_right _ (List.mem_append_right _ (List.mem_append_right _ (List.mem_append_right _ (List.mem_append_left _ (List.mem_of_getElem? (i := 167) rfl))))), rfl⟩
theorem wt4_169 : (Cond.instanceMethod ⟨"MacroReckonerModel", "command", "()I"⟩) ∈ wg := List.mem_filter.mpr ⟨List.mem_append_right _ (List.mem_append_right _ (List.mem_append_right _ (List.mem_append_right _ (List.mem_append_left _ (List.mem_of_getElem? (i := 169) rfl))))), rfl⟩
theorem wt4_170 : (Cond.code ⟨"MacroReckonerModel", "command", "()I"⟩ prog_9_method_52_code 3 (Option.some Jvm.ClassFile.FieldType.int)) ∈ wg := List.mem_filter.mpr ⟨List.mem_append_right _ (List.mem_append_right _ (List.mem_append_right _ (List.mem_append_right _ (List.mem_append_left _ (List.mem_of_getElem? (i := 170) rfl))))), rfl⟩
theorem wt4_171 : (Cond.methodLink "MacroReckonerModel" 217 ⟨"MacroReckonerModel", "takeToken", "()V"⟩) ∈ wg := List.mem_filter.mpr ⟨List.mem_append_right _ (List.mem_append_right _ (List.mem_append_right _ (List.mem_append_right _ (List.mem_append_left _ (List.mem_of_getElem? (i := 171) rfl))))), rfl⟩
theorem wt4_173 : (Cond.instanceMethod ⟨"MacroReckonerModel", "takeToken", "()V"⟩) ∈ wg := List.mem_filter.mpr ⟨List.mem_append_right _ (List.mem_append_right _ (List.mem_append_right _ (List.mem_append_right _ (List.mem_append_left _ (List.mem_of_getElem? (i := 173) rfl))))), rfl⟩
theorem wt4_174 : (Cond.code ⟨"MacroReckonerModel", "takeToken", "()V"⟩ prog_9_method_40_code 2 (Option.none : Option Jvm.ClassFile.FieldType)) ∈ wg := List.mem_filter.mpr ⟨List.mem_append_right _ (List.mem_append_right _ (List.mem_append_right _ (List.mem_append_right _ (List.mem_append_left _ (List.mem_of_getElem? (i := 174) rfl))))), rfl⟩
theorem wt4_175 : (Cond.methodLink "MacroReckonerModel" 157 ⟨"MacroReckonerModel", "endTexts", "()V"⟩) ∈ wg := List.mem_filter.mpr ⟨List.mem_append_right _ (List.mem_append_right _ (List.mem_append_right _ (List.mem_append_right _ (List.mem_append_left _ (List.mem_of_getElem? (i := 175) rfl))))), rfl⟩
theorem wt4_177 : (Cond.instanceMethod ⟨"MacroReckonerModel", "endTexts", "()V"⟩) ∈ wg := List.mem_filter.mpr ⟨List.mem_append_right _ (List.mem_append_right _ (List.mem_append_right _ (List.mem_append_right _ (List.mem_append_left _ (List.mem_of_getElem? (i := 177) rfl))))), rfl⟩
theorem wt4_178 : (Cond.code ⟨"MacroReckonerModel", "endTexts", "()V"⟩ prog_9_method_38_code 3 (Option.none : Option Jvm.ClassFile.FieldType)) ∈ wg := List.mem_filter.mpr ⟨List.mem_append_right _ (List.mem_append_right _ (List.mem_append_right _ (List.mem_append_right _ (List.mem_append_left _ (List.mem_of_getElem? (i := 178) rfl))))), rfl⟩
theorem wt4_179 : (Cond.methodLink "MacroReckonerModel" 160 ⟨"MacroReckonerModel", "lose", "(I)V"⟩) ∈ wg := List.mem_filter.mpr ⟨List.mem_append_right _ (List.mem_append_right _ (List.mem_append_right _ (List.mem_append_right _ (List.mem_append_left _ (List.mem_of_getElem? (i := 179) rfl))))), rfl⟩
theorem wt4_181 : (Cond.instanceMethod ⟨"MacroReckonerModel", "lose", "(I)V"⟩) ∈ wg := List.mem_filter.mpr ⟨List.mem_append_right _ (List.mem_append_right _ (List.mem_append_right _ (List.mem_append_right _ (List.mem_append_left _ (List.mem_of_getElem? (i := 181) rfl))))), rfl⟩
theorem wt4_182 : (Cond.code ⟨"MacroReckonerModel", "lose", "(I)V"⟩ prog_9_method_39_code 3 (Option.none : Option Jvm.ClassFile.FieldType)) ∈ wg := List.mem_filter.mpr ⟨List.mem_append_right _ (List.mem_append_right _ (List.mem_append_right _ (List.mem_append_right _ (List.mem_append_left _ (List.mem_of_getElem? (i := 182) rfl))))), rfl⟩
theorem wt4_183 : (Cond.methodLink "MacroReckonerModel" 220 ⟨"MacroReckonerModel", "numeral", "()I"⟩) ∈ wg := List.mem_filter.mpr ⟨List.mem_append_right _ (List.mem_append_right _ (List.mem_append_right _ (List.mem_append_right _ (List.mem_append_left _ (List.mem_of_getElem? (i := 183) rfl))))), rfl⟩
theorem wt4_185 : (Cond.instanceMethod ⟨"MacroReckonerModel", "numeral", "()I"⟩) ∈ wg := List.mem_filter.mpr ⟨List.mem_append_right _ (List.mem_append_right _ (List.mem_append_right _ (List.mem_append_right _ (List.mem_append_left _ (List.mem_of_getElem? (i := 185) rfl))))), rfl⟩
theorem wt4_186 : (Cond.code ⟨"MacroReckonerModel", "numeral", "()I"⟩ prog_9_method_43_code 5 (Option.some Jvm.ClassFile.FieldType.int)) ∈ wg := List.mem_filter.mpr ⟨List.mem_append_right _ (List.mem_append_right _ (List.mem_append_right _ (List.mem_append_right _ (List.mem_append_left _ (List.mem_of_getElem? (i := 186) rfl))))), rfl⟩
theorem wt4_187 : (Cond.methodLink "MacroReckonerModel" 58 ⟨"MacroReckonerModel", "append", "(III)V"⟩) ∈ wg := List.mem_filter.mpr ⟨List.mem_append_right _ (List.mem_append_right _ (List.mem_append_right _ (List.mem_append_right _ (List.mem_append_left _ (List.mem_of_getElem? (i := 187) rfl))))), rfl⟩
theorem wt4_189 : (Cond.instanceMethod ⟨"MacroReckonerModel", "append", "(III)V"⟩) ∈ wg := List.mem_filter.mpr ⟨List.mem_append_right _ (List.mem_append_right _ (List.mem_append_right _ (List.mem_append_right _ (List.mem_append_left _ (List.mem_of_getElem? (i := 189) rfl))))), rfl⟩
theorem wt4_190 : (Cond.code ⟨"MacroReckonerModel", "append", "(III)V"⟩ prog_9_method_7_code 6 (Option.none : Option Jvm.ClassFile.FieldType)) ∈ wg := List.mem_filter.mpr ⟨List.mem_append_right _ (List.mem_append_right _ (List.mem_append_right _ (List.mem_append_right _ (List.mem_append_left _ (List.mem_of_getElem? (i := 190) rfl))))), rfl⟩
theorem wt4_191 : (Cond.methodLink "MacroReckonerModel" 54 ⟨"MacroReckonerModel", "trim", "(I)V"⟩) ∈ wg := List.mem_filter.mpr ⟨List.mem_append_right _ (List.mem_append_right _ (List.mem_append_right _ (List.mem_append_right _ (List.mem_append_left _ (List.mem_of_getElem? (i := 191) rfl))))), rfl⟩
theorem wt4_193 : (Cond.instanceMethod ⟨"MacroReckonerModel", "trim", "(I)V"⟩) ∈ wg := List.mem_filter.mpr ⟨List.mem_append_right _ (List.mem_append_right _ (List.mem_append_right _ (List.mem_append_right _ (List.mem_append_left _ (List.mem_of_getElem? (i := 193) rfl))))), rfl⟩
theorem wt4_194 : (Cond.code ⟨"MacroReckonerModel", "trim", "(I)V"⟩ prog_9_method_3_code 2 (Option.none : Option Jvm.ClassFile.FieldType)) ∈ wg := List.mem_filter.mpr ⟨List.mem_append_right _ (List.mem_append_right _ (List.mem_append_right _ (List.mem_append_right _ (List.mem_append_left _ (List.mem_of_getElem? (i := 194) rfl))))), rfl⟩
theorem wt4_195 : (Cond.methodLink "MacroReckonerModel" 79 ⟨"MacroReckonerModel", "make", "(III)I"⟩) ∈ wg := List.mem_filter.mpr ⟨List.mem_append_right _ (List.mem_append_right _ (List.mem_append_right _ (List.mem_append_right _ (List.mem_append_left _ (List.mem_of_getElem? (i := 195) rfl))))), rfl⟩
theorem wt4_197 : (Cond.instanceMethod ⟨"MacroReckonerModel", "make", "(III)I"⟩) ∈ wg := List.mem_filter.mpr ⟨List.mem_append_right _ (List.mem_append_right _ (List.mem_append_right _ (List.mem_append_right _ (List.mem_append_left _ (List.mem_of_getElem? (i := 197) rfl))))), rfl⟩
theorem wt4_198 : (Cond.code ⟨"MacroReckonerModel", "make", "(III)I"⟩ prog_9_method_16_code 5 (Option.some Jvm.ClassFile.FieldType.int)) ∈ wg := List.mem_filter.mpr ⟨List.mem_append_right _ (List.mem_append_right _ (List.mem_append_right _ (List.mem_append_right _ (List.mem_append_left _ (List.mem_of_getElem? (i := 198) rfl))))), rfl⟩
theorem wt4_199 : (Cond.methodLink "MacroReckonerModel" 163 ⟨"MacroReckonerModel", "put", "(I)I"⟩) ∈ wg := List.mem_filter.mpr ⟨List.mem_append_right _ (List.mem_append_right _ (List.mem_append_right _ (List.mem_append_right _ (List.mem_append_left _ (List.mem_of_getElem? (i := 199) rfl))))), rfl⟩
theorem wt4_201 : (Cond.instanceMethod ⟨"MacroReckonerModel", "put", "(I)I"⟩) ∈ wg := List.mem_filter.mpr ⟨List.mem_append_right _ (List.mem_append_right _ (List.mem_append_right _ (List.mem_append_right _ (List.mem_append_left _ (List.mem_of_getElem? (i := 201) rfl))))), rfl⟩
theorem wt4_202 : (Cond.code ⟨"MacroReckonerModel", "put", "(I)I"⟩ prog_9_method_18_code 2 (Option.some Jvm.ClassFile.FieldType.int)) ∈ wg := List.mem_filter.mpr ⟨List.mem_append_right _ (List.mem_append_right _ (List.mem_append_right _ (List.mem_append_right _ (List.mem_append_left _ (List.mem_of_getElem? (i := 202) rfl))))), rfl⟩
theorem wt4_203 : (Cond.methodLink "MacroReckonerModel" 86 ⟨"MacroReckonerModel", "move", "(II)V"⟩) ∈ wg := List.mem_filter.mpr ⟨List.mem_append_right _ (List.mem_append_right _ (List.mem_append_right _ (List.mem_append_right _ (List.mem_append_left _ (List.mem_of_getElem? (i := 203) rfl))))), rfl⟩
theorem wt4_205 : (Cond.instanceMethod ⟨"MacroReckonerModel", "move", "(II)V"⟩) ∈ wg := List.mem_filter.mpr ⟨List.mem_append_right _ (List.mem_append_right _ (List.mem_append_right _ (List.mem_append_right _ (List.mem_append_left _ (List.mem_of_getElem? (i := 205) rfl))))), rfl⟩
theorem wt4_206 : (Cond.code ⟨"MacroReckonerModel", "move", "(II)V"⟩ prog_9_method_15_code 4 (Option.none : Option Jvm.ClassFile.FieldType)) ∈ wg := List.mem_filter.mpr ⟨List.mem_append_right _ (List.mem_append_right _ (List.mem_append_right _ (List.mem_append_right _ (List.mem_append_left _ (List.mem_of_getElem? (i := 206) rfl))))), rfl⟩
theorem wt4_207 : (Cond.methodLink "MacroReckonerModel" 224 ⟨"MacroReckonerModel", "text", "()I"⟩) ∈ wg := List.mem_filter.mpr ⟨List.mem_append_right _ (List.mem_append_right _ (List.mem_append_right _ (List.mem_append_right _ (List.mem_append_left _ (List.mem_of_getElem? (i := 207) rfl))))), rfl⟩
theorem wt4_209 : (Cond.instanceMethod ⟨"MacroReckonerModel", "text", "()I"⟩) ∈ wg := List.mem_filter.mpr ⟨List.mem_append_right _ (List.mem_append_right _ (List.mem_append_right _ (List.mem_append_right _ (List.mem_append_left _ (List.mem_of_getElem? (i := 209) rfl))))), rfl⟩
theorem wt4_210 : (Cond.code ⟨"MacroReckonerModel", "text", "()I"⟩ prog_9_method_44_code 2 (Option.some Jvm.ClassFile.FieldType.int)) ∈ wg := List.mem_filter.mpr ⟨List.mem_append_right _ (List.mem_append_right _ (List.mem_append_right _ (List.mem_append_right _ (List.mem_append_left _ (List.mem_of_getElem? (i := 210) rfl))))), rfl⟩
theorem wt4_211 : (Cond.methodLink "MacroReckonerModel" 227 ⟨"MacroReckonerModel", "pair", "(II)I"⟩) ∈ wg := List.mem_filter.mpr ⟨List.mem_append_right _ (List.mem_append_right _ (List.mem_append_right _ (List.mem_append_right _ (List.mem_append_left _ (List.mem_of_getElem? (i := 211) rfl))))), rfl⟩
theorem wt4_213 : (Cond.instanceMethod ⟨"MacroReckonerModel", "pair", "(II)I"⟩) ∈ wg := List.mem_filter.mpr ⟨List.mem_append_right _ (List.mem_append_right _ (List.mem_append_right _ (List.mem_append_right _ (List.mem_append_left _ (List.mem_of_getElem? (i := 213) rfl))))), rfl⟩
theorem wt4_214 : (Cond.code ⟨"MacroReckonerModel", "pair", "(II)I"⟩ prog_9_method_51_code 8 (Option.some Jvm.ClassFile.FieldType.int)) ∈ wg := List.mem_filter.mpr ⟨List.mem_append_right _ (List.mem_append_right _ (List.mem_append_right _ (List.mem_append_right _ (List.mem_append_left _ (List.mem_of_getElem? (i := 214) rfl))))), rfl⟩
theorem wt4_215 : (Cond.methodLink "MacroReckonerModel" 169 ⟨"MacroReckonerModel", "areNumbers", "(I)Z"⟩) ∈ wg := List.mem_filter.mpr ⟨List.mem_append_right _ (List.mem_append_right _ (List.mem_append_right _ (List.mem_append_right _ (List.mem_append_left _ (List.mem_of_getElem? (i := 215) rfl))))), rfl⟩
theorem wt4_217 : (Cond.instanceMethod ⟨"MacroReckonerModel", "areNumbers", "(I)Z"⟩) ∈ wg := List.mem_filter.mpr ⟨List.mem_append_right _ (List.mem_append_right _ (List.mem_append_right _ (List.mem_append_right _ (List.mem_append_left _ (List.mem_of_getElem? (i := 217) rfl))))), rfl⟩
theorem wt4_218 : (Cond.code ⟨"MacroReckonerModel", "areNumbers", "(I)Z"⟩ prog_9_method_41_code 4 (Option.some Jvm.ClassFile.FieldType.boolean)) ∈ wg := List.mem_filter.mpr ⟨List.mem_append_right _ (List.mem_append_right _ (List.mem_append_right _ (List.mem_append_right _ (List.mem_append_left _ (List.mem_of_getElem? (i := 218) rfl))))), rfl⟩
theorem wt4_219 : (Cond.methodLink "MacroReckonerModel" 214 ⟨"MacroReckonerModel", "order", "(II)I"⟩) ∈ wg := List.mem_filter.mpr ⟨List.mem_append_right _ (List.mem_append_right _ (List.mem_append_right _ (List.mem_append_right _ (List.mem_append_left _ (List.mem_of_getElem? (i := 219) rfl))))), rfl⟩
theorem wt4_221 : (Cond.instanceMethod ⟨"MacroReckonerModel", "order", "(II)I"⟩) ∈ wg := List.mem_filter.mpr ⟨List.mem_append_right _ (List.mem_append_right _ (List.mem_append_right _ (List.mem_append_right _ (List.mem_append_left _ (List.mem_of_getElem? (i := 221) rfl))))), rfl⟩
theorem wt4_222 : (Cond.code ⟨"MacroReckonerModel", "order", "(II)I"⟩ prog_9_method_27_code 4 (Option.some Jvm.ClassFile.FieldType.int)) ∈ wg := List.mem_filter.mpr ⟨List.mem_append_right _ (List.mem_append_right _ (List.mem_append_right _ (List.mem_append_right _ (List.mem_append_left _ (List.mem_of_getElem? (i := 222) rfl))))), rfl⟩
theorem wt4_223 : (Cond.methodLink "MacroReckonerModel" 89 ⟨"MacroReckonerModel", "greater", "(II)I"⟩) ∈ wg := List.mem_filter.mpr ⟨List.mem_append_right _ (List.mem_append_right _ (List.mem_append_right _ (List.mem_append_right _ (List.mem_append_left _ (List.mem_of_getElem? (i := 223) rfl))))), rfl⟩
theorem wt4_224 : (Cond.static ⟨"MacroReckonerModel", "greater", "(II)I"⟩) ∈ wg := List.mem_filter.mpr ⟨List.mem_append_right _ (List.mem_append_right _ (List.mem_append_right _ (List.mem_append_right _ (List.mem_append_left _ (List.mem_of_getElem? (i := 224) rfl))))), rfl⟩
theorem wt4_225 : (Cond.code ⟨"MacroReckonerModel", "greater", "(II)I"⟩ prog_9_method_19_code 2 (Option.some Jvm.ClassFile.FieldType.int)) ∈ wg := List.mem_filter.mpr ⟨List.mem_append_right _ (List.mem_append_right _ (List.mem_append_right _ (List.mem_append_right _ (List.mem_append_left _ (List.mem_of_getElem? (i := 225) rfl))))), rfl⟩
theorem wt4_226 : (Cond.methodLink "MacroReckonerModel" 92 ⟨"MacroReckonerModel", "load", "(III)V"⟩) ∈ wg := List.mem_filter.mpr ⟨List.mem_append_right _ (List.mem_append_right _ (List.mem_append_right _ (List.mem_append_right _ (List.mem_append_left _ (List.mem_of_getElem? (i := 226) rfl))))), rfl⟩
theorem wt4_228 : (Cond.instanceMethod ⟨"MacroReckonerModel", "load", "(III)V"⟩) ∈ wg := List.mem_filter.mpr ⟨List.mem_append_right _ (List.mem_append_right _ (List.mem_append_right _ (List.mem_append_right _ (List.mem_append_left _ (List.mem_of_getElem? (i := 228) rfl))))), rfl⟩
theorem wt4_229 : (Cond.code ⟨"MacroReckonerModel", "load", "(III)V"⟩ prog_9_method_4_code 5 (Option.none : Option Jvm.ClassFile.FieldType)) ∈ wg := List.mem_filter.mpr ⟨List.mem_append_right _ (List.mem_append_right _ (List.mem_append_right _ (List.mem_append_right _ (List.mem_append_left _ (List.mem_of_getElem? (i := 229) rfl))))), rfl⟩
theorem wt4_230 : (Cond.methodLink "MacroReckonerModel" 62 ⟨"MacroReckonerModel", "compare", "(II)I"⟩) ∈ wg := List.mem_filter.mpr ⟨List.mem_append_right _ (List.mem_append_right _ (List.mem_append_right _ (List.mem_append_right _ (List.mem_append_left _ (List.mem_of_getElem? (i := 230) rfl))))), rfl⟩
theorem wt4_232 : (Cond.instanceMethod ⟨"MacroReckonerModel", "compare", "(II)I"⟩) ∈ wg := List.mem_filter.mpr ⟨List.mem_append_right _ (List.mem_append_right _ (List.mem_append_right _ (List.mem_append_right _ (List.mem_append_left _ (List.mem_of_getElem? (i := 232) rfl))))), rfl⟩
theorem wt4_233 : (Cond.code ⟨"MacroReckonerModel", "compare", "(II)I"⟩ prog_9_method_9_code 5 (Option.some Jvm.ClassFile.FieldType.int)) ∈ wg := List.mem_filter.mpr ⟨List.mem_append_right _ (List.mem_append_right _ (List.mem_append_right _ (List.mem_append_right _ (List.mem_append_left _ (List.mem_of_getElem? (i := 233) rfl))))), rfl⟩
theorem wt4_234 : (Cond.methodLink "MacroReckonerModel" 205 ⟨"MacroReckonerModel", "begin", "(I)I"⟩) ∈ wg := List.mem_filter.mpr ⟨List.mem_append_right _ (List.mem_append_right _ (List.mem_append_right _ (List.mem_append_right _ (List.mem_append_left _ (List.mem_of_getElem? (i := 234) rfl))))), rfl⟩
theorem wt4_236 : (Cond.instanceMethod ⟨"MacroReckonerModel", "begin", "(I)I"⟩) ∈ wg := List.mem_filter.mpr ⟨List.mem_append_right _ (List.mem_append_right _ (List.mem_append_right _ (List.mem_append_right _ (List.mem_append_left _ (List.mem_of_getElem? (i := 236) rfl))))), rfl⟩
theorem wt4_237 : (Cond.code ⟨"MacroReckonerModel", "begin", "(I)I"⟩ prog_9_method_42_code 4 (Option.some Jvm.ClassFile.FieldType.int)) ∈ wg := List.mem_filter.mpr ⟨List.mem_append_right _ (List.mem_append_right _ (List.mem_append_right _ (List.mem_append_right _ (List.mem_append_left _ (List.mem_of_getElem? (i := 237) rfl))))), rfl⟩
theorem wt4_238 : (Cond.methodLink "MacroReckonerModel" 230 ⟨"MacroReckonerModel", "sign", "(I)I"⟩) ∈ wg := List.mem_filter.mpr ⟨List.mem_append_right _ (List.mem_append_right _ (List.mem_append_right _ (List.mem_append_right _ (List.mem_append_left _ (List.mem_of_getElem? (i := 238) rfl))))), rfl⟩
theorem wt5_0 : (Cond.instanceMethod ⟨"MacroReckonerModel", "sign", "(I)I"⟩) ∈ wg := List.mem_filter.mpr ⟨List.mem_append_right _ (List.mem_append_right _ (List.mem_append_right _ (List.mem_append_right _ (List.mem_append_right _ (List.mem_of_getElem? (i := 0) rfl))))), rfl⟩
theorem wt5_1 : (Cond.code ⟨"MacroReckonerModel", "sign", "(I)I"⟩ prog_9_method_46_code 6 (Option.some Jvm.ClassFile.FieldType.int)) ∈ wg := List.mem_filter.mpr ⟨List.mem_append_right _ (List.mem_append_right _ (List.mem_append_right _ (List.mem_append_right _ (List.mem_append_right _ (List.mem_of_getElem? (i := 1) rfl))))), rfl⟩
theorem wt5_2 : (Cond.methodLink "MacroReckonerModel" 166 ⟨"MacroReckonerModel", "takes", "(I)I"⟩) ∈ wg := List.mem_filter.mpr ⟨List.mem_append_right _ (List.mem_append_right _ (List.mem_append_right _ (List.mem_append_right _ (List.mem_append_right _ (List.mem_of_getElem? (i := 2) rfl))))), rfl⟩
theorem wt5_3 : (Cond.static ⟨"MacroReckonerModel", "takes", "(I)I"⟩) ∈ wg := List.mem_filter.mpr ⟨List.mem_append_right _ (List.mem_append_right _ (List.mem_append_right _ (List.mem_append_right _ (List.mem_append_right _ (List.mem_of_getElem? (i := 3) rfl))))), rfl⟩
theorem wt5_4 : (Cond.code ⟨"MacroReckonerModel", "takes", "(I)I"⟩ prog_9_method_45_code 1 (Option.some Jvm.ClassFile.FieldType.int)) ∈ wg := List.mem_filter.mpr ⟨List.mem_append_right _ (List.mem_append_right _ (List.mem_append_right _ (List.mem_append_right _ (List.mem_append_right _ (List.mem_of_getElem? (i := 4) rfl))))), rfl⟩
theorem wt5_5 : (Cond.methodLink "MacroReckonerModel" 172 ⟨"MacroReckonerModel", "reckon", "(III)I"⟩) ∈ wg := List.mem_filter.mpr ⟨List.mem_append_right _ (List.mem_append_right _ (List.mem_append_right _ (List.mem_append_right _ (List.mem_append_right _ (List.mem_of_getElem? (i := 5) rfl))))), rfl⟩
theorem wt5_7 : (Cond.instanceMethod ⟨"MacroReckonerModel", "reckon", "(III)I"⟩) ∈ wg := List.mem_filter.mpr ⟨List.mem_append_right _ (List.mem_append_right _ (List.mem_append_right _ (List.mem_append_right _ (List.mem_append_right _ (List.mem_of_getElem? (i := 7) rfl))))), rfl⟩
theorem wt5_8 : (Cond.code ⟨"MacroReckonerModel", "reckon", "(III)I"⟩ prog_9_method_47_code 4 (Option.some Jvm.ClassFile.FieldType.int)) ∈ wg := List.mem_filter.mpr ⟨List.mem_append_right _ (List.mem_append_right _ (List.mem_append_right _ (List.mem_append_right _ (List.mem_append_right _ (List.mem_of_getElem? (i := 8) rfl))))), rfl⟩
theorem wt5_9 : (Cond.methodLink "MacroReckonerModel" 187 ⟨"MacroReckonerModel", "plus", "(III)I"⟩) ∈ wg := List.mem_filter.mpr ⟨List.mem_append_right _ (List.mem_append_right _ (List.mem_append_right _ (List.mem_append_right _ (List.mem_append_right _ (List.mem_of_getElem? (i := 9) rfl))))), rfl⟩
theorem wt5_11 : (Cond.instanceMethod ⟨"MacroReckonerModel", "plus", "(III)I"⟩) ∈ wg := List.mem_filter.mpr ⟨List.mem_append_right _ (List.mem_append_right _ (List.mem_append_right _ (List.mem_append_right _ (List.mem_append_right _ (List.mem_of_getElem? (i := 11) rfl))))), rfl⟩
theorem wt5_12 : (Cond.code ⟨"MacroReckonerModel", "plus", "(III)I"⟩ prog_9_method_20_code 5 (Option.some Jvm.ClassFile.FieldType.int)) ∈ wg := List.mem_filter.mpr ⟨List.mem_append_right _ (List.mem_append_right _ (List.mem_append_right _ (List.mem_append_right _ (List.mem_append_right _ (List.mem_of_getElem? (i := 12) rfl))))), rfl⟩
theorem wt5_13 : (Cond.methodLink "MacroReckonerModel" 73 ⟨"MacroReckonerModel", "increase", "(II)V"⟩) ∈ wg := List.mem_filter.mpr ⟨List.mem_append_right _ (List.mem_append_right _ (List.mem_append_right _ (List.mem_append_right _ (List.mem_append_right _ (List.mem_of_getElem? (i := 13) rfl))))), rfl⟩
theorem wt5_15 : (Cond.instanceMethod ⟨"MacroReckonerModel", "increase", "(II)V"⟩) ∈ wg := List.mem_filter.mpr ⟨List.mem_append_right _ (List.mem_append_right _ (List.mem_append_right _ (List.mem_append_right _ (List.mem_append_right _ (List.mem_of_getElem? (i := 15) rfl))))), rfl⟩
theorem wt5_16 : (Cond.code ⟨"MacroReckonerModel", "increase", "(II)V"⟩ prog_9_method_10_code 7 (Option.none : Option Jvm.ClassFile.FieldType)) ∈ wg := List.mem_filter.mpr ⟨List.mem_append_right _ (List.mem_append_right _ (List.mem_append_right _ (List.mem_append_right _ (List.mem_append_right _ (List.mem_of_getElem? (i := 16) rfl))))), rfl⟩
theorem wt5_17 : (Cond.methodLink "MacroReckonerModel" 66 ⟨"MacroReckonerModel", "decrease", "(II)V"⟩) ∈ wg := List.mem_filter.mpr ⟨List.mem_append_right _ (List.mem_append_right _ (List.mem_append_right _ (List.mem_append_right _ (List.mem_append_right _ (List.mem_of_getElem? (i := 17) rfl))))), rfl⟩
theorem wt5_19 : (Cond.instanceMethod ⟨"MacroReckonerModel", "decrease", "(II)V"⟩) ∈ wg := List.mem_filter.mpr ⟨List.mem_append_right _ (List.mem_append_right _ (List.mem_append_right _ (List.mem_append_right _ (List.mem_append_right _ (List.mem_of_getElem? (i := 19) rfl))))), rfl⟩
theorem wt5_20 : (Cond.code ⟨"MacroReckonerModel", "decrease", "(II)V"⟩ prog_9_method_11_code 6 (Option.none : Option Jvm.ClassFile.FieldType)) ∈ wg := List.mem_filter.mpr ⟨List.mem_append_right _ (List.mem_append_right _ (List.mem_append_right _ (List.mem_append_right _ (List.mem_append_right _ (List.mem_of_getElem? (i := 20) rfl))))), rfl⟩
theorem wt5_21 : (Cond.methodLink "MacroReckonerModel" 190 ⟨"MacroReckonerModel", "times", "(II)I"⟩) ∈ wg := List.mem_filter.mpr ⟨List.mem_append_right _ (List.mem_append_right _ (List.mem_append_right _ (List.mem_append_right _ (List.mem_append_right _ (List.mem_of_getElem? (i := 21) rfl))))), rfl⟩
theorem wt5_23 : (Cond.instanceMethod ⟨"MacroReckonerModel", "times", "(II)I"⟩) ∈ wg := List.mem_filter.mpr ⟨List.mem_append_right _ (List.mem_append_right _ (List.mem_append_right _ (List.mem_append_right _ (List.mem_append_right _ (List.mem_of_getElem? (i := 23) rfl))))), rfl⟩
theorem wt5_24 : (Cond.code ⟨"MacroReckonerModel", "times", "(II)I"⟩ prog_9_method_21_code 5 (Option.some Jvm.ClassFile.FieldType.int)) ∈ wg := List.mem_filter.mpr ⟨List.mem_append_right _ (List.mem_append_right _ (List.mem_append_right _ (List.mem_append_right _ (List.mem_append_right _ (List.mem_of_getElem? (i := 24) rfl))))), rfl⟩
theorem wt5_25 : (Cond.methodLink "MacroReckonerModel" 95 ⟨"MacroReckonerModel", "multiply", "(III)V"⟩) ∈ wg := List.mem_filter.mpr ⟨List.mem_append_right _ (List.mem_append_right _ (List.mem_append_right _ (List.mem_append_right _ (List.mem_append_right _ (List.mem_of_getElem? (i := 25) rfl))))), rfl⟩
theorem wt5_27 : (Cond.instanceMethod ⟨"MacroReckonerModel", "multiply", "(III)V"⟩) ∈ wg := List.mem_filter.mpr ⟨List.mem_append_right _ (List.mem_append_right _ (List.mem_append_right _ (List.mem_append_right _ (List.mem_append_right _ (List.mem_of_getElem? (i := 27) rfl))))), rfl⟩
theorem wt5_28 : (Cond.code ⟨"MacroReckonerModel", "multiply", "(III)V"⟩ prog_9_method_12_code 8 (Option.none : Option Jvm.ClassFile.FieldType)) ∈ wg := List.mem_filter.mpr ⟨List.mem_append_right _ (List.mem_append_right _ (List.mem_append_right _ (List.mem_append_right _ (List.mem_append_right _ (List.mem_of_getElem? (i := 28) rfl))))), rfl⟩
theorem wt5_29 : (Cond.methodLink "MacroReckonerModel" 101 ⟨"MacroReckonerModel", "cut", "(II)V"⟩) ∈ wg := List.mem_filter.mpr ⟨List.mem_append_right _ (List.mem_append_right _ (List.mem_append_right _ (List.mem_append_right _ (List.mem_append_right _ (List.mem_of_getElem? (i := 29) rfl))))), rfl⟩
theorem wt5_31 : (Cond.instanceMethod ⟨"MacroReckonerModel", "cut", "(II)V"⟩) ∈ wg := List.mem_filter.mpr ⟨List.mem_append_right _ (List.mem_append_right _ (List.mem_append_right _ (List.mem_append_right _ (List.mem_append_right _ (List.mem_of_getElem? (i := 31) rfl))))), rfl⟩
theorem wt5_32 : (Cond.code ⟨"MacroReckonerModel", "cut", "(II)V"⟩ prog_9_method_8_code 4 (Option.none : Option Jvm.ClassFile.FieldType)) ∈ wg := List.mem_filter.mpr ⟨List.mem_append_right _ (List.mem_append_right _ (List.mem_append_right _ (List.mem_append_right _ (List.mem_append_right _ (List.mem_of_getElem? (i := 32) rfl))))), rfl⟩
theorem wt5_33 : (Cond.methodLink "MacroReckonerModel" 193 ⟨"MacroReckonerModel", "quotient", "(II)I"⟩) ∈ wg := List.mem_filter.mpr ⟨List.mem_append_right _ (List.mem_append_right _ (List.mem_append_right _ (List.mem_append_right _ (List.mem_append_right _ (List.mem_of_getElem? (i := 33) rfl))))), rfl⟩
theorem wt5_35 : (Cond.instanceMethod ⟨"MacroReckonerModel", "quotient", "(II)I"⟩) ∈ wg := List.mem_filter.mpr ⟨List.mem_append_right _ (List.mem_append_right _ (List.mem_append_right _ (List.mem_append_right _ (List.mem_append_right _ (List.mem_of_getElem? (i := 35) rfl))))), rfl⟩
theorem wt5_36 : (Cond.code ⟨"MacroReckonerModel", "quotient", "(II)I"⟩ prog_9_method_22_code 3 (Option.some Jvm.ClassFile.FieldType.int)) ∈ wg := List.mem_filter.mpr ⟨List.mem_append_right _ (List.mem_append_right _ (List.mem_append_right _ (List.mem_append_right _ (List.mem_append_right _ (List.mem_of_getElem? (i := 36) rfl))))), rfl⟩
theorem wt5_37 : (Cond.methodLink "MacroReckonerModel" 104 ⟨"MacroReckonerModel", "divide", "()V"⟩) ∈ wg := List.mem_filter.mpr ⟨List.mem_append_right _ (List.mem_append_right _ (List.mem_append_right _ (List.mem_append_right _ (List.mem_append_right _ (List.mem_of_getElem? (i := 37) rfl))))), rfl⟩
theorem wt5_39 : (Cond.instanceMethod ⟨"MacroReckonerModel", "divide", "()V"⟩) ∈ wg := List.mem_filter.mpr ⟨List.mem_append_right _ (List.mem_append_right _ (List.mem_append_right _ (List.mem_append_right _ (List.mem_append_right _ (List.mem_of_getElem? (i := 39) rfl))))), rfl⟩
theorem wt5_40 : (Cond.code ⟨"MacroReckonerModel", "divide", "()V"⟩ prog_9_method_13_code 3 (Option.none : Option Jvm.ClassFile.FieldType)) ∈ wg := List.mem_filter.mpr ⟨List.mem_append_right _ (List.mem_append_right _ (List.mem_append_right _ (List.mem_append_right _ (List.mem_append_right _ (List.mem_of_getElem? (i := 40) rfl))))), rfl⟩
theorem wt5_41 : (Cond.methodLink "MacroReckonerModel" 196 ⟨"MacroReckonerModel", "remainder", "(II)I"⟩) ∈ wg := List.mem_filter.mpr ⟨List.mem_append_right _ (List.mem_append_right _ (List.mem_append_right _ (List.mem_append_right _ (List.mem_append_right _ (List.mem_of_getElem? (i := 41) rfl))))), rfl⟩
theorem wt5_43 : (Cond.instanceMethod ⟨"MacroReckonerModel", "remainder", "(II)I"⟩) ∈ wg := List.mem_filter.mpr ⟨List.mem_append_right _ (List.mem_append_right _ (List.mem_append_right _ (List.mem_append_right _ (List.mem_append_right _ (List.mem_of_getElem? (i := 43) rfl))))), rfl⟩
theorem wt5_44 : (Cond.code ⟨"MacroReckonerModel", "remainder", "(II)I"⟩ prog_9_method_23_code 4 (Option.some Jvm.ClassFile.FieldType.int)) ∈ wg := List.mem_filter.mpr ⟨List.mem_append_right _ (List.mem_append_right _ (List.mem_append_right _ (List.mem_append_right _ (List.mem_append_right _ (List.mem_of_getElem? (i := 44) rfl))))), rfl⟩
theorem wt5_45 : (Cond.methodLink "MacroReckonerModel" 199 ⟨"MacroReckonerModel", "power", "(II)I"⟩) ∈ wg := List.mem_filter.mpr ⟨List.mem_append_right _ (List.mem_append_right _ (List.mem_append_right _ (List.mem_append_right _ (List.mem_append_right _ (List.mem_of_getElem? (i := 45) rfl))))), rfl⟩
theorem wt5_47 : (Cond.instanceMethod ⟨"MacroReckonerModel", "power", "(II)I"⟩) ∈ wg := List.mem_filter.mpr ⟨List.mem_append_right _ (List.mem_append_right _ (List.mem_append_right _ (List.mem_append_right _ (List.mem_append_right _ (List.mem_of_getElem? (i := 47) rfl))))), rfl⟩
theorem wt5_48 : (Cond.code ⟨"MacroReckonerModel", "power", "(II)I"⟩ prog_9_method_25_code 8 (Option.some Jvm.ClassFile.FieldType.int)) ∈ wg := List.mem_filter.mpr ⟨List.mem_append_right _ (List.mem_append_right _ (List.mem_append_right _ (List.mem_append_right _ (List.mem_append_right _ (List.mem_of_getElem? (i := 48) rfl))))), rfl⟩
theorem wt5_49 : (Cond.methodLink "MacroReckonerModel" 107 ⟨"MacroReckonerModel", "small", "(I)I"⟩) ∈ wg := List.mem_filter.mpr ⟨List.mem_append_right _ (List.mem_append_right _ (List.mem_append_right _ (List.mem_append_right _ (List.mem_append_right _ (List.mem_of_getElem? (i := 49) rfl))))), rfl⟩
theorem wt5_51 : (Cond.instanceMethod ⟨"MacroReckonerModel", "small", "(I)I"⟩) ∈ wg := List.mem_filter.mpr ⟨List.mem_append_right _ (List.mem_append_right _ (List.mem_append_right _ (List.mem_append_right _ (List.mem_append_right _ (List.mem_of_getElem? (i := 51) rfl))))), rfl⟩
theorem wt5_52 : (Cond.code ⟨"MacroReckonerModel", "small", "(I)I"⟩ prog_9_method_24_code 4 (Option.some Jvm.ClassFile.FieldType.int)) ∈ wg := List.mem_filter.mpr ⟨List.mem_append_right _ (List.mem_append_right _ (List.mem_append_right _ (List.mem_append_right _ (List.mem_append_right _ (List.mem_of_getElem? (i := 52) rfl))))), rfl⟩
theorem wt5_53 : (Cond.methodLink "MacroReckonerModel" 76 ⟨"MacroReckonerModel", "unit", "(II)V"⟩) ∈ wg := List.mem_filter.mpr ⟨List.mem_append_right _ (List.mem_append_right _ (List.mem_append_right _ (List.mem_append_right _ (List.mem_append_right _ (List.mem_of_getElem? (i := 53) rfl))))), rfl⟩
theorem wt5_55 : (Cond.instanceMethod ⟨"MacroReckonerModel", "unit", "(II)V"⟩) ∈ wg := List.mem_filter.mpr ⟨List.mem_append_right _ (List.mem_append_right _ (List.mem_append_right _ (List.mem_append_right _ (List.mem_append_right _ (List.mem_of_getElem? (i := 55) rfl))))), rfl⟩
theorem wt5_56 : (Cond.code ⟨"MacroReckonerModel", "unit", "(II)V"⟩ prog_9_method_5_code 4 (Option.none : Option Jvm.ClassFile.FieldType)) ∈ wg := List.mem_filter.mpr ⟨List.mem_append_right _ (List.mem_append_right _ (List.mem_append_right _ (List.mem_append_right _ (List.mem_append_right _ (List.mem_of_getElem? (i := 56) rfl))))), rfl⟩
theorem wt5_57 : (Cond.methodLink "MacroReckonerModel" 70 ⟨"MacroReckonerModel", "copy", "(II)V"⟩) ∈ wg := List.mem_filter.mpr ⟨List.mem_append_right _ (List.mem_append_right _ (List.mem_append_right _ (List.mem_append_right _ (List.mem_append_right _ (List.mem_of_getElem? (i := 57) rfl))))), rfl⟩
theorem wt5_59 : (Cond.instanceMethod ⟨"MacroReckonerModel", "copy", "(II)V"⟩) ∈ wg := List.mem_filter.mpr ⟨List.mem_append_right _ (List.mem_append_right _ (List.mem_append_right _ (List.mem_append_right _ (List.mem_append_right _ (List.mem_of_getElem? (i := 59) rfl))))), rfl⟩
theorem wt5_60 : (Cond.code ⟨"MacroReckonerModel", "copy", "(II)V"⟩ prog_9_method_6_code 4 (Option.none : Option Jvm.ClassFile.FieldType)) ∈ wg := List.mem_filter.mpr ⟨List.mem_append_right _ (List.mem_append_right _ (List.mem_append_right _ (List.mem_append_right _ (List.mem_append_right _ (List.mem_of_getElem? (i := 60) rfl))))), rfl⟩
theorem wt5_61 : (Cond.methodLink "MacroReckonerModel" 202 ⟨"MacroReckonerModel", "rootOf", "(I)I"⟩) ∈ wg := List.mem_filter.mpr ⟨List.mem_append_right _ (List.mem_append_right _ (List.mem_append_right _ (List.mem_append_right _ (List.mem_append_right _ (List.mem_of_getElem? (i := 61) rfl))))), rfl⟩
theorem wt5_63 : (Cond.instanceMethod ⟨"MacroReckonerModel", "rootOf", "(I)I"⟩) ∈ wg := List.mem_filter.mpr ⟨List.mem_append_right _ (List.mem_append_right _ (List.mem_append_right _ (List.mem_append_right _ (List.mem_append_right _ (List.mem_of_getElem? (i := 63) rfl))))), rfl⟩
theorem wt5_64 : (Cond.code ⟨"MacroReckonerModel", "rootOf", "(I)I"⟩ prog_9_method_26_code 3 (Option.some Jvm.ClassFile.FieldType.int)) ∈ wg := List.mem_filter.mpr ⟨List.mem_append_right _ (List.mem_append_right _ (List.mem_append_right _ (List.mem_append_right _ (List.mem_append_right _ (List.mem_of_getElem? (i := 64) rfl))))), rfl⟩
theorem wt5_65 : (Cond.methodLink "MacroReckonerModel" 111 ⟨"MacroReckonerModel", "root", "()V"⟩) ∈ wg := List.mem_filter.mpr ⟨List.mem_append_right _ (List.mem_append_right _ (List.mem_append_right _ (List.mem_append_right _ (List.mem_append_right _ (List.mem_of_getElem? (i := 65) rfl))))), rfl⟩
theorem wt5_67 : (Cond.instanceMethod ⟨"MacroReckonerModel", "root", "()V"⟩) ∈ wg := List.mem_filter.mpr ⟨List.mem_append_right _ (List.mem_append_right _ (List.mem_append_right _ (List.mem_append_right _ (List.mem_append_right _ (List.mem_of_getElem? (i := 67) rfl))))), rfl⟩
theorem wt5_68 : (Cond.code ⟨"MacroReckonerModel", "root", "()V"⟩ prog_9_method_14_code 3 (Option.none : Option Jvm.ClassFile.FieldType)) ∈ wg := List.mem_filter.mpr ⟨List.mem_append_right _ (List.mem_append_right _ (List.mem_append_right _ (List.mem_append_right _ (List.mem_append_right _ (List.mem_of_getElem? (i := 68) rfl))))), rfl⟩
theorem wt5_69 : (Cond.methodLink "MacroReckonerModel" 175 ⟨"MacroReckonerModel", "makeSmall", "(I)I"⟩) ∈ wg := List.mem_filter.mpr ⟨List.mem_append_right _ (List.mem_append_right _ (List.mem_append_right _ (List.mem_append_right _ (List.mem_append_right _ (List.mem_of_getElem? (i := 69) rfl))))), rfl⟩
theorem wt5_71 : (Cond.instanceMethod ⟨"MacroReckonerModel", "makeSmall", "(I)I"⟩) ∈ wg := List.mem_filter.mpr ⟨List.mem_append_right _ (List.mem_append_right _ (List.mem_append_right _ (List.mem_append_right _ (List.mem_append_right _ (List.mem_of_getElem? (i := 71) rfl))))), rfl⟩
theorem wt5_72 : (Cond.code ⟨"MacroReckonerModel", "makeSmall", "(I)I"⟩ prog_9_method_17_code 3 (Option.some Jvm.ClassFile.FieldType.int)) ∈ wg := List.mem_filter.mpr ⟨List.mem_append_right _ (List.mem_append_right _ (List.mem_append_right _ (List.mem_append_right _ (List.mem_append_right _ (List.mem_of_getElem? (i := 72) rfl))))), rfl⟩
theorem wt5_73 : (Cond.methodLink "MacroReckonerModel" 178 ⟨"MacroReckonerModel", "setScale", "(I)I"⟩) ∈ wg := List.mem_filter.mpr ⟨List.mem_append_right _ (List.mem_append_right _ (List.mem_append_right _ (List.mem_append_right _ (List.mem_append_right _ (List.mem_of_getElem? (i := 73) rfl))))), rfl⟩
theorem wt5_75 : (Cond.instanceMethod ⟨"MacroReckonerModel", "setScale", "(I)I"⟩) ∈ wg := List.mem_filter.mpr ⟨List.mem_append_right _ (List.mem_append_right _ (List.mem_append_right _ (List.mem_append_right _ (List.mem_append_right _ (List.mem_of_getElem? (i := 75) rfl))))), rfl⟩
theorem wt5_76 : (Cond.code ⟨"MacroReckonerModel", "setScale", "(I)I"⟩ prog_9_method_48_code 3 (Option.some Jvm.ClassFile.FieldType.int)) ∈ wg := List.mem_filter.mpr ⟨List.mem_append_right _ (List.mem_append_right _ (List.mem_append_right _ (List.mem_append_right _ (List.mem_append_right _ (List.mem_of_getElem? (i := 76) rfl))))), rfl⟩
theorem wt5_77 : (Cond.methodLink "MacroReckonerModel" 181 ⟨"MacroReckonerModel", "runTop", "(I)I"⟩) ∈ wg := List.mem_filter.mpr ⟨List.mem_append_right _ (List.mem_append_right _ (List.mem_append_right _ (List.mem_append_right _ (List.mem_append_right _ (List.mem_of_getElem? (i := 77) rfl))))), rfl⟩
theorem wt5_79 : (Cond.instanceMethod ⟨"MacroReckonerModel", "runTop", "(I)I"⟩) ∈ wg := List.mem_filter.mpr ⟨List.mem_append_right _ (List.mem_append_right _ (List.mem_append_right _ (List.mem_append_right _ (List.mem_append_right _ (List.mem_of_getElem? (i := 79) rfl))))), rfl⟩
theorem wt5_80 : (Cond.code ⟨"MacroReckonerModel", "runTop", "(I)I"⟩ prog_9_method_49_code 3 (Option.some Jvm.ClassFile.FieldType.int)) ∈ wg := List.mem_filter.mpr ⟨List.mem_append_right _ (List.mem_append_right _ (List.mem_append_right _ (List.mem_append_right _ (List.mem_append_right _ (List.mem_of_getElem? (i := 80) rfl))))), rfl⟩
theorem wt5_81 : (Cond.methodLink "MacroReckonerModel" 184 ⟨"MacroReckonerModel", "printSome", "(II)I"⟩) ∈ wg := List.mem_filter.mpr ⟨List.mem_append_right _ (List.mem_append_right _ (List.mem_append_right _ (List.mem_append_right _ (List.mem_append_right _ (List.mem_of_getElem? (i := 81) rfl))))), rfl⟩
theorem wt5_83 : (Cond.instanceMethod ⟨"MacroReckonerModel", "printSome", "(II)I"⟩) ∈ wg := List.mem_filter.mpr ⟨List.mem_append_right _ (List.mem_append_right _ (List.mem_append_right _ (List.mem_append_right _ (List.mem_append_right _ (List.mem_of_getElem? (i := 83) rfl))))), rfl⟩
theorem wt5_84 : (Cond.code ⟨"MacroReckonerModel", "printSome", "(II)I"⟩ prog_9_method_50_code 6 (Option.some Jvm.ClassFile.FieldType.int)) ∈ wg := List.mem_filter.mpr ⟨List.mem_append_right _ (List.mem_append_right _ (List.mem_append_right _ (List.mem_append_right _ (List.mem_append_right _ (List.mem_of_getElem? (i := 84) rfl))))), rfl⟩
theorem wt5_85 : (Cond.methodLink "MacroReckonerModel" 208 ⟨"MacroReckonerModel", "widthOf", "(I)I"⟩) ∈ wg := List.mem_filter.mpr ⟨List.mem_append_right _ (List.mem_append_right _ (List.mem_append_right _ (List.mem_append_right _ (List.mem_append_right _ (List.mem_of_getElem? (i := 85) rfl))))), rfl⟩
theorem wt5_87 : (Cond.instanceMethod ⟨"MacroReckonerModel", "widthOf", "(I)I"⟩) ∈ wg := List.mem_filter.mpr ⟨List.mem_append_right _ (List.mem_append_right _ (List.mem_append_right _ (List.mem_append_right _ (List.mem_append_right _ (List.mem_of_getElem? (i := 87) rfl))))), rfl⟩
theorem wt5_88 : (Cond.code ⟨"MacroReckonerModel", "widthOf", "(I)I"⟩ prog_9_method_28_code 3 (Option.some Jvm.ClassFile.FieldType.int)) ∈ wg := List.mem_filter.mpr ⟨List.mem_append_right _ (List.mem_append_right _ (List.mem_append_right _ (List.mem_append_right _ (List.mem_append_right _ (List.mem_of_getElem? (i := 88) rfl))))), rfl⟩
theorem wt5_89 : (Cond.methodLink "MacroReckonerModel" 211 ⟨"MacroReckonerModel", "printThing", "(I)V"⟩) ∈ wg := List.mem_filter.mpr ⟨List.mem_append_right _ (List.mem_append_right _ (List.mem_append_right _ (List.mem_append_right _ (List.mem_append_right _ (List.mem_of_getElem? (i := 89) rfl))))), rfl⟩
theorem wt5_91 : (Cond.instanceMethod ⟨"MacroReckonerModel", "printThing", "(I)V"⟩) ∈ wg := List.mem_filter.mpr ⟨List.mem_append_right _ (List.mem_append_right _ (List.mem_append_right _ (List.mem_append_right _ (List.mem_append_right _ (List.mem_of_getElem? (i := 91) rfl))))), rfl⟩
theorem wt5_92 : (Cond.code ⟨"MacroReckonerModel", "printThing", "(I)V"⟩ prog_9_method_30_code 3 (Option.none : Option Jvm.ClassFile.FieldType)) ∈ wg := List.mem_filter.mpr ⟨List.mem_append_right _ (List.mem_append_right _ (List.mem_append_right _ (List.mem_append_right _ (List.mem_append_right _ (List.mem_of_getElem? (i := 92) rfl))))), rfl⟩
theorem wt5_93 : (Cond.methodLink "MacroReckonerModel" 117 ⟨"MacroReckonerModel", "print", "(I)V"⟩) ∈ wg := List.mem_filter.mpr ⟨List.mem_append_right _ (List.mem_append_right _ (List.mem_append_right _ (List.mem_append_right _ (List.mem_append_right _ (List.mem_of_getElem? (i := 93) rfl))))), rfl⟩
theorem wt5_95 : (Cond.instanceMethod ⟨"MacroReckonerModel", "print", "(I)V"⟩) ∈ wg := List.mem_filter.mpr ⟨List.mem_append_right _ (List.mem_append_right _ (List.mem_append_right _ (List.mem_append_right _ (List.mem_append_right _ (List.mem_of_getElem? (i := 95) rfl))))), rfl⟩
theorem wt5_96 : (Cond.code ⟨"MacroReckonerModel", "print", "(I)V"⟩ prog_9_method_29_code 2 (Option.none : Option Jvm.ClassFile.FieldType)) ∈ wg := List.mem_filter.mpr ⟨List.mem_append_right _ (List.mem_append_right _ (List.mem_append_right _ (List.mem_append_right _ (List.mem_append_right _ (List.mem_of_getElem? (i := 96) rfl))))), rfl⟩
theorem wt5_97 : (Cond.methodLink "MacroReckonerLaw" 40 ⟨"MacroReckonerModel", "drop", "()I"⟩) ∈ wg := List.mem_filter.mpr ⟨List.mem_append_right _ (List.mem_append_right _ (List.mem_append_right _ (List.mem_append_right _ (List.mem_append_right _ (List.mem_of_getElem? (i := 97) rfl))))), rfl⟩
theorem wt5_98 : (Cond.instanceMethod ⟨"MacroReckonerModel", "drop", "()I"⟩) ∈ wg := List.mem_filter.mpr ⟨List.mem_append_right _ (List.mem_append_right _ (List.mem_append_right _ (List.mem_append_right _ (List.mem_append_right _ (List.mem_of_getElem? (i := 98) rfl))))), rfl⟩
theorem wt5_99 : (Cond.selects "MacroReckonerModel" ⟨"MacroReckonerModel", "drop", "()I"⟩ ⟨"MacroReckonerModel", "drop", "()I"⟩) ∈ wg := List.mem_filter.mpr ⟨List.mem_append_right _ (List.mem_append_right _ (List.mem_append_right _ (List.mem_append_right _ (List.mem_append_right _ (List.mem_of_getElem? (i := 99) rfl))))), rfl⟩
theorem wt5_100 : (Cond.code ⟨"MacroReckonerModel", "drop", "()I"⟩ prog_9_method_55_code 2 (Option.some Jvm.ClassFile.FieldType.int)) ∈ wg := List.mem_filter.mpr ⟨List.mem_append_right _ (List.mem_append_right _ (List.mem_append_right _ (List.mem_append_right _ (List.mem_append_right _ (List.mem_of_getElem? (i := 100) rfl))))), rfl⟩
theorem wt5_101 : (Cond.methodLink "MacroReckonerLaw" 44 ⟨"MacroReckonerModel", "depth", "()I"⟩) ∈ wg := List.mem_filter.mpr ⟨List.mem_append_right _ (List.mem_append_right _ (List.mem_append_right _ (List.mem_append_right _ (List.mem_append_right _ (List.mem_of_getElem? (i := 101) rfl))))), rfl⟩
theorem wt5_102 : (Cond.instanceMethod ⟨"MacroReckonerModel", "depth", "()I"⟩) ∈ wg := List.mem_filter.mpr ⟨List.mem_append_right _ (List.mem_append_right _ (List.mem_append_right _ (List.mem_append_right _ (List.mem_append_right _ (List.mem_of_getElem? (i := 102) rfl))))), rfl⟩
theorem wt5_103 : (Cond.selects "MacroReckonerModel" ⟨"MacroReckonerModel", "depth", "()I"⟩ ⟨"MacroReckonerModel", "depth", "()I"⟩) ∈ wg := List.mem_filter.mpr ⟨List.mem_append_right _ (List.mem_append_right _ (List.mem_append_right _ (List.mem_append_right _ (List.mem_append_right _ (List.mem_of_getElem? (i := 103) rfl))))), rfl⟩
theorem wt5_104 : (Cond.code ⟨"MacroReckonerModel", "depth", "()I"⟩ prog_9_method_56_code 1 (Option.some Jvm.ClassFile.FieldType.int)) ∈ wg := List.mem_filter.mpr ⟨List.mem_append_right _ (List.mem_append_right _ (List.mem_append_right _ (List.mem_append_right _ (List.mem_append_right _ (List.mem_of_getElem? (i := 104) rfl))))), rfl⟩
theorem wt5_105 : (Cond.methodLink "MacroReckonerLaw" 48 ⟨"MacroReckonerModel", "scale", "()I"⟩) ∈ wg := List.mem_filter.mpr ⟨List.mem_append_right _ (List.mem_append_right _ (List.mem_append_right _ (List.mem_append_right _ (List.mem_append_right _ (List.mem_of_getElem? (i := 105) rfl))))), rfl⟩
theorem wt5_106 : (Cond.instanceMethod ⟨"MacroReckonerModel", "scale", "()I"⟩) ∈ wg := List.mem_filter.mpr ⟨List.mem_append_right _ (List.mem_append_right _ (List.mem_append_right _ (List.mem_append_right _ (List.mem_append_right _ (List.mem_of_getElem? (i := 106) rfl))))), rfl⟩
theorem wt5_107 : (Cond.selects "MacroReckonerModel" ⟨"MacroReckonerModel", "scale", "()I"⟩ ⟨"MacroReckonerModel", "scale", "()I"⟩) ∈ wg := List.mem_filter.mpr ⟨List.mem_append_right _ (List.mem_append_right _ (List.mem_append_right _ (List.mem_append_right _ (List.mem_append_right _ (List.mem_of_getElem? (i := 107) rfl))))), rfl⟩
theorem wt5_108 : (Cond.code ⟨"MacroReckonerModel", "scale", "()I"⟩ prog_9_method_57_code 1 (Option.some Jvm.ClassFile.FieldType.int)) ∈ wg := List.mem_filter.mpr ⟨List.mem_append_right _ (List.mem_append_right _ (List.mem_append_right _ (List.mem_append_right _ (List.mem_append_right _ (List.mem_of_getElem? (i := 108) rfl))))), rfl⟩
theorem wt5_109 : (Cond.methodLink "MacroReckonerLaw" 52 ⟨"MacroReckonerModel", "running", "()I"⟩) ∈ wg := List.mem_filter.mpr ⟨List.mem_append_right _ (List.mem_append_right _ (List.mem_append_right _ (List.mem_append_right _ (List.mem_append_right _ (List.mem_of_getElem? (i := 109) rfl))))), rfl⟩
theorem wt5_110 : (Cond.instanceMethod ⟨"MacroReckonerModel", "running", "()I"⟩) ∈ wg := List.mem_filter.mpr ⟨List.mem_append_right _ (List.mem_append_right _ (List.mem_append_right _ (List.mem_append_right _ (List.mem_append_right _ (List.mem_of_getElem? (i := 110) rfl))))), rfl⟩
theorem wt5_111 : (Cond.selects "MacroReckonerModel" ⟨"MacroReckonerModel", "running", "()I"⟩ ⟨"MacroReckonerModel", "running", "()I"⟩) ∈ wg := List.mem_filter.mpr ⟨List.mem_append_right _ (List.mem_append_right _ (List.mem_append_right _ (List.mem_append_right _ (List.mem_append_right _ (List.mem_of_getElem? (i := 111) rfl))))), rfl⟩
theorem wt5_112 : (Cond.code ⟨"MacroReckonerModel", "running", "()I"⟩ prog_9_method_58_code 1 (Option.some Jvm.ClassFile.FieldType.int)) ∈ wg := List.mem_filter.mpr ⟨List.mem_append_right _ (List.mem_append_right _ (List.mem_append_right _ (List.mem_append_right _ (List.mem_append_right _ (List.mem_of_getElem? (i := 112) rfl))))), rfl⟩
theorem wt5_113 : (Cond.methodLink "MacroReckonerLaw" 56 ⟨"MacroReckonerModel", "isText", "(C)Z"⟩) ∈ wg := List.mem_filter.mpr ⟨List.mem_append_right _ (List.mem_append_right _ (List.mem_append_right _ (List.mem_append_right _ (List.mem_append_right _ (List.mem_of_getElem? (i := 113) rfl))))), rfl⟩
theorem wt5_114 : (Cond.instanceMethod ⟨"MacroReckonerModel", "isText", "(C)Z"⟩) ∈ wg := List.mem_filter.mpr ⟨List.mem_append_right _ (List.mem_append_right _ (List.mem_append_right _ (List.mem_append_right _ (List.mem_append_right _ (List.mem_of_getElem? (i := 114) rfl))))), rfl⟩
theorem wt5_115 : (Cond.selects "MacroReckonerModel" ⟨"MacroReckonerModel", "isText", "(C)Z"⟩ ⟨"MacroReckonerModel", "isText", "(C)Z"⟩) ∈ wg := List.mem_filter.mpr ⟨List.mem_append_right _ (List.mem_append_right _ (List.mem_append_right _ (List.mem_append_right _ (List.mem_append_right _ (List.mem_of_getElem? (i := 115) rfl))))), rfl⟩
theorem wt5_116 : (Cond.code ⟨"MacroReckonerModel", "isText", "(C)Z"⟩ prog_9_method_59_code 2 (Option.some Jvm.ClassFile.FieldType.boolean)) ∈ wg := List.mem_filter.mpr ⟨List.mem_append_right _ (List.mem_append_right _ (List.mem_append_right _ (List.mem_append_right _ (List.mem_append_right _ (List.mem_of_getElem? (i := 116) rfl))))), rfl⟩
theorem wt5_117 : (Cond.methodLink "MacroReckonerLaw" 60 ⟨"MacroReckonerModel", "printed", "()I"⟩) ∈ wg := List.mem_filter.mpr ⟨List.mem_append_right _ (List.mem_append_right _ (List.mem_append_right _ (List.mem_append_right _ (List.mem_append_right _ (List.mem_of_getElem? (i := 117) rfl))))), rfl⟩
theorem wt5_118 : (Cond.instanceMethod ⟨"MacroReckonerModel", "printed", "()I"⟩) ∈ wg := List.mem_filter.mpr ⟨List.mem_append_right _ (List.mem_append_right _ (List.mem_append_right _ (List.mem_append_right _ (List.mem_append_right _ (List.mem_of_getElem? (i := 118) rfl))))), rfl⟩
theorem wt5_119 : (Cond.selects "MacroReckonerModel" ⟨"MacroReckonerModel", "printed", "()I"⟩ ⟨"MacroReckonerModel", "printed", "()I"⟩) ∈ wg := List.mem_filter.mpr ⟨List.mem_append_right _ (List.mem_append_right _ (List.mem_append_right _ (List.mem_append_right _ (List.mem_append_right _ (List.mem_of_getElem? (i := 119) rfl))))), rfl⟩
theorem wt5_120 : (Cond.code ⟨"MacroReckonerModel", "printed", "()I"⟩ prog_9_method_60_code 1 (Option.some Jvm.ClassFile.FieldType.int)) ∈ wg := List.mem_filter.mpr ⟨List.mem_append_right _ (List.mem_append_right _ (List.mem_append_right _ (List.mem_append_right _ (List.mem_append_right _ (List.mem_of_getElem? (i := 120) rfl))))), rfl⟩
theorem wt5_121 : (Cond.methodLink "MacroReckonerLaw" 65 ⟨"MacroReckonerModel", "charAt", "(I)C"⟩) ∈ wg := List.mem_filter.mpr ⟨List.mem_append_right _ (List.mem_append_right _ (List.mem_append_right _ (List.mem_append_right _ (List.mem_append_right _ (List.mem_of_getElem? (i := 121) rfl))))), rfl⟩
theorem wt5_122 : (Cond.instanceMethod ⟨"MacroReckonerModel", "charAt", "(I)C"⟩) ∈ wg := List.mem_filter.mpr ⟨List.mem_append_right _ (List.mem_append_right _ (List.mem_append_right _ (List.mem_append_right _ (List.mem_append_right _ (List.mem_of_getElem? (i := 122) rfl))))), rfl⟩
theorem wt5_123 : (Cond.selects "MacroReckonerModel" ⟨"MacroReckonerModel", "charAt", "(I)C"⟩ ⟨"MacroReckonerModel", "charAt", "(I)C"⟩) ∈ wg := List.mem_filter.mpr ⟨List.mem_append_right _ (List.mem_append_right _ (List.mem_append_right _ (List.mem_append_right _ (List.mem_append_right _ (List.mem_of_getElem? (i := 123) rfl))))), rfl⟩
theorem wt5_124 : (Cond.code ⟨"MacroReckonerModel", "charAt", "(I)C"⟩ prog_9_method_61_code 2 (Option.some Jvm.ClassFile.FieldType.char)) ∈ wg := List.mem_filter.mpr ⟨List.mem_append_right _ (List.mem_append_right _ (List.mem_append_right _ (List.mem_append_right _ (List.mem_append_right _ (List.mem_of_getElem? (i := 124) rfl))))), rfl⟩
theorem wt5_125 : (Cond.methodLink "MacroReckonerLaw" 69 ⟨"MacroReckonerModel", "tear", "()I"⟩) ∈ wg := List.mem_filter.mpr ⟨List.mem_append_right _ (List.mem_append_right _ (List.mem_append_right _ (List.mem_append_right _ (List.mem_append_right _ (List.mem_of_getElem? (i := 125) rfl))))), rfl⟩
theorem wt5_126 : (Cond.instanceMethod ⟨"MacroReckonerModel", "tear", "()I"⟩) ∈ wg := List.mem_filter.mpr ⟨List.mem_append_right _ (List.mem_append_right _ (List.mem_append_right _ (List.mem_append_right _ (List.mem_append_right _ (List.mem_of_getElem? (i := 126) rfl))))), rfl⟩
theorem wt5_127 : (Cond.selects "MacroReckonerModel" ⟨"MacroReckonerModel", "tear", "()I"⟩ ⟨"MacroReckonerModel", "tear", "()I"⟩) ∈ wg := List.mem_filter.mpr ⟨List.mem_append_right _ (List.mem_append_right _ (List.mem_append_right _ (List.mem_append_right _ (List.mem_append_right _ (List.mem_of_getElem? (i := 127) rfl))))), rfl⟩
theorem wt5_128 : (Cond.code ⟨"MacroReckonerModel", "tear", "()I"⟩ prog_9_method_62_code 2 (Option.some Jvm.ClassFile.FieldType.int)) ∈ wg := List.mem_filter.mpr ⟨List.mem_append_right _ (List.mem_append_right _ (List.mem_append_right _ (List.mem_append_right _ (List.mem_append_right _ (List.mem_of_getElem? (i := 128) rfl))))), rfl⟩
theorem wt5_129 : (Cond.arrayClass Jvm.ClassFile.FieldType.long) ∈ wg := List.mem_filter.mpr ⟨List.mem_append_right _ (List.mem_append_right _ (List.mem_append_right _ (List.mem_append_right _ (List.mem_append_right _ (List.mem_of_getElem? (i := 129) rfl))))), rfl⟩
theorem wt5_130 : (Cond.sameMethod "java/lang/Throwable" "java/lang/Throwable" "fillInStackTrace" "(I)Ljava/lang/Throwable;") ∈ wg := List.mem_filter.mpr ⟨List.mem_append_right _ (List.mem_append_right _ (List.mem_append_right _ (List.mem_append_right _ (List.mem_append_right _ (List.mem_of_getElem? (i := 130) rfl))))), rfl⟩
theorem wt5_131 : (Cond.fieldLink "java/lang/String" 15 "java/lang/String" "coder" "B") ∈ wg := List.mem_filter.mpr ⟨List.mem_append_right _ (List.mem_append_right _ (List.mem_append_right _ (List.mem_append_right _ (List.mem_append_right _ (List.mem_of_getElem? (i := 131) rfl))))), rfl⟩
theorem wt5_132 : (Cond.fieldLink "java/lang/String" 9 "java/lang/String" "value" "[B") ∈ wg := List.mem_filter.mpr ⟨List.mem_append_right _ (List.mem_append_right _ (List.mem_append_right _ (List.mem_append_right _ (List.mem_append_right _ (List.mem_of_getElem? (i := 132) rfl))))), rfl⟩
theorem ws1_0 : (Cond.selects "MacroReckoner" ⟨"MacroReckoner", "forgetSpentTexts", "()V"⟩ ⟨"MacroReckoner", "forgetSpentTexts", "()V"⟩) ∈ wg := List.mem_filter.mpr ⟨List.mem_append_left _ (wsel (q := (⟨"MacroReckoner", "forgetSpentTexts", "()V"⟩, 11)) (List.mem_append_left _ (List.mem_of_getElem? (i := 0) rfl))), rfl⟩
theorem ws1_1 : (Cond.selects "java/lang/Throwable" ⟨"java/lang/Throwable", "fillInStackTrace", "(I)Ljava/lang/Throwable;"⟩ ⟨"java/lang/Throwable", "fillInStackTrace", "(I)Ljava/lang/Throwable;"⟩) ∈ wg := List.mem_filter.mpr ⟨List.mem_append_left _ (wsel (q := (⟨"java/lang/Throwable", "fillInStackTrace", "(I)Ljava/lang/Throwable;"⟩, 6)) (List.mem_append_left _ (List.mem_of_getElem? (i := 1) rfl))), rfl⟩
theorem ws1_2 : (Cond.selects "MacroReckoner" ⟨"MacroReckoner", "takeToken", "()Z"⟩ ⟨"MacroReckoner", "takeToken", "()Z"⟩) ∈ wg := List.mem_filter.mpr ⟨List.mem_append_left _ (wsel (q := (⟨"MacroReckoner", "takeToken", "()Z"⟩, 11)) (List.mem_append_left _ (List.mem_of_getElem? (i := 2) rfl))), rfl⟩
theorem ws1_3 : (Cond.selects "MacroReckoner" ⟨"MacroReckoner", "findToken", "()Z"⟩ ⟨"MacroReckoner", "findToken", "()Z"⟩) ∈ wg := List.mem_filter.mpr ⟨List.mem_append_left _ (wsel (q := (⟨"MacroReckoner", "findToken", "()Z"⟩, 11)) (List.mem_append_left _ (List.mem_of_getElem? (i := 3) rfl))), rfl⟩
theorem ws1_4 : (Cond.selects "MacroReckoner" ⟨"MacroReckoner", "source", "()LMacroReckoner$Tape;"⟩ ⟨"MacroReckoner", "source", "()LMacroReckoner$Tape;"⟩) ∈ wg := List.mem_filter.mpr ⟨List.mem_append_left _ (wsel (q := (⟨"MacroReckoner", "source", "()LMacroReckoner$Tape;"⟩, 11)) (List.mem_append_left _ (List.mem_of_getElem? (i := 4) rfl))), rfl⟩
theorem ws1_5 : (Cond.selects "MacroReckoner$Token" ⟨"MacroReckoner$Token", "measure", "()Z"⟩ ⟨"MacroReckoner$Token", "measure", "()Z"⟩) ∈ wg := List.mem_filter.mpr ⟨List.mem_append_left _ (wsel (q := (⟨"MacroReckoner$Token", "measure", "()Z"⟩, 6)) (List.mem_append_left _ (List.mem_of_getElem? (i := 5) rfl))), rfl⟩
theorem ws1_6 : (Cond.selects "MacroReckoner$Token" ⟨"MacroReckoner$Token", "measureText", "()Z"⟩ ⟨"MacroReckoner$Token", "measureText", "()Z"⟩) ∈ wg := List.mem_filter.mpr ⟨List.mem_append_left _ (wsel (q := (⟨"MacroReckoner$Token", "measureText", "()Z"⟩, 6)) (List.mem_append_left _ (List.mem_of_getElem? (i := 6) rfl))), rfl⟩
theorem ws1_7 : (Cond.selects "MacroReckoner$Token" ⟨"MacroReckoner$Token", "measurePair", "()Z"⟩ ⟨"MacroReckoner$Token", "measurePair", "()Z"⟩) ∈ wg := List.mem_filter.mpr ⟨List.mem_append_left _ (wsel (q := (⟨"MacroReckoner$Token", "measurePair", "()Z"⟩, 6)) (List.mem_append_left _ (List.mem_of_getElem? (i := 7) rfl))), rfl⟩
theorem ws1_8 : (Cond.selects "MacroReckoner$Token" ⟨"MacroReckoner$Token", "measureNumeral", "()Z"⟩ ⟨"MacroReckoner$Token", "measureNumeral", "()Z"⟩) ∈ wg := List.mem_filter.mpr ⟨List.mem_append_left _ (wsel (q := (⟨"MacroReckoner$Token", "measureNumeral", "()Z"⟩, 6)) (List.mem_append_left _ (List.mem_of_getElem? (i := 8) rfl))), rfl⟩
theorem ws1_9 : (Cond.selects "MacroReckoner" ⟨"MacroReckoner", "whatIsMissing", "(C)I"⟩ ⟨"MacroReckoner", "whatIsMissing", "(C)I"⟩) ∈ wg := List.mem_filter.mpr ⟨List.mem_append_left _ (wsel (q := (⟨"MacroReckoner", "whatIsMissing", "(C)I"⟩, 11)) (List.mem_append_left _ (List.mem_of_getElem? (i := 9) rfl))), rfl⟩
theorem ws1_10 : (Cond.selects "MacroReckoner" ⟨"MacroReckoner", "perform", "(C)I"⟩ ⟨"MacroReckoner", "perform", "(C)I"⟩) ∈ wg := List.mem_filter.mpr ⟨List.mem_append_left _ (wsel (q := (⟨"MacroReckoner", "perform", "(C)I"⟩, 11)) (List.mem_append_left _ (List.mem_of_getElem? (i := 10) rfl))), rfl⟩
theorem ws1_11 : (Cond.selects "MacroReckoner" ⟨"MacroReckoner", "pushNumeral", "()I"⟩ ⟨"MacroReckoner", "pushNumeral", "()I"⟩) ∈ wg := List.mem_filter.mpr ⟨List.mem_append_left _ (wsel (q := (⟨"MacroReckoner", "pushNumeral", "()I"⟩, 11)) (List.mem_append_left _ (List.mem_of_getElem? (i := 11) rfl))), rfl⟩
theorem ws1_12 : (Cond.selects "MacroReckoner" ⟨"MacroReckoner", "push", "(LMacroReckoner$Value;)I"⟩ ⟨"MacroReckoner", "push", "(LMacroReckoner$Value;)I"⟩) ∈ wg := List.mem_filter.mpr ⟨List.mem_append_left _ (wsel (q := (⟨"MacroReckoner", "push", "(LMacroReckoner$Value;)I"⟩, 11)) (List.mem_append_left _ (List.mem_of_getElem? (i := 12) rfl))), rfl⟩
theorem ws1_13 : (Cond.selects "MacroReckoner" ⟨"MacroReckoner", "pushText", "()I"⟩ ⟨"MacroReckoner", "pushText", "()I"⟩) ∈ wg := List.mem_filter.mpr ⟨List.mem_append_left _ (wsel (q := (⟨"MacroReckoner", "pushText", "()I"⟩, 11)) (List.mem_append_left _ (List.mem_of_getElem? (i := 13) rfl))), rfl⟩
theorem ws1_14 : (Cond.selects "MacroReckoner" ⟨"MacroReckoner", "calculate", "(C)I"⟩ ⟨"MacroReckoner", "calculate", "(C)I"⟩) ∈ wg := List.mem_filter.mpr ⟨List.mem_append_left _ (wsel (q := (⟨"MacroReckoner", "calculate", "(C)I"⟩, 11)) (List.mem_append_left _ (List.mem_of_getElem? (i := 14) rfl))), rfl⟩
theorem ws1_15 : (Cond.selects "MacroReckoner$Arithmetic" ⟨"MacroReckoner$Arithmetic", "level", "(LMacroReckoner$Value;LMacroReckoner$Value;)I"⟩ ⟨"MacroReckoner$Arithmetic", "level", "(LMacroReckoner$Value;LMacroReckoner$Value;)I"⟩) ∈ wg := List.mem_filter.mpr ⟨List.mem_append_left _ (wsel (q := (⟨"MacroReckoner$Arithmetic", "level", "(LMacroReckoner$Value;LMacroReckoner$Value;)I"⟩, 5)) (List.mem_append_left _ (List.mem_of_getElem? (i := 15) rfl))), rfl⟩
theorem ws2_0 : (Cond.selects "MacroReckoner$Arithmetic" ⟨"MacroReckoner$Arithmetic", "finish", "(LMacroReckoner$Whole;ZI)I"⟩ ⟨"MacroReckoner$Arithmetic", "finish", "(LMacroReckoner$Whole;ZI)I"⟩) ∈ wg := List.mem_filter.mpr ⟨List.mem_append_left _ (wsel (q := (⟨"MacroReckoner$Arithmetic", "finish", "(LMacroReckoner$Whole;ZI)I"⟩, 5)) (List.mem_append_right _ (List.mem_append_left _ (List.mem_of_getElem? (i := 0) rfl)))), rfl⟩
theorem ws2_1 : (Cond.selects "MacroReckoner$Whole" ⟨"MacroReckoner$Whole", "trim", "()V"⟩ ⟨"MacroReckoner$Whole", "trim", "()V"⟩) ∈ wg := List.mem_filter.mpr ⟨List.mem_append_left _ (wsel (q := (⟨"MacroReckoner$Whole", "trim", "()V"⟩, 2)) (List.mem_append_right _ (List.mem_append_left _ (List.mem_of_getElem? (i := 1) rfl)))), rfl⟩
theorem ws2_2 : (Cond.selects "MacroReckoner$Arithmetic" ⟨"MacroReckoner$Arithmetic", "align", "(LMacroReckoner$Value;LMacroReckoner$Value;I)V"⟩ ⟨"MacroReckoner$Arithmetic", "align", "(LMacroReckoner$Value;LMacroReckoner$Value;I)V"⟩) ∈ wg := List.mem_filter.mpr ⟨List.mem_append_left _ (wsel (q := (⟨"MacroReckoner$Arithmetic", "align", "(LMacroReckoner$Value;LMacroReckoner$Value;I)V"⟩, 5)) (List.mem_append_right _ (List.mem_append_left _ (List.mem_of_getElem? (i := 2) rfl)))), rfl⟩
theorem ws2_3 : (Cond.selects "MacroReckoner$Whole" ⟨"MacroReckoner$Whole", "guessMultiple", "(LMacroReckoner$Whole;I)I"⟩ ⟨"MacroReckoner$Whole", "guessMultiple", "(LMacroReckoner$Whole;I)I"⟩) ∈ wg := List.mem_filter.mpr ⟨List.mem_append_left _ (wsel (q := (⟨"MacroReckoner$Whole", "guessMultiple", "(LMacroReckoner$Whole;I)I"⟩, 2)) (List.mem_append_right _ (List.mem_append_left _ (List.mem_of_getElem? (i := 3) rfl)))), rfl⟩
theorem ws2_4 : (Cond.selects "MacroReckoner$Whole" ⟨"MacroReckoner$Whole", "takeAway", "(LMacroReckoner$Whole;II)Z"⟩ ⟨"MacroReckoner$Whole", "takeAway", "(LMacroReckoner$Whole;II)Z"⟩) ∈ wg := List.mem_filter.mpr ⟨List.mem_append_left _ (wsel (q := (⟨"MacroReckoner$Whole", "takeAway", "(LMacroReckoner$Whole;II)Z"⟩, 2)) (List.mem_append_right _ (List.mem_append_left _ (List.mem_of_getElem? (i := 4) rfl)))), rfl⟩
theorem ws2_5 : (Cond.selects "MacroReckoner$Whole" ⟨"MacroReckoner$Whole", "giveBack", "(LMacroReckoner$Whole;I)V"⟩ ⟨"MacroReckoner$Whole", "giveBack", "(LMacroReckoner$Whole;I)V"⟩) ∈ wg := List.mem_filter.mpr ⟨List.mem_append_left _ (wsel (q := (⟨"MacroReckoner$Whole", "giveBack", "(LMacroReckoner$Whole;I)V"⟩, 2)) (List.mem_append_right _ (List.mem_append_left _ (List.mem_of_getElem? (i := 5) rfl)))), rfl⟩
theorem ws2_6 : (Cond.selects "MacroReckoner$Arithmetic" ⟨"MacroReckoner$Arithmetic", "raise", "(LMacroReckoner$Whole;I)Z"⟩ ⟨"MacroReckoner$Arithmetic", "raise", "(LMacroReckoner$Whole;I)Z"⟩) ∈ wg := List.mem_filter.mpr ⟨List.mem_append_left _ (wsel (q := (⟨"MacroReckoner$Arithmetic", "raise", "(LMacroReckoner$Whole;I)Z"⟩, 5)) (List.mem_append_right _ (List.mem_append_left _ (List.mem_of_getElem? (i := 6) rfl)))), rfl⟩
theorem ws2_7 : (Cond.selects "MacroReckoner" ⟨"MacroReckoner", "takeRoot", "()I"⟩ ⟨"MacroReckoner", "takeRoot", "()I"⟩) ∈ wg := List.mem_filter.mpr ⟨List.mem_append_left _ (wsel (q := (⟨"MacroReckoner", "takeRoot", "()I"⟩, 11)) (List.mem_append_right _ (List.mem_append_left _ (List.mem_of_getElem? (i := 7) rfl)))), rfl⟩
theorem ws2_8 : (Cond.selects "MacroReckoner" ⟨"MacroReckoner", "swap", "()I"⟩ ⟨"MacroReckoner", "swap", "()I"⟩) ∈ wg := List.mem_filter.mpr ⟨List.mem_append_left _ (wsel (q := (⟨"MacroReckoner", "swap", "()I"⟩, 11)) (List.mem_append_right _ (List.mem_append_left _ (List.mem_of_getElem? (i := 8) rfl)))), rfl⟩
theorem ws2_9 : (Cond.selects "MacroReckoner" ⟨"MacroReckoner", "clearStack", "()I"⟩ ⟨"MacroReckoner", "clearStack", "()I"⟩) ∈ wg := List.mem_filter.mpr ⟨List.mem_append_left _ (wsel (q := (⟨"MacroReckoner", "clearStack", "()I"⟩, 11)) (List.mem_append_right _ (List.mem_append_left _ (List.mem_of_getElem? (i := 9) rfl)))), rfl⟩
theorem ws2_10 : (Cond.selects "MacroReckoner" ⟨"MacroReckoner", "pushCount", "(I)I"⟩ ⟨"MacroReckoner", "pushCount", "(I)I"⟩) ∈ wg := List.mem_filter.mpr ⟨List.mem_append_left _ (wsel (q := (⟨"MacroReckoner", "pushCount", "(I)I"⟩, 11)) (List.mem_append_right _ (List.mem_append_left _ (List.mem_of_getElem? (i := 10) rfl)))), rfl⟩
theorem ws2_11 : (Cond.selects "MacroReckoner" ⟨"MacroReckoner", "takeScale", "()I"⟩ ⟨"MacroReckoner", "takeScale", "()I"⟩) ∈ wg := List.mem_filter.mpr ⟨List.mem_append_left _ (wsel (q := (⟨"MacroReckoner", "takeScale", "()I"⟩, 11)) (List.mem_append_right _ (List.mem_append_left _ (List.mem_of_getElem? (i := 11) rfl)))), rfl⟩
theorem ws2_12 : (Cond.selects "MacroReckoner" ⟨"MacroReckoner", "printTop", "()I"⟩ ⟨"MacroReckoner", "printTop", "()I"⟩) ∈ wg := List.mem_filter.mpr ⟨List.mem_append_left _ (wsel (q := (⟨"MacroReckoner", "printTop", "()I"⟩, 11)) (List.mem_append_right _ (List.mem_append_left _ (List.mem_of_getElem? (i := 12) rfl)))), rfl⟩
theorem ws2_13 : (Cond.selects "MacroReckoner$Paper" ⟨"MacroReckoner$Paper", "printDigits", "(LMacroReckoner$Value;)V"⟩ ⟨"MacroReckoner$Paper", "printDigits", "(LMacroReckoner$Value;)V"⟩) ∈ wg := List.mem_filter.mpr ⟨List.mem_append_left _ (wsel (q := (⟨"MacroReckoner$Paper", "printDigits", "(LMacroReckoner$Value;)V"⟩, 2)) (List.mem_append_right _ (List.mem_append_left _ (List.mem_of_getElem? (i := 13) rfl)))), rfl⟩
theorem ws2_14 : (Cond.selects "MacroReckoner" ⟨"MacroReckoner", "printAndTake", "()I"⟩ ⟨"MacroReckoner", "printAndTake", "()I"⟩) ∈ wg := List.mem_filter.mpr ⟨List.mem_append_left _ (wsel (q := (⟨"MacroReckoner", "printAndTake", "()I"⟩, 11)) (List.mem_append_right _ (List.mem_append_left _ (List.mem_of_getElem? (i := 14) rfl)))), rfl⟩
theorem ws2_15 : (Cond.selects "MacroReckoner" ⟨"MacroReckoner", "printAll", "()I"⟩ ⟨"MacroReckoner", "printAll", "()I"⟩) ∈ wg := List.mem_filter.mpr ⟨List.mem_append_left _ (wsel (q := (⟨"MacroReckoner", "printAll", "()I"⟩, 11)) (List.mem_append_right _ (List.mem_append_left _ (List.mem_of_getElem? (i := 15) rfl)))), rfl⟩
theorem ws3_0 : (Cond.selects "MacroReckoner" ⟨"MacroReckoner", "measure", "(Z)I"⟩ ⟨"MacroReckoner", "measure", "(Z)I"⟩) ∈ wg := List.mem_filter.mpr ⟨List.mem_append_left _ (wsel (q := (⟨"MacroReckoner", "measure", "(Z)I"⟩, 11)) (List.mem_append_right _ (List.mem_append_right _ (List.mem_append_left _ (List.mem_of_getElem? (i := 0) rfl))))), rfl⟩
theorem ws3_1 : (Cond.selects "MacroReckoner" ⟨"MacroReckoner", "store", "(LMacroReckoner$Value;)I"⟩ ⟨"MacroReckoner", "store", "(LMacroReckoner$Value;)I"⟩) ∈ wg := List.mem_filter.mpr ⟨List.mem_append_left _ (wsel (q := (⟨"MacroReckoner", "store", "(LMacroReckoner$Value;)I"⟩, 11)) (List.mem_append_right _ (List.mem_append_right _ (List.mem_append_left _ (List.mem_of_getElem? (i := 1) rfl))))), rfl⟩
theorem ws3_2 : (Cond.selects "MacroReckoner" ⟨"MacroReckoner", "runTop", "()I"⟩ ⟨"MacroReckoner", "runTop", "()I"⟩) ∈ wg := List.mem_filter.mpr ⟨List.mem_append_left _ (wsel (q := (⟨"MacroReckoner", "runTop", "()I"⟩, 11)) (List.mem_append_right _ (List.mem_append_right _ (List.mem_append_left _ (List.mem_of_getElem? (i := 2) rfl))))), rfl⟩
theorem ws3_3 : (Cond.selects "MacroReckoner" ⟨"MacroReckoner", "beginText", "(LMacroReckoner$Value;)I"⟩ ⟨"MacroReckoner", "beginText", "(LMacroReckoner$Value;)I"⟩) ∈ wg := List.mem_filter.mpr ⟨List.mem_append_left _ (wsel (q := (⟨"MacroReckoner", "beginText", "(LMacroReckoner$Value;)I"⟩, 11)) (List.mem_append_right _ (List.mem_append_right _ (List.mem_append_left _ (List.mem_of_getElem? (i := 3) rfl))))), rfl⟩
theorem ws3_4 : (Cond.selects "MacroReckoner" ⟨"MacroReckoner", "choose", "(CLMacroReckoner$Value;)I"⟩ ⟨"MacroReckoner", "choose", "(CLMacroReckoner$Value;)I"⟩) ∈ wg := List.mem_filter.mpr ⟨List.mem_append_left _ (wsel (q := (⟨"MacroReckoner", "choose", "(CLMacroReckoner$Value;)I"⟩, 11)) (List.mem_append_right _ (List.mem_append_right _ (List.mem_append_left _ (List.mem_of_getElem? (i := 4) rfl))))), rfl⟩
theorem ws3_5 : (Cond.selects "MacroReckoner" ⟨"MacroReckoner", "endTexts", "()I"⟩ ⟨"MacroReckoner", "endTexts", "()I"⟩) ∈ wg := List.mem_filter.mpr ⟨List.mem_append_left _ (wsel (q := (⟨"MacroReckoner", "endTexts", "()I"⟩, 11)) (List.mem_append_right _ (List.mem_append_right _ (List.mem_append_left _ (List.mem_of_getElem? (i := 5) rfl))))), rfl⟩
theorem ws3_6 : (Cond.selects "MacroReckoner" ⟨"MacroReckoner", "whatIsLeft", "()I"⟩ ⟨"MacroReckoner", "whatIsLeft", "()I"⟩) ∈ wg := List.mem_filter.mpr ⟨List.mem_append_left _ (wsel (q := (⟨"MacroReckoner", "whatIsLeft", "()I"⟩, 11)) (List.mem_append_right _ (List.mem_append_right _ (List.mem_append_left _ (List.mem_of_getElem? (i := 6) rfl))))), rfl⟩
theorem ws3_7 : (Cond.selects "MacroReckonerModel" ⟨"MacroReckonerModel", "isCommand", "()Z"⟩ ⟨"MacroReckonerModel", "isCommand", "()Z"⟩) ∈ wg := List.mem_filter.mpr ⟨List.mem_append_left _ (wsel (q := (⟨"MacroReckonerModel", "isCommand", "()Z"⟩, 23)) (List.mem_append_right _ (List.mem_append_right _ (List.mem_append_left _ (List.mem_of_getElem? (i := 7) rfl))))), rfl⟩
theorem ws3_8 : (Cond.selects "MacroReckonerModel" ⟨"MacroReckonerModel", "look", "()V"⟩ ⟨"MacroReckonerModel", "look", "()V"⟩) ∈ wg := List.mem_filter.mpr ⟨List.mem_append_left _ (wsel (q := (⟨"MacroReckonerModel", "look", "()V"⟩, 23)) (List.mem_append_right _ (List.mem_append_right _ (List.mem_append_left _ (List.mem_of_getElem? (i := 8) rfl))))), rfl⟩
theorem ws3_9 : (Cond.selects "MacroReckonerModel" ⟨"MacroReckonerModel", "at", "(I)I"⟩ ⟨"MacroReckonerModel", "at", "(I)I"⟩) ∈ wg := List.mem_filter.mpr ⟨List.mem_append_left _ (wsel (q := (⟨"MacroReckonerModel", "at", "(I)I"⟩, 23)) (List.mem_append_right _ (List.mem_append_right _ (List.mem_append_left _ (List.mem_of_getElem? (i := 9) rfl))))), rfl⟩
theorem ws3_10 : (Cond.selects "MacroReckonerModel" ⟨"MacroReckonerModel", "lookText", "(I)V"⟩ ⟨"MacroReckonerModel", "lookText", "(I)V"⟩) ∈ wg := List.mem_filter.mpr ⟨List.mem_append_left _ (wsel (q := (⟨"MacroReckonerModel", "lookText", "(I)V"⟩, 23)) (List.mem_append_right _ (List.mem_append_right _ (List.mem_append_left _ (List.mem_of_getElem? (i := 10) rfl))))), rfl⟩
theorem ws3_11 : (Cond.selects "MacroReckonerModel" ⟨"MacroReckonerModel", "lookNumeral", "(I)V"⟩ ⟨"MacroReckonerModel", "lookNumeral", "(I)V"⟩) ∈ wg := List.mem_filter.mpr ⟨List.mem_append_left _ (wsel (q := (⟨"MacroReckonerModel", "lookNumeral", "(I)V"⟩, 23)) (List.mem_append_right _ (List.mem_append_right _ (List.mem_append_left _ (List.mem_of_getElem? (i := 11) rfl))))), rfl⟩
theorem ws3_12 : (Cond.selects "MacroReckonerModel" ⟨"MacroReckonerModel", "command", "()I"⟩ ⟨"MacroReckonerModel", "command", "()I"⟩) ∈ wg := List.mem_filter.mpr ⟨List.mem_append_left _ (wsel (q := (⟨"MacroReckonerModel", "command", "()I"⟩, 23)) (List.mem_append_right _ (List.mem_append_right _ (List.mem_append_left _ (List.mem_of_getElem? (i := 12) rfl))))), rfl⟩
theorem ws3_13 : (Cond.selects "MacroReckonerModel" ⟨"MacroReckonerModel", "takeToken", "()V"⟩ ⟨"MacroReckonerModel", "takeToken", "()V"⟩) ∈ wg := List.mem_filter.mpr ⟨List.mem_append_left _ (wsel (q := (⟨"MacroReckonerModel", "takeToken", "()V"⟩, 23)) (List.mem_append_right _ (List.mem_append_right _ (List.mem_append_left _ (List.mem_of_getElem? (i := 13) rfl))))), rfl⟩
theorem ws3_14 : (Cond.selects "MacroReckonerModel" ⟨"MacroReckonerModel", "endTexts", "()V"⟩ ⟨"MacroReckonerModel", "endTexts", "()V"⟩) ∈ wg := List.mem_filter.mpr ⟨List.mem_append_left _ (wsel (q := (⟨"MacroReckonerModel", "endTexts", "()V"⟩, 23)) (List.mem_append_right _ (List.mem_append_right _ (List.mem_append_left _ (List.mem_of_getElem? (i := 14) rfl))))), rfl⟩
theorem ws3_15 : (Cond.selects "MacroReckonerModel" ⟨"MacroReckonerModel", "lose", "(I)V"⟩ ⟨"MacroReckonerModel", "lose", "(I)V"⟩) ∈ wg := List.mem_filter.mpr ⟨List.mem_append_left _ (wsel (q := (⟨"MacroReckonerModel", "lose", "(I)V"⟩, 23)) (List.mem_append_right _ (List.mem_append_right _ (List.mem_append_left _ (List.mem_of_getElem? (i := 15) rfl))))), rfl⟩
theorem ws4_0 : (Cond.selects "MacroReckonerModel" ⟨"MacroReckonerModel", "numeral", "()I"⟩ ⟨"MacroReckonerModel", "numeral", "()I"⟩) ∈ wg := List.mem_filter.mpr ⟨List.mem_append_left _ (wsel (q := (⟨"MacroReckonerModel", "numeral", "()I"⟩, 23)) (List.mem_append_right _ (List.mem_append_right _ (List.mem_append_right _ (List.mem_append_left _ (List.mem_of_getElem? (i := 0) rfl)))))), rfl⟩
theorem ws4_1 : (Cond.selects "MacroReckonerModel" ⟨"MacroReckonerModel", "append", "(III)V"⟩ ⟨"MacroReckonerModel", "append", "(III)V"⟩) ∈ wg := List.mem_filter.mpr ⟨List.mem_append_left _ (wsel (q := (⟨"MacroReckonerModel", "append", "(III)V"⟩, 23)) (List.mem_append_right _ (List.mem_append_right _ (List.mem_append_right _ (List.mem_append_left _ (List.mem_of_getElem? (i := 1) rfl)))))), rfl⟩
theorem ws4_2 : (Cond.selects "MacroReckonerModel" ⟨"MacroReckonerModel", "trim", "(I)V"⟩ ⟨"MacroReckonerModel", "trim", "(I)V"⟩) ∈ wg := List.mem_filter.mpr ⟨List.mem_append_left _ (wsel (q := (⟨"MacroReckonerModel", "trim", "(I)V"⟩, 23)) (List.mem_append_right _ (List.mem_append_right _ (List.mem_append_right _ (List.mem_append_left _ (List.mem_of_getElem? (i := 2) rfl)))))), rfl⟩
theorem ws4_3 : (Cond.selects "MacroReckonerModel" ⟨"MacroReckonerModel", "make", "(III)I"⟩ ⟨"MacroReckonerModel", "make", "(III)I"⟩) ∈ wg := List.mem_filter.mpr ⟨List.mem_append_left _ (wsel (q := (⟨"MacroReckonerModel", "make", "(III)I"⟩, 23)) (List.mem_append_right _ (List.mem_append_right _ (List.mem_append_right _ (List.mem_append_left _ (List.mem_of_getElem? (i := 3) rfl)))))), rfl⟩
theorem ws4_4 : (Cond.selects "MacroReckonerModel" ⟨"MacroReckonerModel", "put", "(I)I"⟩ ⟨"MacroReckonerModel", "put", "(I)I"⟩) ∈ wg := List.mem_filter.mpr ⟨List.mem_append_left _ (wsel (q := (⟨"MacroReckonerModel", "put", "(I)I"⟩, 23)) (List.mem_append_right _ (List.mem_append_right _ (List.mem_append_right _ (List.mem_append_left _ (List.mem_of_getElem? (i := 4) rfl)))))), rfl⟩
theorem ws4_5 : (Cond.selects "MacroReckonerModel" ⟨"MacroReckonerModel", "move", "(II)V"⟩ ⟨"MacroReckonerModel", "move", "(II)V"⟩) ∈ wg := List.mem_filter.mpr ⟨List.mem_append_left _ (wsel (q := (⟨"MacroReckonerModel", "move", "(II)V"⟩, 23)) (List.mem_append_right _ (List.mem_append_right _ (List.mem_append_right _ (List.mem_append_left _ (List.mem_of_getElem? (i := 5) rfl)))))), rfl⟩
theorem ws4_6 : (Cond.selects "MacroReckonerModel" ⟨"MacroReckonerModel", "text", "()I"⟩ ⟨"MacroReckonerModel", "text", "()I"⟩) ∈ wg := List.mem_filter.mpr ⟨List.mem_append_left _ (wsel (q := (⟨"MacroReckonerModel", "text", "()I"⟩, 23)) (List.mem_append_right _ (List.mem_append_right _ (List.mem_append_right _ (List.mem_append_left _ (List.mem_of_getElem? (i := 6) rfl)))))), rfl⟩
theorem ws4_7 : (Cond.selects "MacroReckonerModel" ⟨"MacroReckonerModel", "pair", "(II)I"⟩ ⟨"MacroReckonerModel", "pair", "(II)I"⟩) ∈ wg := List.mem_filter.mpr ⟨List.mem_append_left _ (wsel (q := (⟨"MacroReckonerModel", "pair", "(II)I"⟩, 23)) (List.mem_append_right _ (List.mem_append_right _ (List.mem_append_right _ (List.mem_append_left _ (List.mem_of_getElem? (i := 7) rfl)))))), rfl⟩
theorem ws4_8 : (Cond.selects "MacroReckonerModel" ⟨"MacroReckonerModel", "areNumbers", "(I)Z"⟩ ⟨"MacroReckonerModel", "areNumbers", "(I)Z"⟩) ∈ wg := List.mem_filter.mpr ⟨List.mem_append_left _ (wsel (q := (⟨"MacroReckonerModel", "areNumbers", "(I)Z"⟩, 23)) (List.mem_append_right _ (List.mem_append_right _ (List.mem_append_right _ (List.mem_append_left _ (List.mem_of_getElem? (i := 8) rfl)))))), rfl⟩
theorem ws4_9 : (Cond.selects "MacroReckonerModel" ⟨"MacroReckonerModel", "order", "(II)I"⟩ ⟨"MacroReckonerModel", "order", "(II)I"⟩) ∈ wg := List.mem_filter.mpr ⟨List.mem_append_left _ (wsel (q := (⟨"MacroReckonerModel", "order", "(II)I"⟩, 23)) (List.mem_append_right _ (List.mem_append_right _ (List.mem_append_right _ (List.mem_append_left _ (List.mem_of_getElem? (i := 9) rfl)))))), rfl⟩
theorem ws4_10 : (Cond.selects "MacroReckonerModel" ⟨"MacroReckonerModel", "load", "(III)V"⟩ ⟨"MacroReckonerModel", "load", "(III)V"⟩) ∈ wg := List.mem_filter.mpr ⟨List.mem_append_left _ (wsel (q := (⟨"MacroReckonerModel", "load", "(III)V"⟩, 23)) (List.mem_append_right _ (List.mem_append_right _ (List.mem_append_right _ (List.mem_append_left _ (List.mem_of_getElem? (i := 10) rfl)))))), rfl⟩
theorem ws4_11 : (Cond.selects "MacroReckonerModel" ⟨"MacroReckonerModel", "compare", "(II)I"⟩ ⟨"MacroReckonerModel", "compare", "(II)I"⟩) ∈ wg := List.mem_filter.mpr ⟨List.mem_append_left _ (wsel (q := (⟨"MacroReckonerModel", "compare", "(II)I"⟩, 23)) (List.mem_append_right _ (List.mem_append_right _ (List.mem_append_right _ (List.mem_append_left _ (List.mem_of_getElem? (i := 11) rfl)))))), rfl⟩
theorem ws4_12 : (Cond.selects "MacroReckonerModel" ⟨"MacroReckonerModel", "begin", "(I)I"⟩ ⟨"MacroReckonerModel", "begin", "(I)I"⟩) ∈ wg := List.mem_filter.mpr ⟨List.mem_append_left _ (wsel (q := (⟨"MacroReckonerModel", "begin", "(I)I"⟩, 23)) (List.mem_append_right _ (List.mem_append_right _ (List.mem_append_right _ (List.mem_append_left _ (List.mem_of_getElem? (i := 12) rfl)))))), rfl⟩
theorem ws4_13 : (Cond.selects "MacroReckonerModel" ⟨"MacroReckonerModel", "sign", "(I)I"⟩ ⟨"MacroReckonerModel", "sign", "(I)I"⟩) ∈ wg := List.mem_filter.mpr ⟨List.mem_append_left _ (wsel (q := (⟨"MacroReckonerModel", "sign", "(I)I"⟩, 23)) (List.mem_append_right _ (List.mem_append_right _ (List.mem_append_right _ (List.mem_append_left _ (List.mem_of_getElem? (i := 13) rfl)))))), rfl⟩
theorem ws4_14 : (Cond.selects "MacroReckonerModel" ⟨"MacroReckonerModel", "reckon", "(III)I"⟩ ⟨"MacroReckonerModel", "reckon", "(III)I"⟩) ∈ wg := List.mem_filter.mpr ⟨List.mem_append_left _ (wsel (q := (⟨"MacroReckonerModel", "reckon", "(III)I"⟩, 23)) (List.mem_append_right _ (List.mem_append_right _ (List.mem_append_right _ (List.mem_append_left _ (List.mem_of_getElem? (i := 14) rfl)))))), rfl⟩
theorem ws4_15 : (Cond.selects "MacroReckonerModel" ⟨"MacroReckonerModel", "plus", "(III)I"⟩ ⟨"MacroReckonerModel", "plus", "(III)I"⟩) ∈ wg := List.mem_filter.mpr ⟨List.mem_append_left _ (wsel (q := (⟨"MacroReckonerModel", "plus", "(III)I"⟩, 23)) (List.mem_append_right _ (List.mem_append_right _ (List.mem_append_right _ (List.mem_append_left _ (List.mem_of_getElem? (i := 15) rfl)))))), rfl⟩
theorem ws5_0 : (Cond.selects "MacroReckonerModel" ⟨"MacroReckonerModel", "increase", "(II)V"⟩ ⟨"MacroReckonerModel", "increase", "(II)V"⟩) ∈ wg := List.mem_filter.mpr ⟨List.mem_append_left _ (wsel (q := (⟨"MacroReckonerModel", "increase", "(II)V"⟩, 23)) (List.mem_append_right _ (List.mem_append_right _ (List.mem_append_right _ (List.mem_append_right _ (List.mem_append_left _ (List.mem_of_getElem? (i := 0) rfl))))))), rfl⟩
theorem ws5_1 : (Cond.selects "MacroReckonerModel" ⟨"MacroReckonerModel", "decrease", "(II)V"⟩ ⟨"MacroReckonerModel", "decrease", "(II)V"⟩) ∈ wg := List.mem_filter.mpr ⟨List.mem_append_left _ (wsel (q := (⟨"MacroReckonerModel", "decrease", "(II)V"⟩, 23)) (List.mem_append_right _ (List.mem_append_right _ (List.mem_append_right _ (List.mem_append_right _ (List.mem_append_left _ (List.mem_of_getElem? (i := 1) rfl))))))), rfl⟩
theorem ws5_2 : (Cond.selects "MacroReckonerModel" ⟨"MacroReckonerModel", "times", "(II)I"⟩ ⟨"MacroReckonerModel", "times", "(II)I"⟩) ∈ wg := List.mem_filter.mpr ⟨List.mem_append_left _ (wsel (q := (⟨"MacroReckonerModel", "times", "(II)I"⟩, 23)) (List.mem_append_right _ (List.mem_append_right _ (List.mem_append_right _ (List.mem_append_right _ (List.mem_append_left _ (List.mem_of_getElem? (i := 2) rfl))))))), rfl⟩
theorem ws5_3 : (Cond.selects "MacroReckonerModel" ⟨"MacroReckonerModel", "multiply", "(III)V"⟩ ⟨"MacroReckonerModel", "multiply", "(III)V"⟩) ∈ wg := List.mem_filter.mpr ⟨List.mem_append_left _ (wsel (q := (⟨"MacroReckonerModel", "multiply", "(III)V"⟩, 23)) (List.mem_append_right _ (List.mem_append_right _ (List.mem_append_right _ (List.mem_append_right _ (List.mem_append_left _ (List.mem_of_getElem? (i := 3) rfl))))))), rfl⟩
theorem ws5_4 : (Cond.selects "MacroReckonerModel" ⟨"MacroReckonerModel", "cut", "(II)V"⟩ ⟨"MacroReckonerModel", "cut", "(II)V"⟩) ∈ wg := List.mem_filter.mpr ⟨List.mem_append_left _ (wsel (q := (⟨"MacroReckonerModel", "cut", "(II)V"⟩, 23)) (List.mem_append_right _ (List.mem_append_right _ (List.mem_append_right _ (List.mem_append_right _ (List.mem_append_left _ (List.mem_of_getElem? (i := 4) rfl))))))), rfl⟩
theorem ws5_5 : (Cond.selects "MacroReckonerModel" ⟨"MacroReckonerModel", "quotient", "(II)I"⟩ ⟨"MacroReckonerModel", "quotient", "(II)I"⟩) ∈ wg := List.mem_filter.mpr ⟨List.mem_append_left _ (wsel (q := (⟨"MacroReckonerModel", "quotient", "(II)I"⟩, 23)) (List.mem_append_right _ (List.mem_append_right _ (List.mem_append_right _ (List.mem_append_right _ (List.mem_append_left _ (List.mem_of_getElem? (i := 5) rfl))))))), rfl⟩
theorem ws5_6 : (Cond.selects "MacroReckonerModel" ⟨"MacroReckonerModel", "divide", "()V"⟩ ⟨"MacroReckonerModel", "divide", "()V"⟩) ∈ wg := List.mem_filter.mpr ⟨List.mem_append_left _ (wsel (q := (⟨"MacroReckonerModel", "divide", "()V"⟩, 23)) (List.mem_append_right _ (List.mem_append_right _ (List.mem_append_right _ (List.mem_append_right _ (List.mem_append_left _ (List.mem_of_getElem? (i := 6) rfl))))))), rfl⟩
theorem ws5_7 : (Cond.selects "MacroReckonerModel" ⟨"MacroReckonerModel", "remainder", "(II)I"⟩ ⟨"MacroReckonerModel", "remainder", "(II)I"⟩) ∈ wg := List.mem_filter.mpr ⟨List.mem_append_left _ (wsel (q := (⟨"MacroReckonerModel", "remainder", "(II)I"⟩, 23)) (List.mem_append_right _ (List.mem_append_right _ (List.mem_append_right _ (List.mem_append_right _ (List.mem_append_left _ (List.mem_of_getElem? (i := 7) rfl))))))), rfl⟩
theorem ws5_8 : (Cond.selects "MacroReckonerModel" ⟨"MacroReckonerModel", "power", "(II)I"⟩ ⟨"MacroReckonerModel", "power", "(II)I"⟩) ∈ wg := List.mem_filter.mpr ⟨List.mem_append_left _ (wsel (q := (⟨"MacroReckonerModel", "power", "(II)I"⟩, 23)) (List.mem_append_right _ (List.mem_append_right _ (List.mem_append_right _ (List.mem_append_right _ (List.mem_append_left _ (List.mem_of_getElem? (i := 8) rfl))))))), rfl⟩
theorem ws5_9 : (Cond.selects "MacroReckonerModel" ⟨"MacroReckonerModel", "small", "(I)I"⟩ ⟨"MacroReckonerModel", "small", "(I)I"⟩) ∈ wg := List.mem_filter.mpr ⟨List.mem_append_left _ (wsel (q := (⟨"MacroReckonerModel", "small", "(I)I"⟩, 23)) (List.mem_append_right _ (List.mem_append_right _ (List.mem_append_right _ (List.mem_append_right _ (List.mem_append_left _ (List.mem_of_getElem? (i := 9) rfl))))))), rfl⟩
theorem ws5_10 : (Cond.selects "MacroReckonerModel" ⟨"MacroReckonerModel", "unit", "(II)V"⟩ ⟨"MacroReckonerModel", "unit", "(II)V"⟩) ∈ wg := List.mem_filter.mpr ⟨List.mem_append_left _ (wsel (q := (⟨"MacroReckonerModel", "unit", "(II)V"⟩, 23)) (List.mem_append_right _ (List.mem_append_right _ (List.mem_append_right _ (List.mem_append_right _ (List.mem_append_left _ (List.mem_of_getElem? (i := 10) rfl))))))), rfl⟩
theorem ws5_11 : (Cond.selects "MacroReckonerModel" ⟨"MacroReckonerModel", "copy", "(II)V"⟩ ⟨"MacroReckonerModel", "copy", "(II)V"⟩) ∈ wg := List.mem_filter.mpr ⟨List.mem_append_left _ (wsel (q := (⟨"MacroReckonerModel", "copy", "(II)V"⟩, 23)) (List.mem_append_right _ (List.mem_append_right _ (List.mem_append_right _ (List.mem_append_right _ (List.mem_append_left _ (List.mem_of_getElem? (i := 11) rfl))))))), rfl⟩
theorem ws5_12 : (Cond.selects "MacroReckonerModel" ⟨"MacroReckonerModel", "rootOf", "(I)I"⟩ ⟨"MacroReckonerModel", "rootOf", "(I)I"⟩) ∈ wg := List.mem_filter.mpr ⟨List.mem_append_left _ (wsel (q := (⟨"MacroReckonerModel", "rootOf", "(I)I"⟩, 23)) (List.mem_append_right _ (List.mem_append_right _ (List.mem_append_right _ (List.mem_append_right _ (List.mem_append_left _ (List.mem_of_getElem? (i := 12) rfl))))))), rfl⟩
theorem ws5_13 : (Cond.selects "MacroReckonerModel" ⟨"MacroReckonerModel", "root", "()V"⟩ ⟨"MacroReckonerModel", "root", "()V"⟩) ∈ wg := List.mem_filter.mpr ⟨List.mem_append_left _ (wsel (q := (⟨"MacroReckonerModel", "root", "()V"⟩, 23)) (List.mem_append_right _ (List.mem_append_right _ (List.mem_append_right _ (List.mem_append_right _ (List.mem_append_left _ (List.mem_of_getElem? (i := 13) rfl))))))), rfl⟩
theorem ws5_14 : (Cond.selects "MacroReckonerModel" ⟨"MacroReckonerModel", "makeSmall", "(I)I"⟩ ⟨"MacroReckonerModel", "makeSmall", "(I)I"⟩) ∈ wg := List.mem_filter.mpr ⟨List.mem_append_left _ (wsel (q := (⟨"MacroReckonerModel", "makeSmall", "(I)I"⟩, 23)) (List.mem_append_right _ (List.mem_append_right _ (List.mem_append_right _ (List.mem_append_right _ (List.mem_append_left _ (List.mem_of_getElem? (i := 14) rfl))))))), rfl⟩
theorem ws5_15 : (Cond.selects "MacroReckonerModel" ⟨"MacroReckonerModel", "setScale", "(I)I"⟩ ⟨"MacroReckonerModel", "setScale", "(I)I"⟩) ∈ wg := List.mem_filter.mpr ⟨List.mem_append_left _ (wsel (q := (⟨"MacroReckonerModel", "setScale", "(I)I"⟩, 23)) (List.mem_append_right _ (List.mem_append_right _ (List.mem_append_right _ (List.mem_append_right _ (List.mem_append_left _ (List.mem_of_getElem? (i := 15) rfl))))))), rfl⟩
theorem ws6_0 : (Cond.selects "MacroReckonerModel" ⟨"MacroReckonerModel", "runTop", "(I)I"⟩ ⟨"MacroReckonerModel", "runTop", "(I)I"⟩) ∈ wg := List.mem_filter.mpr ⟨List.mem_append_left _ (wsel (q := (⟨"MacroReckonerModel", "runTop", "(I)I"⟩, 23)) (List.mem_append_right _ (List.mem_append_right _ (List.mem_append_right _ (List.mem_append_right _ (List.mem_append_right _ (List.mem_of_getElem? (i := 0) rfl))))))), rfl⟩
theorem ws6_1 : (Cond.selects "MacroReckonerModel" ⟨"MacroReckonerModel", "printSome", "(II)I"⟩ ⟨"MacroReckonerModel", "printSome", "(II)I"⟩) ∈ wg := List.mem_filter.mpr ⟨List.mem_append_left _ (wsel (q := (⟨"MacroReckonerModel", "printSome", "(II)I"⟩, 23)) (List.mem_append_right _ (List.mem_append_right _ (List.mem_append_right _ (List.mem_append_right _ (List.mem_append_right _ (List.mem_of_getElem? (i := 1) rfl))))))), rfl⟩
theorem ws6_2 : (Cond.selects "MacroReckonerModel" ⟨"MacroReckonerModel", "widthOf", "(I)I"⟩ ⟨"MacroReckonerModel", "widthOf", "(I)I"⟩) ∈ wg := List.mem_filter.mpr ⟨List.mem_append_left _ (wsel (q := (⟨"MacroReckonerModel", "widthOf", "(I)I"⟩, 23)) (List.mem_append_right _ (List.mem_append_right _ (List.mem_append_right _ (List.mem_append_right _ (List.mem_append_right _ (List.mem_of_getElem? (i := 2) rfl))))))), rfl⟩
theorem ws6_3 : (Cond.selects "MacroReckonerModel" ⟨"MacroReckonerModel", "printThing", "(I)V"⟩ ⟨"MacroReckonerModel", "printThing", "(I)V"⟩) ∈ wg := List.mem_filter.mpr ⟨List.mem_append_left _ (wsel (q := (⟨"MacroReckonerModel", "printThing", "(I)V"⟩, 23)) (List.mem_append_right _ (List.mem_append_right _ (List.mem_append_right _ (List.mem_append_right _ (List.mem_append_right _ (List.mem_of_getElem? (i := 3) rfl))))))), rfl⟩
theorem ws6_4 : (Cond.selects "MacroReckonerModel" ⟨"MacroReckonerModel", "print", "(I)V"⟩ ⟨"MacroReckonerModel", "print", "(I)V"⟩) ∈ wg := List.mem_filter.mpr ⟨List.mem_append_left _ (wsel (q := (⟨"MacroReckonerModel", "print", "(I)V"⟩, 23)) (List.mem_append_right _ (List.mem_append_right _ (List.mem_append_right _ (List.mem_append_right _ (List.mem_append_right _ (List.mem_of_getElem? (i := 4) rfl))))))), rfl⟩
def TAr : u_T := fun k => match k with
  | 0 => ("MacroReckoner$Arithmetic", "result", "LMacroReckoner$Value;", true)
  | 1 => ("MacroReckoner$Arithmetic", "left", "LMacroReckoner$Whole;", true)
  | 2 => ("MacroReckoner$Arithmetic", "right", "LMacroReckoner$Whole;", true)
  | 3 => ("MacroReckoner$Arithmetic", "rest", "LMacroReckoner$Whole;", true)
  | _ => ("MacroReckoner$Arithmetic", "ratio", "LMacroReckoner$Whole;", true)
def tyAr : Nat → FieldType := fun k => match k with
  | 0 => (.object "MacroReckoner$Value")
  | 1 => (.object "MacroReckoner$Whole")
  | 2 => (.object "MacroReckoner$Whole")
  | 3 => (.object "MacroReckoner$Whole")
  | _ => (.object "MacroReckoner$Whole")
theorem nmAr : ∀ a, a < 5 → ∀ b, b < 5 → a ≠ b → (TAr a).2.1 ≠ (TAr b).2.1 := by decide +kernel
theorem tyAr_ok : ∀ k, k < 5 → parseFieldDescriptor (TAr k).2.2.1 = some (tyAr k) := by decide +kernel
theorem inAr : ∀ w ∈ u_ws "MacroReckoner$Arithmetic" TAr 5, w ∈ wg := by
  show ∀ w ∈ ([.laysFinal "MacroReckoner$Arithmetic" "MacroReckoner$Arithmetic" "result" "LMacroReckoner$Value;", .laysFinal "MacroReckoner$Arithmetic" "MacroReckoner$Arithmetic" "left" "LMacroReckoner$Whole;", .laysFinal "MacroReckoner$Arithmetic" "MacroReckoner$Arithmetic" "right" "LMacroReckoner$Whole;", .laysFinal "MacroReckoner$Arithmetic" "MacroReckoner$Arithmetic" "rest" "LMacroReckoner$Whole;", .laysFinal "MacroReckoner$Arithmetic" "MacroReckoner$Arithmetic" "ratio" "LMacroReckoner$Whole;"] : List Cond), w ∈ wg
  exact List.forall_mem_cons.mpr ⟨wt1_147, List.forall_mem_cons.mpr ⟨wt1_149, List.forall_mem_cons.mpr ⟨wt1_151, List.forall_mem_cons.mpr ⟨wt1_153, List.forall_mem_cons.mpr ⟨wt1_155, fun _ h => absurd h List.not_mem_nil⟩⟩⟩⟩⟩
def TPa : u_T := fun k => match k with
  | 0 => ("MacroReckoner$Paper", "row", "[C", true)
  | _ => ("MacroReckoner$Paper", "length", "I", false)
def tyPa : Nat → FieldType := fun k => match k with
  | 0 => (.array .char)
  | _ => .int
theorem nmPa : ∀ a, a < 2 → ∀ b, b < 2 → a ≠ b → (TPa a).2.1 ≠ (TPa b).2.1 := by decide +kernel
theorem tyPa_ok : ∀ k, k < 2 → parseFieldDescriptor (TPa k).2.2.1 = some (tyPa k) := by decide +kernel
theorem inPa : ∀ w ∈ u_ws "MacroReckoner$Paper" TPa 2, w ∈ wg := by
  show ∀ w ∈ ([.laysFinal "MacroReckoner$Paper" "MacroReckoner$Paper" "row" "[C", .lays "MacroReckoner$Paper" "MacroReckoner$Paper" "length" "I"] : List Cond), w ∈ wg
  exact List.forall_mem_cons.mpr ⟨wt1_168, List.forall_mem_cons.mpr ⟨wt1_170, fun _ h => absurd h List.not_mem_nil⟩⟩
def TTa : u_T := fun k => match k with
  | 0 => ("MacroReckoner$Tape", "row", "[C", true)
  | 1 => ("MacroReckoner$Tape", "at", "I", false)
  | _ => ("MacroReckoner$Tape", "end", "I", false)
def tyTa : Nat → FieldType := fun k => match k with
  | 0 => (.array .char)
  | 1 => .int
  | _ => .int
theorem nmTa : ∀ a, a < 3 → ∀ b, b < 3 → a ≠ b → (TTa a).2.1 ≠ (TTa b).2.1 := by decide +kernel
theorem tyTa_ok : ∀ k, k < 3 → parseFieldDescriptor (TTa k).2.2.1 = some (tyTa k) := by decide +kernel
theorem inTa : ∀ w ∈ u_ws "MacroReckoner$Tape" TTa 3, w ∈ wg := by
  show ∀ w ∈ ([.laysFinal "MacroReckoner$Tape" "MacroReckoner$Tape" "row" "[C", .lays "MacroReckoner$Tape" "MacroReckoner$Tape" "at" "I", .lays "MacroReckoner$Tape" "MacroReckoner$Tape" "end" "I"] : List Cond), w ∈ wg
  exact List.forall_mem_cons.mpr ⟨wt1_40, List.forall_mem_cons.mpr ⟨wt1_42, List.forall_mem_cons.mpr ⟨wt1_44, fun _ h => absurd h List.not_mem_nil⟩⟩⟩
def TTo : u_T := fun k => match k with
  | 0 => ("MacroReckoner$Token", "command", "C", false)
  | 1 => ("MacroReckoner$Token", "register", "I", false)
  | 2 => ("MacroReckoner$Token", "row", "[C", false)
  | 3 => ("MacroReckoner$Token", "start", "I", false)
  | 4 => ("MacroReckoner$Token", "end", "I", false)
  | _ => ("MacroReckoner$Token", "length", "I", false)
def tyTo : Nat → FieldType := fun k => match k with
  | 0 => .char
  | 1 => .int
  | 2 => (.array .char)
  | 3 => .int
  | 4 => .int
  | _ => .int
theorem nmTo : ∀ a, a < 6 → ∀ b, b < 6 → a ≠ b → (TTo a).2.1 ≠ (TTo b).2.1 := by decide +kernel
theorem tyTo_ok : ∀ k, k < 6 → parseFieldDescriptor (TTo k).2.2.1 = some (tyTo k) := by decide +kernel
theorem inTo : ∀ w ∈ u_ws "MacroReckoner$Token" TTo 6, w ∈ wg := by
  show ∀ w ∈ ([.lays "MacroReckoner$Token" "MacroReckoner$Token" "command" "C", .lays "MacroReckoner$Token" "MacroReckoner$Token" "register" "I", .lays "MacroReckoner$Token" "MacroReckoner$Token" "row" "[C", .lays "MacroReckoner$Token" "MacroReckoner$Token" "start" "I", .lays "MacroReckoner$Token" "MacroReckoner$Token" "end" "I", .lays "MacroReckoner$Token" "MacroReckoner$Token" "length" "I"] : List Cond), w ∈ wg
  exact List.forall_mem_cons.mpr ⟨wt1_66, List.forall_mem_cons.mpr ⟨wt1_68, List.forall_mem_cons.mpr ⟨wt1_70, List.forall_mem_cons.mpr ⟨wt1_72, List.forall_mem_cons.mpr ⟨wt1_74, List.forall_mem_cons.mpr ⟨wt1_76, fun _ h => absurd h List.not_mem_nil⟩⟩⟩⟩⟩⟩
def TVa : u_T := fun k => match k with
  | 0 => ("MacroReckoner$Value", "text", "Z", false)
  | 1 => ("MacroReckoner$Value", "whole", "LMacroReckoner$Whole;", true)
  | 2 => ("MacroReckoner$Value", "negative", "Z", false)
  | 3 => ("MacroReckoner$Value", "scale", "I", false)
  | 4 => ("MacroReckoner$Value", "row", "[C", true)
  | _ => ("MacroReckoner$Value", "length", "I", false)
def tyVa : Nat → FieldType := fun k => match k with
  | 0 => .boolean
  | 1 => (.object "MacroReckoner$Whole")
  | 2 => .boolean
  | 3 => .int
  | 4 => (.array .char)
  | _ => .int
theorem nmVa : ∀ a, a < 6 → ∀ b, b < 6 → a ≠ b → (TVa a).2.1 ≠ (TVa b).2.1 := by decide +kernel
theorem tyVa_ok : ∀ k, k < 6 → parseFieldDescriptor (TVa k).2.2.1 = some (tyVa k) := by decide +kernel
theorem inVa : ∀ w ∈ u_ws "MacroReckoner$Value" TVa 6, w ∈ wg := by
  show ∀ w ∈ ([.lays "MacroReckoner$Value" "MacroReckoner$Value" "text" "Z", .laysFinal "MacroReckoner$Value" "MacroReckoner$Value" "whole" "LMacroReckoner$Whole;", .lays "MacroReckoner$Value" "MacroReckoner$Value" "negative" "Z", .lays "MacroReckoner$Value" "MacroReckoner$Value" "scale" "I", .laysFinal "MacroReckoner$Value" "MacroReckoner$Value" "row" "[C", .lays "MacroReckoner$Value" "MacroReckoner$Value" "length" "I"] : List Cond), w ∈ wg
  exact List.forall_mem_cons.mpr ⟨wt1_121, List.forall_mem_cons.mpr ⟨wt1_123, List.forall_mem_cons.mpr ⟨wt1_125, List.forall_mem_cons.mpr ⟨wt1_127, List.forall_mem_cons.mpr ⟨wt1_129, List.forall_mem_cons.mpr ⟨wt1_131, fun _ h => absurd h List.not_mem_nil⟩⟩⟩⟩⟩⟩
def TWh : u_T := fun k => match k with
  | 0 => ("MacroReckoner$Whole", "groups", "[I", true)
  | _ => ("MacroReckoner$Whole", "used", "I", false)
def tyWh : Nat → FieldType := fun k => match k with
  | 0 => (.array .int)
  | _ => .int
theorem nmWh : ∀ a, a < 2 → ∀ b, b < 2 → a ≠ b → (TWh a).2.1 ≠ (TWh b).2.1 := by decide +kernel
theorem tyWh_ok : ∀ k, k < 2 → parseFieldDescriptor (TWh k).2.2.1 = some (tyWh k) := by decide +kernel
theorem inWh : ∀ w ∈ u_ws "MacroReckoner$Whole" TWh 2, w ∈ wg := by
  show ∀ w ∈ ([.laysFinal "MacroReckoner$Whole" "MacroReckoner$Whole" "groups" "[I", .lays "MacroReckoner$Whole" "MacroReckoner$Whole" "used" "I"] : List Cond), w ∈ wg
  exact List.forall_mem_cons.mpr ⟨wt1_94, List.forall_mem_cons.mpr ⟨wt1_96, fun _ h => absurd h List.not_mem_nil⟩⟩
def TMr : u_T := fun k => match k with
  | 0 => ("MacroReckoner", "input", "LMacroReckoner$Tape;", true)
  | 1 => ("MacroReckoner", "texts", "[LMacroReckoner$Tape;", true)
  | 2 => ("MacroReckoner", "textsRun", "I", false)
  | 3 => ("MacroReckoner", "token", "LMacroReckoner$Token;", true)
  | 4 => ("MacroReckoner", "stack", "[LMacroReckoner$Value;", true)
  | 5 => ("MacroReckoner", "height", "I", false)
  | 6 => ("MacroReckoner", "registers", "[LMacroReckoner$Value;", true)
  | 7 => ("MacroReckoner", "workScale", "I", false)
  | 8 => ("MacroReckoner", "result", "LMacroReckoner$Value;", true)
  | 9 => ("MacroReckoner", "arithmetic", "LMacroReckoner$Arithmetic;", true)
  | _ => ("MacroReckoner", "paper", "LMacroReckoner$Paper;", true)
def tyMr : Nat → FieldType := fun k => match k with
  | 0 => (.object "MacroReckoner$Tape")
  | 1 => (.array (.object "MacroReckoner$Tape"))
  | 2 => .int
  | 3 => (.object "MacroReckoner$Token")
  | 4 => (.array (.object "MacroReckoner$Value"))
  | 5 => .int
  | 6 => (.array (.object "MacroReckoner$Value"))
  | 7 => .int
  | 8 => (.object "MacroReckoner$Value")
  | 9 => (.object "MacroReckoner$Arithmetic")
  | _ => (.object "MacroReckoner$Paper")
theorem nmMr : ∀ a, a < 11 → ∀ b, b < 11 → a ≠ b → (TMr a).2.1 ≠ (TMr b).2.1 := by decide +kernel
theorem tyMr_ok : ∀ k, k < 11 → parseFieldDescriptor (TMr k).2.2.1 = some (tyMr k) := by decide +kernel
theorem inMr : ∀ w ∈ u_ws "MacroReckoner" TMr 11, w ∈ wg := by
  show ∀ w ∈ ([.laysFinal "MacroReckoner" "MacroReckoner" "input" "LMacroReckoner$Tape;", .laysFinal "MacroReckoner" "MacroReckoner" "texts" "[LMacroReckoner$Tape;", .lays "MacroReckoner" "MacroReckoner" "textsRun" "I", .laysFinal "MacroReckoner" "MacroReckoner" "token" "LMacroReckoner$Token;", .laysFinal "MacroReckoner" "MacroReckoner" "stack" "[LMacroReckoner$Value;", .lays "MacroReckoner" "MacroReckoner" "height" "I", .laysFinal "MacroReckoner" "MacroReckoner" "registers" "[LMacroReckoner$Value;", .lays "MacroReckoner" "MacroReckoner" "workScale" "I", .laysFinal "MacroReckoner" "MacroReckoner" "result" "LMacroReckoner$Value;", .laysFinal "MacroReckoner" "MacroReckoner" "arithmetic" "LMacroReckoner$Arithmetic;", .laysFinal "MacroReckoner" "MacroReckoner" "paper" "LMacroReckoner$Paper;"] : List Cond), w ∈ wg
  exact List.forall_mem_cons.mpr ⟨wt1_184, List.forall_mem_cons.mpr ⟨wt1_186, List.forall_mem_cons.mpr ⟨wt1_188, List.forall_mem_cons.mpr ⟨wt1_190, List.forall_mem_cons.mpr ⟨wt1_192, List.forall_mem_cons.mpr ⟨wt1_194, List.forall_mem_cons.mpr ⟨wt1_196, List.forall_mem_cons.mpr ⟨wt1_198, List.forall_mem_cons.mpr ⟨wt1_200, List.forall_mem_cons.mpr ⟨wt1_202, List.forall_mem_cons.mpr ⟨wt1_204, fun _ h => absurd h List.not_mem_nil⟩⟩⟩⟩⟩⟩⟩⟩⟩⟩⟩
def TMo : u_T := fun k => match k with
  | 0 => ("MacroReckonerModel", "fault", "I", false)
  | 1 => ("MacroReckonerModel", "left", "I", false)
  | 2 => ("MacroReckonerModel", "input", "[I", true)
  | 3 => ("MacroReckonerModel", "isText", "[Z", true)
  | 4 => ("MacroReckonerModel", "sign", "[I", true)
  | 5 => ("MacroReckonerModel", "scale", "[I", true)
  | 6 => ("MacroReckonerModel", "length", "[I", true)
  | 7 => ("MacroReckonerModel", "body", "[I", true)
  | 8 => ("MacroReckonerModel", "height", "I", false)
  | 9 => ("MacroReckonerModel", "k", "I", false)
  | 10 => ("MacroReckonerModel", "texts", "I", false)
  | 11 => ("MacroReckonerModel", "runFrom", "[I", true)
  | 12 => ("MacroReckonerModel", "runTo", "[I", true)
  | 13 => ("MacroReckonerModel", "runText", "[I", true)
  | 14 => ("MacroReckonerModel", "printed", "I", false)
  | 15 => ("MacroReckonerModel", "page", "[I", true)
  | 16 => ("MacroReckonerModel", "token", "I", false)
  | 17 => ("MacroReckonerModel", "from", "I", false)
  | 18 => ("MacroReckonerModel", "to", "I", false)
  | 19 => ("MacroReckonerModel", "taken", "[I", true)
  | 20 => ("MacroReckonerModel", "takenLength", "I", false)
  | 21 => ("MacroReckonerModel", "digits", "[I", true)
  | _ => ("MacroReckonerModel", "size", "[I", true)
def tyMo : Nat → FieldType := fun k => match k with
  | 0 => .int
  | 1 => .int
  | 2 => (.array .int)
  | 3 => (.array .boolean)
  | 4 => (.array .int)
  | 5 => (.array .int)
  | 6 => (.array .int)
  | 7 => (.array .int)
  | 8 => .int
  | 9 => .int
  | 10 => .int
  | 11 => (.array .int)
  | 12 => (.array .int)
  | 13 => (.array .int)
  | 14 => .int
  | 15 => (.array .int)
  | 16 => .int
  | 17 => .int
  | 18 => .int
  | 19 => (.array .int)
  | 20 => .int
  | 21 => (.array .int)
  | _ => (.array .int)
theorem nmMo : ∀ a, a < 23 → ∀ b, b < 23 → a ≠ b → (TMo a).2.1 ≠ (TMo b).2.1 := by decide +kernel
theorem tyMo_ok : ∀ k, k < 23 → parseFieldDescriptor (TMo k).2.2.1 = some (tyMo k) := by decide +kernel
theorem inMo : ∀ w ∈ u_ws "MacroReckonerModel" TMo 23, w ∈ wg := by
  show ∀ w ∈ ([.lays "MacroReckonerModel" "MacroReckonerModel" "fault" "I", .lays "MacroReckonerModel" "MacroReckonerModel" "left" "I", .laysFinal "MacroReckonerModel" "MacroReckonerModel" "input" "[I", .laysFinal "MacroReckonerModel" "MacroReckonerModel" "isText" "[Z", .laysFinal "MacroReckonerModel" "MacroReckonerModel" "sign" "[I", .laysFinal "MacroReckonerModel" "MacroReckonerModel" "scale" "[I", .laysFinal "MacroReckonerModel" "MacroReckonerModel" "length" "[I", .laysFinal "MacroReckonerModel" "MacroReckonerModel" "body" "[I", .lays "MacroReckonerModel" "MacroReckonerModel" "height" "I", .lays "MacroReckonerModel" "MacroReckonerModel" "k" "I", .lays "MacroReckonerModel" "MacroReckonerModel" "texts" "I", .laysFinal "MacroReckonerModel" "MacroReckonerModel" "runFrom" "[I", .laysFinal "MacroReckonerModel" "MacroReckonerModel" "runTo" "[I", .laysFinal "MacroReckonerModel" "MacroReckonerModel" "runText" "[I", .lays "MacroReckonerModel" "MacroReckonerModel" "printed" "I", .laysFinal "MacroReckonerModel" "MacroReckonerModel" "page" "[I", .lays "MacroReckonerModel" "MacroReckonerModel" "token" "I", .lays "MacroReckonerModel" "MacroReckonerModel" "from" "I", .lays "MacroReckonerModel" "MacroReckonerModel" "to" "I", .laysFinal "MacroReckonerModel" "MacroReckonerModel" "taken" "[I", .lays "MacroReckonerModel" "MacroReckonerModel" "takenLength" "I", .laysFinal "MacroReckonerModel" "MacroReckonerModel" "digits" "[I", .laysFinal "MacroReckonerModel" "MacroReckonerModel" "size" "[I"] : List Cond), w ∈ wg
  exact List.forall_mem_cons.mpr ⟨wt4_81, List.forall_mem_cons.mpr ⟨wt4_83, List.forall_mem_cons.mpr ⟨wt4_85, List.forall_mem_cons.mpr ⟨wt4_87, List.forall_mem_cons.mpr ⟨wt4_89, List.forall_mem_cons.mpr ⟨wt4_91, List.forall_mem_cons.mpr ⟨wt4_93, List.forall_mem_cons.mpr ⟨wt4_95, List.forall_mem_cons.mpr ⟨wt4_97, List.forall_mem_cons.mpr ⟨wt4_99, List.forall_mem_cons.mpr ⟨wt4_101, List.forall_mem_cons.mpr ⟨wt4_103, List.forall_mem_cons.mpr ⟨wt4_105, List.forall_mem_cons.mpr ⟨wt4_107, List.forall_mem_cons.mpr ⟨wt4_109, List.forall_mem_cons.mpr ⟨wt4_111, List.forall_mem_cons.mpr ⟨wt4_113, List.forall_mem_cons.mpr ⟨wt4_115, List.forall_mem_cons.mpr ⟨wt4_117, List.forall_mem_cons.mpr ⟨wt4_119, List.forall_mem_cons.mpr ⟨wt4_121, List.forall_mem_cons.mpr ⟨wt4_123, List.forall_mem_cons.mpr ⟨wt4_125, fun _ h => absurd h List.not_mem_nil⟩⟩⟩⟩⟩⟩⟩⟩⟩⟩⟩⟩⟩⟩⟩⟩⟩⟩⟩⟩⟩⟩⟩
abbrev vwCl : List vw_C := [("MacroReckoner$Arithmetic", TAr, 5), ("MacroReckoner$Paper", TPa, 2), ("MacroReckoner$Tape", TTa, 3), ("MacroReckoner$Token", TTo, 6), ("MacroReckoner$Value", TVa, 6), ("MacroReckoner$Whole", TWh, 2), ("MacroReckoner", TMr, 11), ("MacroReckonerModel", TMo, 23)]
abbrev tyA (dA : Nat → ClassId) : List (ClassId × FieldType) := [(dA 0, .int), (dA 1, .char), (dA 2, .boolean), (dA 3, .long), (dA 4, .object "MacroReckoner$Value"), (dA 5, .object "MacroReckoner$Tape")]
abbrev yMr_init : MethodName := ⟨"MacroReckoner", "<init>", "()V"⟩
abbrev wsMr_init : List Cond := Cond.code yMr_init prog_1_method_1_code 2 none :: wg
abbrev yMr_type : MethodName := ⟨"MacroReckoner", "type", "(C)Z"⟩
abbrev wsMr_type : List Cond := Cond.code yMr_type prog_1_method_2_code 2 (some .boolean) :: wg
abbrev yMr_run : MethodName := ⟨"MacroReckoner", "run", "(I)I"⟩
abbrev wsMr_run : List Cond := Cond.code yMr_run prog_1_method_3_code 4 (some .int) :: wg
abbrev yMr_drop : MethodName := ⟨"MacroReckoner", "drop", "()I"⟩
abbrev wsMr_drop : List Cond := Cond.code yMr_drop prog_1_method_4_code 2 (some .int) :: wg
abbrev yMr_depth : MethodName := ⟨"MacroReckoner", "depth", "()I"⟩
abbrev wsMr_depth : List Cond := Cond.code yMr_depth prog_1_method_5_code 1 (some .int) :: wg
abbrev yMr_scale : MethodName := ⟨"MacroReckoner", "scale", "()I"⟩
abbrev wsMr_scale : List Cond := Cond.code yMr_scale prog_1_method_6_code 1 (some .int) :: wg
abbrev yMr_running : MethodName := ⟨"MacroReckoner", "running", "()I"⟩
abbrev wsMr_running : List Cond := Cond.code yMr_running prog_1_method_7_code 1 (some .int) :: wg
abbrev yMr_isText : MethodName := ⟨"MacroReckoner", "isText", "(C)Z"⟩
abbrev wsMr_isText : List Cond := Cond.code yMr_isText prog_1_method_8_code 2 (some .boolean) :: wg
abbrev yMr_printed : MethodName := ⟨"MacroReckoner", "printed", "()I"⟩
abbrev wsMr_printed : List Cond := Cond.code yMr_printed prog_1_method_9_code 1 (some .int) :: wg
abbrev yMr_charAt : MethodName := ⟨"MacroReckoner", "charAt", "(I)C"⟩
abbrev wsMr_charAt : List Cond := Cond.code yMr_charAt prog_1_method_10_code 2 (some .char) :: wg
abbrev yMr_tear : MethodName := ⟨"MacroReckoner", "tear", "()I"⟩
abbrev wsMr_tear : List Cond := Cond.code yMr_tear prog_1_method_11_code 2 (some .int) :: wg
abbrev yMr_forgetSpentTexts : MethodName := ⟨"MacroReckoner", "forgetSpentTexts", "()V"⟩
abbrev wsMr_forgetSpentTexts : List Cond := Cond.code yMr_forgetSpentTexts prog_1_method_12_code 1 none :: wg
abbrev yMr_source : MethodName := ⟨"MacroReckoner", "source", "()LMacroReckoner$Tape;"⟩
abbrev wsMr_source : List Cond := Cond.code yMr_source prog_1_method_13_code 1 (some (.object "MacroReckoner$Tape")) :: wg
abbrev yMr_findToken : MethodName := ⟨"MacroReckoner", "findToken", "()Z"⟩
abbrev wsMr_findToken : List Cond := Cond.code yMr_findToken prog_1_method_14_code 1 (some .boolean) :: wg
abbrev yMr_takeToken : MethodName := ⟨"MacroReckoner", "takeToken", "()Z"⟩
abbrev wsMr_takeToken : List Cond := Cond.code yMr_takeToken prog_1_method_15_code 2 (some .boolean) :: wg
abbrev yMr_whatIsLeft : MethodName := ⟨"MacroReckoner", "whatIsLeft", "()I"⟩
abbrev wsMr_whatIsLeft : List Cond := Cond.code yMr_whatIsLeft prog_1_method_16_code 1 (some .int) :: wg
abbrev yMr_whatIsMissing : MethodName := ⟨"MacroReckoner", "whatIsMissing", "(C)I"⟩
abbrev wsMr_whatIsMissing : List Cond := Cond.code yMr_whatIsMissing prog_1_method_17_code 4 (some .int) :: wg
abbrev yMr_perform : MethodName := ⟨"MacroReckoner", "perform", "(C)I"⟩
abbrev wsMr_perform : List Cond := Cond.code yMr_perform prog_1_method_18_code 2 (some .int) :: wg
abbrev yMr_push : MethodName := ⟨"MacroReckoner", "push", "(LMacroReckoner$Value;)I"⟩
abbrev wsMr_push : List Cond := Cond.code yMr_push prog_1_method_19_code 2 (some .int) :: wg
abbrev yMr_pushNumeral : MethodName := ⟨"MacroReckoner", "pushNumeral", "()I"⟩
abbrev wsMr_pushNumeral : List Cond := Cond.code yMr_pushNumeral prog_1_method_20_code 1 (some .int) :: wg
abbrev yMr_pushText : MethodName := ⟨"MacroReckoner", "pushText", "()I"⟩
abbrev wsMr_pushText : List Cond := Cond.code yMr_pushText prog_1_method_21_code 2 (some .int) :: wg
abbrev yMr_pushCount : MethodName := ⟨"MacroReckoner", "pushCount", "(I)I"⟩
abbrev wsMr_pushCount : List Cond := Cond.code yMr_pushCount prog_1_method_22_code 2 (some .int) :: wg
abbrev yMr_calculate : MethodName := ⟨"MacroReckoner", "calculate", "(C)I"⟩
abbrev wsMr_calculate : List Cond := Cond.code yMr_calculate prog_1_method_23_code 5 (some .int) :: wg
abbrev yMr_takeRoot : MethodName := ⟨"MacroReckoner", "takeRoot", "()I"⟩
abbrev wsMr_takeRoot : List Cond := Cond.code yMr_takeRoot prog_1_method_24_code 3 (some .int) :: wg
abbrev yMr_swap : MethodName := ⟨"MacroReckoner", "swap", "()I"⟩
abbrev wsMr_swap : List Cond := Cond.code yMr_swap prog_1_method_25_code 2 (some .int) :: wg
abbrev yMr_clearStack : MethodName := ⟨"MacroReckoner", "clearStack", "()I"⟩
abbrev wsMr_clearStack : List Cond := Cond.code yMr_clearStack prog_1_method_26_code 1 (some .int) :: wg
abbrev yMr_takeScale : MethodName := ⟨"MacroReckoner", "takeScale", "()I"⟩
abbrev wsMr_takeScale : List Cond := Cond.code yMr_takeScale prog_1_method_27_code 2 (some .int) :: wg
abbrev yMr_printTop : MethodName := ⟨"MacroReckoner", "printTop", "()I"⟩
abbrev wsMr_printTop : List Cond := Cond.code yMr_printTop prog_1_method_28_code 2 (some .int) :: wg
abbrev yMr_printAndTake : MethodName := ⟨"MacroReckoner", "printAndTake", "()I"⟩
abbrev wsMr_printAndTake : List Cond := Cond.code yMr_printAndTake prog_1_method_29_code 2 (some .int) :: wg
abbrev yMr_printAll : MethodName := ⟨"MacroReckoner", "printAll", "()I"⟩
abbrev wsMr_printAll : List Cond := Cond.code yMr_printAll prog_1_method_30_code 3 (some .int) :: wg
abbrev yMr_measure : MethodName := ⟨"MacroReckoner", "measure", "(Z)I"⟩
abbrev wsMr_measure : List Cond := Cond.code yMr_measure prog_1_method_31_code 3 (some .int) :: wg
abbrev yMr_store : MethodName := ⟨"MacroReckoner", "store", "(LMacroReckoner$Value;)I"⟩
abbrev wsMr_store : List Cond := Cond.code yMr_store prog_1_method_32_code 2 (some .int) :: wg
abbrev yMr_runTop : MethodName := ⟨"MacroReckoner", "runTop", "()I"⟩
abbrev wsMr_runTop : List Cond := Cond.code yMr_runTop prog_1_method_33_code 3 (some .int) :: wg
abbrev yMr_choose : MethodName := ⟨"MacroReckoner", "choose", "(CLMacroReckoner$Value;)I"⟩
abbrev wsMr_choose : List Cond := Cond.code yMr_choose prog_1_method_34_code 8 (some .int) :: wg
abbrev yMr_beginText : MethodName := ⟨"MacroReckoner", "beginText", "(LMacroReckoner$Value;)I"⟩
abbrev wsMr_beginText : List Cond := Cond.code yMr_beginText prog_1_method_35_code 2 (some .int) :: wg
abbrev yMr_endTexts : MethodName := ⟨"MacroReckoner", "endTexts", "()I"⟩
abbrev wsMr_endTexts : List Cond := Cond.code yMr_endTexts prog_1_method_36_code 1 (some .int) :: wg
abbrev yMo_init : MethodName := ⟨"MacroReckonerModel", "<init>", "()V"⟩
abbrev wsMo_init : List Cond := Cond.code yMo_init prog_9_method_1_code 1 none :: wg
abbrev yMo_thrown : MethodName := ⟨"MacroReckonerModel", "thrown", "()I"⟩
abbrev wsMo_thrown : List Cond := Cond.code yMo_thrown prog_9_method_2_code 1 (some .int) :: wg
abbrev yMo_trim : MethodName := ⟨"MacroReckonerModel", "trim", "(I)V"⟩
abbrev wsMo_trim : List Cond := Cond.code yMo_trim prog_9_method_3_code 2 none :: wg
abbrev yMo_load : MethodName := ⟨"MacroReckonerModel", "load", "(III)V"⟩
abbrev wsMo_load : List Cond := Cond.code yMo_load prog_9_method_4_code 5 none :: wg
abbrev yMo_unit : MethodName := ⟨"MacroReckonerModel", "unit", "(II)V"⟩
abbrev wsMo_unit : List Cond := Cond.code yMo_unit prog_9_method_5_code 4 none :: wg
abbrev yMo_copy : MethodName := ⟨"MacroReckonerModel", "copy", "(II)V"⟩
abbrev wsMo_copy : List Cond := Cond.code yMo_copy prog_9_method_6_code 4 none :: wg
abbrev yMo_append : MethodName := ⟨"MacroReckonerModel", "append", "(III)V"⟩
abbrev wsMo_append : List Cond := Cond.code yMo_append prog_9_method_7_code 6 none :: wg
abbrev yMo_cut : MethodName := ⟨"MacroReckonerModel", "cut", "(II)V"⟩
abbrev wsMo_cut : List Cond := Cond.code yMo_cut prog_9_method_8_code 4 none :: wg
abbrev yMo_compare : MethodName := ⟨"MacroReckonerModel", "compare", "(II)I"⟩
abbrev wsMo_compare : List Cond := Cond.code yMo_compare prog_9_method_9_code 5 (some .int) :: wg
abbrev yMo_increase : MethodName := ⟨"MacroReckonerModel", "increase", "(II)V"⟩
abbrev wsMo_increase : List Cond := Cond.code yMo_increase prog_9_method_10_code 7 none :: wg
abbrev yMo_decrease : MethodName := ⟨"MacroReckonerModel", "decrease", "(II)V"⟩
abbrev wsMo_decrease : List Cond := Cond.code yMo_decrease prog_9_method_11_code 6 none :: wg
abbrev yMo_multiply : MethodName := ⟨"MacroReckonerModel", "multiply", "(III)V"⟩
abbrev wsMo_multiply : List Cond := Cond.code yMo_multiply prog_9_method_12_code 8 none :: wg
abbrev yMo_divide : MethodName := ⟨"MacroReckonerModel", "divide", "()V"⟩
abbrev wsMo_divide : List Cond := Cond.code yMo_divide prog_9_method_13_code 3 none :: wg
abbrev yMo_root : MethodName := ⟨"MacroReckonerModel", "root", "()V"⟩
abbrev wsMo_root : List Cond := Cond.code yMo_root prog_9_method_14_code 3 none :: wg
abbrev yMo_move : MethodName := ⟨"MacroReckonerModel", "move", "(II)V"⟩
abbrev wsMo_move : List Cond := Cond.code yMo_move prog_9_method_15_code 4 none :: wg
abbrev yMo_make : MethodName := ⟨"MacroReckonerModel", "make", "(III)I"⟩
abbrev wsMo_make : List Cond := Cond.code yMo_make prog_9_method_16_code 5 (some .int) :: wg
abbrev yMo_makeSmall : MethodName := ⟨"MacroReckonerModel", "makeSmall", "(I)I"⟩
abbrev wsMo_makeSmall : List Cond := Cond.code yMo_makeSmall prog_9_method_17_code 3 (some .int) :: wg
abbrev yMo_put : MethodName := ⟨"MacroReckonerModel", "put", "(I)I"⟩
abbrev wsMo_put : List Cond := Cond.code yMo_put prog_9_method_18_code 2 (some .int) :: wg
abbrev yMo_greater : MethodName := ⟨"MacroReckonerModel", "greater", "(II)I"⟩
abbrev wsMo_greater : List Cond := Cond.code yMo_greater prog_9_method_19_code 2 (some .int) :: wg
abbrev yMo_plus : MethodName := ⟨"MacroReckonerModel", "plus", "(III)I"⟩
abbrev wsMo_plus : List Cond := Cond.code yMo_plus prog_9_method_20_code 5 (some .int) :: wg
abbrev yMo_times : MethodName := ⟨"MacroReckonerModel", "times", "(II)I"⟩
abbrev wsMo_times : List Cond := Cond.code yMo_times prog_9_method_21_code 5 (some .int) :: wg
abbrev yMo_quotient : MethodName := ⟨"MacroReckonerModel", "quotient", "(II)I"⟩
abbrev wsMo_quotient : List Cond := Cond.code yMo_quotient prog_9_method_22_code 3 (some .int) :: wg
abbrev yMo_remainder : MethodName := ⟨"MacroReckonerModel", "remainder", "(II)I"⟩
abbrev wsMo_remainder : List Cond := Cond.code yMo_remainder prog_9_method_23_code 4 (some .int) :: wg
abbrev yMo_small : MethodName := ⟨"MacroReckonerModel", "small", "(I)I"⟩
abbrev wsMo_small : List Cond := Cond.code yMo_small prog_9_method_24_code 4 (some .int) :: wg
abbrev yMo_power : MethodName := ⟨"MacroReckonerModel", "power", "(II)I"⟩
abbrev wsMo_power : List Cond := Cond.code yMo_power prog_9_method_25_code 8 (some .int) :: wg
abbrev yMo_rootOf : MethodName := ⟨"MacroReckonerModel", "rootOf", "(I)I"⟩
abbrev wsMo_rootOf : List Cond := Cond.code yMo_rootOf prog_9_method_26_code 3 (some .int) :: wg
abbrev yMo_order : MethodName := ⟨"MacroReckonerModel", "order", "(II)I"⟩
abbrev wsMo_order : List Cond := Cond.code yMo_order prog_9_method_27_code 4 (some .int) :: wg
abbrev yMo_widthOf : MethodName := ⟨"MacroReckonerModel", "widthOf", "(I)I"⟩
abbrev wsMo_widthOf : List Cond := Cond.code yMo_widthOf prog_9_method_28_code 3 (some .int) :: wg
abbrev yMo_print : MethodName := ⟨"MacroReckonerModel", "print", "(I)V"⟩
abbrev wsMo_print : List Cond := Cond.code yMo_print prog_9_method_29_code 2 none :: wg
abbrev yMo_printThing : MethodName := ⟨"MacroReckonerModel", "printThing", "(I)V"⟩
abbrev wsMo_printThing : List Cond := Cond.code yMo_printThing prog_9_method_30_code 3 none :: wg
abbrev yMo_isDigit : MethodName := ⟨"MacroReckonerModel", "isDigit", "(I)Z"⟩
abbrev wsMo_isDigit : List Cond := Cond.code yMo_isDigit prog_9_method_31_code 1 (some .boolean) :: wg
abbrev yMo_isPairSign : MethodName := ⟨"MacroReckonerModel", "isPairSign", "(I)Z"⟩
abbrev wsMo_isPairSign : List Cond := Cond.code yMo_isPairSign prog_9_method_32_code 1 (some .boolean) :: wg
abbrev yMo_at : MethodName := ⟨"MacroReckonerModel", "at", "(I)I"⟩
abbrev wsMo_at : List Cond := Cond.code yMo_at prog_9_method_33_code 2 (some .int) :: wg
abbrev yMo_look : MethodName := ⟨"MacroReckonerModel", "look", "()V"⟩
abbrev wsMo_look : List Cond := Cond.code yMo_look prog_9_method_34_code 2 none :: wg
abbrev yMo_lookText : MethodName := ⟨"MacroReckonerModel", "lookText", "(I)V"⟩
abbrev wsMo_lookText : List Cond := Cond.code yMo_lookText prog_9_method_35_code 3 none :: wg
abbrev yMo_lookNumeral : MethodName := ⟨"MacroReckonerModel", "lookNumeral", "(I)V"⟩
abbrev wsMo_lookNumeral : List Cond := Cond.code yMo_lookNumeral prog_9_method_36_code 5 none :: wg
abbrev yMo_isCommand : MethodName := ⟨"MacroReckonerModel", "isCommand", "()Z"⟩
abbrev wsMo_isCommand : List Cond := Cond.code yMo_isCommand prog_9_method_37_code 1 (some .boolean) :: wg
abbrev yMo_endTexts : MethodName := ⟨"MacroReckonerModel", "endTexts", "()V"⟩
abbrev wsMo_endTexts : List Cond := Cond.code yMo_endTexts prog_9_method_38_code 3 none :: wg
abbrev yMo_lose : MethodName := ⟨"MacroReckonerModel", "lose", "(I)V"⟩
abbrev wsMo_lose : List Cond := Cond.code yMo_lose prog_9_method_39_code 3 none :: wg
abbrev yMo_takeToken : MethodName := ⟨"MacroReckonerModel", "takeToken", "()V"⟩
abbrev wsMo_takeToken : List Cond := Cond.code yMo_takeToken prog_9_method_40_code 2 none :: wg
abbrev yMo_areNumbers : MethodName := ⟨"MacroReckonerModel", "areNumbers", "(I)Z"⟩
abbrev wsMo_areNumbers : List Cond := Cond.code yMo_areNumbers prog_9_method_41_code 4 (some .boolean) :: wg
abbrev yMo_begin : MethodName := ⟨"MacroReckonerModel", "begin", "(I)I"⟩
abbrev wsMo_begin : List Cond := Cond.code yMo_begin prog_9_method_42_code 4 (some .int) :: wg
abbrev yMo_numeral : MethodName := ⟨"MacroReckonerModel", "numeral", "()I"⟩
abbrev wsMo_numeral : List Cond := Cond.code yMo_numeral prog_9_method_43_code 5 (some .int) :: wg
abbrev yMo_text : MethodName := ⟨"MacroReckonerModel", "text", "()I"⟩
abbrev wsMo_text : List Cond := Cond.code yMo_text prog_9_method_44_code 2 (some .int) :: wg
abbrev yMo_takes : MethodName := ⟨"MacroReckonerModel", "takes", "(I)I"⟩
abbrev wsMo_takes : List Cond := Cond.code yMo_takes prog_9_method_45_code 1 (some .int) :: wg
abbrev yMo_sign : MethodName := ⟨"MacroReckonerModel", "sign", "(I)I"⟩
abbrev wsMo_sign : List Cond := Cond.code yMo_sign prog_9_method_46_code 6 (some .int) :: wg
abbrev yMo_reckon : MethodName := ⟨"MacroReckonerModel", "reckon", "(III)I"⟩
abbrev wsMo_reckon : List Cond := Cond.code yMo_reckon prog_9_method_47_code 4 (some .int) :: wg
abbrev yMo_setScale : MethodName := ⟨"MacroReckonerModel", "setScale", "(I)I"⟩
abbrev wsMo_setScale : List Cond := Cond.code yMo_setScale prog_9_method_48_code 3 (some .int) :: wg
abbrev yMo_runTop : MethodName := ⟨"MacroReckonerModel", "runTop", "(I)I"⟩
abbrev wsMo_runTop : List Cond := Cond.code yMo_runTop prog_9_method_49_code 3 (some .int) :: wg
abbrev yMo_printSome : MethodName := ⟨"MacroReckonerModel", "printSome", "(II)I"⟩
abbrev wsMo_printSome : List Cond := Cond.code yMo_printSome prog_9_method_50_code 6 (some .int) :: wg
abbrev yMo_pair : MethodName := ⟨"MacroReckonerModel", "pair", "(II)I"⟩
abbrev wsMo_pair : List Cond := Cond.code yMo_pair prog_9_method_51_code 8 (some .int) :: wg
abbrev yMo_command : MethodName := ⟨"MacroReckonerModel", "command", "()I"⟩
abbrev wsMo_command : List Cond := Cond.code yMo_command prog_9_method_52_code 3 (some .int) :: wg
abbrev yMo_type : MethodName := ⟨"MacroReckonerModel", "type", "(C)Z"⟩
abbrev wsMo_type : List Cond := Cond.code yMo_type prog_9_method_53_code 2 (some .boolean) :: wg
abbrev yMo_run : MethodName := ⟨"MacroReckonerModel", "run", "(I)I"⟩
abbrev wsMo_run : List Cond := Cond.code yMo_run prog_9_method_54_code 4 (some .int) :: wg
abbrev yMo_drop : MethodName := ⟨"MacroReckonerModel", "drop", "()I"⟩
abbrev wsMo_drop : List Cond := Cond.code yMo_drop prog_9_method_55_code 2 (some .int) :: wg
abbrev yMo_depth : MethodName := ⟨"MacroReckonerModel", "depth", "()I"⟩
abbrev wsMo_depth : List Cond := Cond.code yMo_depth prog_9_method_56_code 1 (some .int) :: wg
abbrev yMo_scale : MethodName := ⟨"MacroReckonerModel", "scale", "()I"⟩
abbrev wsMo_scale : List Cond := Cond.code yMo_scale prog_9_method_57_code 1 (some .int) :: wg
abbrev yMo_running : MethodName := ⟨"MacroReckonerModel", "running", "()I"⟩
abbrev wsMo_running : List Cond := Cond.code yMo_running prog_9_method_58_code 1 (some .int) :: wg
abbrev yMo_isText : MethodName := ⟨"MacroReckonerModel", "isText", "(C)Z"⟩
abbrev wsMo_isText : List Cond := Cond.code yMo_isText prog_9_method_59_code 2 (some .boolean) :: wg
abbrev yMo_printed : MethodName := ⟨"MacroReckonerModel", "printed", "()I"⟩
abbrev wsMo_printed : List Cond := Cond.code yMo_printed prog_9_method_60_code 1 (some .int) :: wg
abbrev yMo_charAt : MethodName := ⟨"MacroReckonerModel", "charAt", "(I)C"⟩
abbrev wsMo_charAt : List Cond := Cond.code yMo_charAt prog_9_method_61_code 2 (some .char) :: wg
abbrev yMo_tear : MethodName := ⟨"MacroReckonerModel", "tear", "()I"⟩
abbrev wsMo_tear : List Cond := Cond.code yMo_tear prog_9_method_62_code 2 (some .int) :: wg
abbrev yAr_init : MethodName := ⟨"MacroReckoner$Arithmetic", "<init>", "(LMacroReckoner$Value;)V"⟩
abbrev wsAr_init : List Cond := Cond.code yAr_init prog_2_method_1_code 2 none :: wg
abbrev yAr_order : MethodName := ⟨"MacroReckoner$Arithmetic", "order", "(LMacroReckoner$Value;LMacroReckoner$Value;)I"⟩
abbrev wsAr_order : List Cond := Cond.code yAr_order prog_2_method_2_code 3 (some .int) :: wg
abbrev yAr_sum : MethodName := ⟨"MacroReckoner$Arithmetic", "sum", "(LMacroReckoner$Value;LMacroReckoner$Value;Z)I"⟩
abbrev wsAr_sum : List Cond := Cond.code yAr_sum prog_2_method_3_code 5 (some .int) :: wg
abbrev yAr_product : MethodName := ⟨"MacroReckoner$Arithmetic", "product", "(LMacroReckoner$Value;LMacroReckoner$Value;I)I"⟩
abbrev wsAr_product : List Cond := Cond.code yAr_product prog_2_method_4_code 6 (some .int) :: wg
abbrev yAr_quotient : MethodName := ⟨"MacroReckoner$Arithmetic", "quotient", "(LMacroReckoner$Value;LMacroReckoner$Value;I)I"⟩
abbrev wsAr_quotient : List Cond := Cond.code yAr_quotient prog_2_method_5_code 4 (some .int) :: wg
abbrev yAr_remainder : MethodName := ⟨"MacroReckoner$Arithmetic", "remainder", "(LMacroReckoner$Value;LMacroReckoner$Value;I)I"⟩
abbrev wsAr_remainder : List Cond := Cond.code yAr_remainder prog_2_method_6_code 5 (some .int) :: wg
abbrev yAr_power : MethodName := ⟨"MacroReckoner$Arithmetic", "power", "(LMacroReckoner$Value;LMacroReckoner$Value;I)I"⟩
abbrev wsAr_power : List Cond := Cond.code yAr_power prog_2_method_7_code 8 (some .int) :: wg
abbrev yAr_root : MethodName := ⟨"MacroReckoner$Arithmetic", "root", "(LMacroReckoner$Value;I)I"⟩
abbrev wsAr_root : List Cond := Cond.code yAr_root prog_2_method_8_code 6 (some .int) :: wg
abbrev yAr_level : MethodName := ⟨"MacroReckoner$Arithmetic", "level", "(LMacroReckoner$Value;LMacroReckoner$Value;)I"⟩
abbrev wsAr_level : List Cond := Cond.code yAr_level prog_2_method_9_code 4 (some .int) :: wg
abbrev yAr_align : MethodName := ⟨"MacroReckoner$Arithmetic", "align", "(LMacroReckoner$Value;LMacroReckoner$Value;I)V"⟩
abbrev wsAr_align : List Cond := Cond.code yAr_align prog_2_method_10_code 5 none :: wg
abbrev yAr_raise : MethodName := ⟨"MacroReckoner$Arithmetic", "raise", "(LMacroReckoner$Whole;I)Z"⟩
abbrev wsAr_raise : List Cond := Cond.code yAr_raise prog_2_method_11_code 4 (some .boolean) :: wg
abbrev yAr_finish : MethodName := ⟨"MacroReckoner$Arithmetic", "finish", "(LMacroReckoner$Whole;ZI)I"⟩
abbrev wsAr_finish : List Cond := Cond.code yAr_finish prog_2_method_12_code 4 (some .int) :: wg
abbrev yPa_init : MethodName := ⟨"MacroReckoner$Paper", "<init>", "()V"⟩
abbrev wsPa_init : List Cond := Cond.code yPa_init prog_3_method_1_code 1 none :: wg
abbrev yPa_room : MethodName := ⟨"MacroReckoner$Paper", "room", "()I"⟩
abbrev wsPa_room : List Cond := Cond.code yPa_room prog_3_method_2_code 1 (some .int) :: wg
abbrev yPa_clear : MethodName := ⟨"MacroReckoner$Paper", "clear", "()V"⟩
abbrev wsPa_clear : List Cond := Cond.code yPa_clear prog_3_method_3_code 1 none :: wg
abbrev yPa_put : MethodName := ⟨"MacroReckoner$Paper", "put", "(C)V"⟩
abbrev wsPa_put : List Cond := Cond.code yPa_put prog_3_method_4_code 2 none :: wg
abbrev yPa_print : MethodName := ⟨"MacroReckoner$Paper", "print", "(LMacroReckoner$Value;)V"⟩
abbrev wsPa_print : List Cond := Cond.code yPa_print prog_3_method_5_code 3 none :: wg
abbrev yPa_printDigits : MethodName := ⟨"MacroReckoner$Paper", "printDigits", "(LMacroReckoner$Value;)V"⟩
abbrev wsPa_printDigits : List Cond := Cond.code yPa_printDigits prog_3_method_6_code 3 none :: wg
abbrev yTa_init : MethodName := ⟨"MacroReckoner$Tape", "<init>", "(I)V"⟩
abbrev wsTa_init : List Cond := Cond.code yTa_init prog_4_method_1_code 2 none :: wg
abbrev yTa_left : MethodName := ⟨"MacroReckoner$Tape", "left", "()I"⟩
abbrev wsTa_left : List Cond := Cond.code yTa_left prog_4_method_2_code 1 (some .int) :: wg
abbrev yTa_append : MethodName := ⟨"MacroReckoner$Tape", "append", "(C)Z"⟩
abbrev wsTa_append : List Cond := Cond.code yTa_append prog_4_method_3_code 2 (some .boolean) :: wg
abbrev yTa_take : MethodName := ⟨"MacroReckoner$Tape", "take", "(I)V"⟩
abbrev wsTa_take : List Cond := Cond.code yTa_take prog_4_method_4_code 2 none :: wg
abbrev yTa_fill : MethodName := ⟨"MacroReckoner$Tape", "fill", "([CI)V"⟩
abbrev wsTa_fill : List Cond := Cond.code yTa_fill prog_4_method_5_code 3 none :: wg
abbrev yTa_clear : MethodName := ⟨"MacroReckoner$Tape", "clear", "()V"⟩
abbrev wsTa_clear : List Cond := Cond.code yTa_clear prog_4_method_6_code 1 none :: wg
abbrev yTa_skipSpaces : MethodName := ⟨"MacroReckoner$Tape", "skipSpaces", "()V"⟩
abbrev wsTa_skipSpaces : List Cond := Cond.code yTa_skipSpaces prog_4_method_7_code 1 none :: wg
abbrev yTa_isBlank : MethodName := ⟨"MacroReckoner$Tape", "isBlank", "()Z"⟩
abbrev wsTa_isBlank : List Cond := Cond.code yTa_isBlank prog_4_method_8_code 1 (some .boolean) :: wg
abbrev yTa_onlySpaces : MethodName := ⟨"MacroReckoner$Tape", "onlySpaces", "([CII)Z"⟩
abbrev wsTa_onlySpaces : List Cond := Cond.code yTa_onlySpaces prog_4_method_9_code 4 (some .boolean) :: wg
abbrev yTo_init : MethodName := ⟨"MacroReckoner$Token", "<init>", "()V"⟩
abbrev wsTo_init : List Cond := Cond.code yTo_init prog_5_method_1_code 1 none :: wg
abbrev yTo_read : MethodName := ⟨"MacroReckoner$Token", "read", "(LMacroReckoner$Tape;Z)Z"⟩
abbrev wsTo_read : List Cond := Cond.code yTo_read prog_5_method_2_code 4 (some .boolean) :: wg
abbrev yTo_measure : MethodName := ⟨"MacroReckoner$Token", "measure", "()Z"⟩
abbrev wsTo_measure : List Cond := Cond.code yTo_measure prog_5_method_3_code 1 (some .boolean) :: wg
abbrev yTo_measureNumeral : MethodName := ⟨"MacroReckoner$Token", "measureNumeral", "()Z"⟩
abbrev wsTo_measureNumeral : List Cond := Cond.code yTo_measureNumeral prog_5_method_4_code 4 (some .boolean) :: wg
abbrev yTo_measureText : MethodName := ⟨"MacroReckoner$Token", "measureText", "()Z"⟩
abbrev wsTo_measureText : List Cond := Cond.code yTo_measureText prog_5_method_5_code 3 (some .boolean) :: wg
abbrev yTo_measurePair : MethodName := ⟨"MacroReckoner$Token", "measurePair", "()Z"⟩
abbrev wsTo_measurePair : List Cond := Cond.code yTo_measurePair prog_5_method_6_code 1 (some .boolean) :: wg
abbrev yTo_startsNumeral : MethodName := ⟨"MacroReckoner$Token", "startsNumeral", "(C)Z"⟩
abbrev wsTo_startsNumeral : List Cond := Cond.code yTo_startsNumeral prog_5_method_7_code 1 (some .boolean) :: wg
abbrev yTo_isDigit : MethodName := ⟨"MacroReckoner$Token", "isDigit", "(C)Z"⟩
abbrev wsTo_isDigit : List Cond := Cond.code yTo_isDigit prog_5_method_8_code 1 (some .boolean) :: wg
abbrev yVa_init : MethodName := ⟨"MacroReckoner$Value", "<init>", "()V"⟩
abbrev wsVa_init : List Cond := Cond.code yVa_init prog_6_method_1_code 1 none :: wg
abbrev yVa_become : MethodName := ⟨"MacroReckoner$Value", "become", "(LMacroReckoner$Value;)V"⟩
abbrev wsVa_become : List Cond := Cond.code yVa_become prog_6_method_2_code 2 none :: wg
abbrev yVa_becomeNumber : MethodName := ⟨"MacroReckoner$Value", "becomeNumber", "(LMacroReckoner$Whole;ZI)V"⟩
abbrev wsVa_becomeNumber : List Cond := Cond.code yVa_becomeNumber prog_6_method_3_code 4 none :: wg
abbrev yVa_becomeCount : MethodName := ⟨"MacroReckoner$Value", "becomeCount", "(I)V"⟩
abbrev wsVa_becomeCount : List Cond := Cond.code yVa_becomeCount prog_6_method_4_code 2 none :: wg
abbrev yVa_becomeText : MethodName := ⟨"MacroReckoner$Value", "becomeText", "([CII)V"⟩
abbrev wsVa_becomeText : List Cond := Cond.code yVa_becomeText prog_6_method_5_code 4 none :: wg
abbrev yVa_becomeNumeral : MethodName := ⟨"MacroReckoner$Value", "becomeNumeral", "([CII)V"⟩
abbrev wsVa_becomeNumeral : List Cond := Cond.code yVa_becomeNumeral prog_6_method_6_code 8 none :: wg
abbrev yVa_fits : MethodName := ⟨"MacroReckoner$Value", "fits", "()Z"⟩
abbrev wsVa_fits : List Cond := Cond.code yVa_fits prog_6_method_7_code 1 (some .boolean) :: wg
abbrev yVa_printLength : MethodName := ⟨"MacroReckoner$Value", "printLength", "()I"⟩
abbrev wsVa_printLength : List Cond := Cond.code yVa_printLength prog_6_method_8_code 1 (some .int) :: wg
abbrev yWh_init : MethodName := ⟨"MacroReckoner$Whole", "<init>", "()V"⟩
abbrev wsWh_init : List Cond := Cond.code yWh_init prog_7_method_1_code 1 none :: wg
abbrev yWh_isZero : MethodName := ⟨"MacroReckoner$Whole", "isZero", "()Z"⟩
abbrev wsWh_isZero : List Cond := Cond.code yWh_isZero prog_7_method_2_code 1 (some .boolean) :: wg
abbrev yWh_lowest : MethodName := ⟨"MacroReckoner$Whole", "lowest", "()I"⟩
abbrev wsWh_lowest : List Cond := Cond.code yWh_lowest prog_7_method_3_code 1 (some .int) :: wg
abbrev yWh_size : MethodName := ⟨"MacroReckoner$Whole", "size", "()I"⟩
abbrev wsWh_size : List Cond := Cond.code yWh_size prog_7_method_4_code 4 (some .int) :: wg
abbrev yWh_digit : MethodName := ⟨"MacroReckoner$Whole", "digit", "(I)I"⟩
abbrev wsWh_digit : List Cond := Cond.code yWh_digit prog_7_method_5_code 3 (some .int) :: wg
abbrev yWh_against : MethodName := ⟨"MacroReckoner$Whole", "against", "(LMacroReckoner$Whole;)I"⟩
abbrev wsWh_against : List Cond := Cond.code yWh_against prog_7_method_6_code 3 (some .int) :: wg
abbrev yWh_become : MethodName := ⟨"MacroReckoner$Whole", "become", "(LMacroReckoner$Whole;)V"⟩
abbrev wsWh_become : List Cond := Cond.code yWh_become prog_7_method_7_code 2 none :: wg
abbrev yWh_becomeSmall : MethodName := ⟨"MacroReckoner$Whole", "becomeSmall", "(I)V"⟩
abbrev wsWh_becomeSmall : List Cond := Cond.code yWh_becomeSmall prog_7_method_8_code 2 none :: wg
abbrev yWh_becomePowerOfTen : MethodName := ⟨"MacroReckoner$Whole", "becomePowerOfTen", "(I)V"⟩
abbrev wsWh_becomePowerOfTen : List Cond := Cond.code yWh_becomePowerOfTen prog_7_method_9_code 2 none :: wg
abbrev yWh_widen : MethodName := ⟨"MacroReckoner$Whole", "widen", "(I)V"⟩
abbrev wsWh_widen : List Cond := Cond.code yWh_widen prog_7_method_10_code 4 none :: wg
abbrev yWh_cut : MethodName := ⟨"MacroReckoner$Whole", "cut", "(I)V"⟩
abbrev wsWh_cut : List Cond := Cond.code yWh_cut prog_7_method_11_code 3 none :: wg
abbrev yWh_timesSmallPlus : MethodName := ⟨"MacroReckoner$Whole", "timesSmallPlus", "(II)V"⟩
abbrev wsWh_timesSmallPlus : List Cond := Cond.code yWh_timesSmallPlus prog_7_method_12_code 6 none :: wg
abbrev yWh_divideBySmall : MethodName := ⟨"MacroReckoner$Whole", "divideBySmall", "(I)V"⟩
abbrev wsWh_divideBySmall : List Cond := Cond.code yWh_divideBySmall prog_7_method_13_code 5 none :: wg
abbrev yWh_add : MethodName := ⟨"MacroReckoner$Whole", "add", "(LMacroReckoner$Whole;)V"⟩
abbrev wsWh_add : List Cond := Cond.code yWh_add prog_7_method_14_code 8 none :: wg
abbrev yWh_subtract : MethodName := ⟨"MacroReckoner$Whole", "subtract", "(LMacroReckoner$Whole;)V"⟩
abbrev wsWh_subtract : List Cond := Cond.code yWh_subtract prog_7_method_15_code 6 none :: wg
abbrev yWh_becomeProduct : MethodName := ⟨"MacroReckoner$Whole", "becomeProduct", "(LMacroReckoner$Whole;LMacroReckoner$Whole;)V"⟩
abbrev wsWh_becomeProduct : List Cond := Cond.code yWh_becomeProduct prog_7_method_16_code 7 none :: wg
abbrev yWh_divideBy : MethodName := ⟨"MacroReckoner$Whole", "divideBy", "(LMacroReckoner$Whole;LMacroReckoner$Whole;)V"⟩
abbrev wsWh_divideBy : List Cond := Cond.code yWh_divideBy prog_7_method_17_code 7 none :: wg
abbrev yWh_guessMultiple : MethodName := ⟨"MacroReckoner$Whole", "guessMultiple", "(LMacroReckoner$Whole;I)I"⟩
abbrev wsWh_guessMultiple : List Cond := Cond.code yWh_guessMultiple prog_7_method_18_code 17 (some .int) :: wg
abbrev yWh_takeAway : MethodName := ⟨"MacroReckoner$Whole", "takeAway", "(LMacroReckoner$Whole;II)Z"⟩
abbrev wsWh_takeAway : List Cond := Cond.code yWh_takeAway prog_7_method_19_code 7 (some .boolean) :: wg
abbrev yWh_giveBack : MethodName := ⟨"MacroReckoner$Whole", "giveBack", "(LMacroReckoner$Whole;I)V"⟩
abbrev wsWh_giveBack : List Cond := Cond.code yWh_giveBack prog_7_method_20_code 6 none :: wg
abbrev yWh_trim : MethodName := ⟨"MacroReckoner$Whole", "trim", "()V"⟩
abbrev wsWh_trim : List Cond := Cond.code yWh_trim prog_7_method_21_code 1 none :: wg
abbrev yMa_floorDiv : MethodName := ⟨"java/lang/Math", "floorDiv", "(JJ)J"⟩
abbrev wsMa_floorDiv : List Cond := Cond.code yMa_floorDiv prog_13_method_49_code 6 (some .long) :: wg
abbrev yMa_floorMod : MethodName := ⟨"java/lang/Math", "floorMod", "(JJ)J"⟩
abbrev wsMa_floorMod : List Cond := Cond.code yMa_floorMod prog_13_method_52_code 6 (some .long) :: wg
abbrev yMa_max : MethodName := ⟨"java/lang/Math", "max", "(II)I"⟩
abbrev wsMa_max : List Cond := Cond.code yMa_max prog_13_method_65_code 2 (some .int) :: wg
abbrev yMa_min : MethodName := ⟨"java/lang/Math", "min", "(II)I"⟩
abbrev wsMa_min : List Cond := Cond.code yMa_min prog_13_method_69_code 2 (some .int) :: wg
abbrev yJs_checkBoundsBeginEnd : MethodName := ⟨"java/lang/String", "checkBoundsBeginEnd", "(III)V"⟩
abbrev wsJs_checkBoundsBeginEnd : List Cond := Cond.code yJs_checkBoundsBeginEnd prog_15_method_158_code 3 none :: wg
abbrev yJs_indexOf : MethodName := ⟨"java/lang/String", "indexOf", "(I)I"⟩
abbrev wsJs_indexOf : List Cond := Cond.code yJs_indexOf prog_15_method_79_code 2 (some .int) :: wg
abbrev yJs_indexOf_1 : MethodName := ⟨"java/lang/String", "indexOf", "(II)I"⟩
abbrev wsJs_indexOf_1 : List Cond := Cond.code yJs_indexOf_1 prog_15_method_80_code 3 (some .int) :: wg
abbrev yJs_isLatin1 : MethodName := ⟨"java/lang/String", "isLatin1", "()Z"⟩
abbrev wsJs_isLatin1 : List Cond := Cond.code yJs_isLatin1 prog_15_method_154_code 1 (some .boolean) :: wg
abbrev yJl_canEncode : MethodName := ⟨"java/lang/StringLatin1", "canEncode", "(I)Z"⟩
abbrev wsJl_canEncode : List Cond := Cond.code yJl_canEncode prog_16_method_4_code 1 (some .boolean) :: wg
abbrev yJl_indexOfChar : MethodName := ⟨"java/lang/StringLatin1", "indexOfChar", "([BIII)I"⟩
abbrev wsJl_indexOfChar : List Cond := Cond.code yJl_indexOfChar prog_16_method_23_code 6 (some .int) :: wg
abbrev yJu_checkBoundsBeginEnd : MethodName := ⟨"java/lang/StringUTF16", "checkBoundsBeginEnd", "(II[B)V"⟩
abbrev wsJu_checkBoundsBeginEnd : List Cond := Cond.code yJu_checkBoundsBeginEnd prog_17_method_93_code 3 none :: wg
abbrev yJu_getChar : MethodName := ⟨"java/lang/StringUTF16", "getChar", "([BI)C"⟩
abbrev wsJu_getChar : List Cond := Cond.code yJu_getChar prog_17_method_5_code 2 (some .char) :: wg
abbrev yJu_indexOfChar : MethodName := ⟨"java/lang/StringUTF16", "indexOfChar", "([BIII)I"⟩
abbrev wsJu_indexOfChar : List Cond := Cond.code yJu_indexOfChar prog_17_method_47_code 4 (some .int) :: wg
abbrev yJu_indexOfCharUnsafe : MethodName := ⟨"java/lang/StringUTF16", "indexOfCharUnsafe", "([BIII)I"⟩
abbrev wsJu_indexOfCharUnsafe : List Cond := Cond.code yJu_indexOfCharUnsafe prog_17_method_48_code 5 (some .int) :: wg
abbrev yJu_indexOfSupplementary : MethodName := ⟨"java/lang/StringUTF16", "indexOfSupplementary", "([BIII)I"⟩
abbrev wsJu_indexOfSupplementary : List Cond := Cond.code yJu_indexOfSupplementary prog_17_method_49_code 7 (some .int) :: wg
abbrev yJu_length : MethodName := ⟨"java/lang/StringUTF16", "length", "([B)I"⟩
abbrev wsJu_length : List Cond := Cond.code yJu_length prog_17_method_6_code 1 (some .int) :: wg
