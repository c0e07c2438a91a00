theorem wd_10 : (Jvm.Cond.initialized "LanguageServerModel") ∈ Tg := tg_1 (i := 10) rfl rfl
theorem wd_899 : (Jvm.Cond.fieldLink "LanguageServerModel" (81 : Nat) "LanguageServerModel" "thrown" "I") ∈ Tg := tg_4 (i := 179) rfl rfl
theorem wd_900 : (Jvm.Cond.fieldLink "LanguageServerModel" (7 : Nat) "LanguageServerModel" "text" "[I") ∈ Tg := tg_4 (i := 180) rfl rfl
theorem wd_901 : (Jvm.Cond.fieldLink "LanguageServerModel" (85 : Nat) "LanguageServerModel" "length" "I") ∈ Tg := tg_4 (i := 181) rfl rfl
theorem wd_902 : (Jvm.Cond.fieldLink "LanguageServerModel" (13 : Nat) "LanguageServerModel" "saved" "[I") ∈ Tg := tg_4 (i := 182) rfl rfl
theorem wd_903 : (Jvm.Cond.fieldLink "LanguageServerModel" (296 : Nat) "LanguageServerModel" "savedLength" "I") ∈ Tg := tg_4 (i := 183) rfl rfl
theorem wd_904 : (Jvm.Cond.fieldLink "LanguageServerModel" (16 : Nat) "LanguageServerModel" "kind" "[I") ∈ Tg := tg_4 (i := 184) rfl rfl
theorem wd_905 : (Jvm.Cond.fieldLink "LanguageServerModel" (19 : Nat) "LanguageServerModel" "word" "[J") ∈ Tg := tg_4 (i := 185) rfl rfl
theorem wd_906 : (Jvm.Cond.fieldLink "LanguageServerModel" (23 : Nat) "LanguageServerModel" "from" "[I") ∈ Tg := tg_4 (i := 186) rfl rfl
theorem wd_907 : (Jvm.Cond.fieldLink "LanguageServerModel" (26 : Nat) "LanguageServerModel" "to" "[I") ∈ Tg := tg_4 (i := 187) rfl rfl
theorem wd_908 : (Jvm.Cond.fieldLink "LanguageServerModel" (118 : Nat) "LanguageServerModel" "tokens" "I") ∈ Tg := tg_4 (i := 188) rfl rfl
theorem wd_909 : (Jvm.Cond.fieldLink "LanguageServerModel" (135 : Nat) "LanguageServerModel" "at" "I") ∈ Tg := tg_4 (i := 189) rfl rfl
theorem wd_910 : (Jvm.Cond.fieldLink "LanguageServerModel" (131 : Nat) "LanguageServerModel" "bad" "Z") ∈ Tg := tg_4 (i := 190) rfl rfl
theorem wd_911 : (Jvm.Cond.fieldLink "LanguageServerModel" (29 : Nat) "LanguageServerModel" "role" "[I") ∈ Tg := tg_4 (i := 191) rfl rfl
theorem wd_912 : (Jvm.Cond.fieldLink "LanguageServerModel" (32 : Nat) "LanguageServerModel" "inClass" "[I") ∈ Tg := tg_4 (i := 192) rfl rfl
theorem wd_913 : (Jvm.Cond.fieldLink "LanguageServerModel" (35 : Nat) "LanguageServerModel" "inMethod" "[I") ∈ Tg := tg_4 (i := 193) rfl rfl
theorem wd_914 : (Jvm.Cond.fieldLink "LanguageServerModel" (38 : Nat) "LanguageServerModel" "begins" "[I") ∈ Tg := tg_4 (i := 194) rfl rfl
theorem wd_915 : (Jvm.Cond.fieldLink "LanguageServerModel" (41 : Nat) "LanguageServerModel" "cName" "[I") ∈ Tg := tg_4 (i := 195) rfl rfl
theorem wd_916 : (Jvm.Cond.fieldLink "LanguageServerModel" (44 : Nat) "LanguageServerModel" "cExtends" "[I") ∈ Tg := tg_4 (i := 196) rfl rfl
theorem wd_917 : (Jvm.Cond.fieldLink "LanguageServerModel" (180 : Nat) "LanguageServerModel" "classes" "I") ∈ Tg := tg_4 (i := 197) rfl rfl
theorem wd_918 : (Jvm.Cond.fieldLink "LanguageServerModel" (47 : Nat) "LanguageServerModel" "diags" "[I") ∈ Tg := tg_4 (i := 198) rfl rfl
theorem wd_919 : (Jvm.Cond.fieldLink "LanguageServerModel" (50 : Nat) "LanguageServerModel" "meaning" "[I") ∈ Tg := tg_4 (i := 199) rfl rfl
theorem wd_920 : (Jvm.Cond.fieldLink "LanguageServerModel" (53 : Nat) "LanguageServerModel" "savedMeaning" "[I") ∈ Tg := tg_4 (i := 200) rfl rfl
theorem wd_921 : (Jvm.Cond.fieldLink "LanguageServerModel" (56 : Nat) "LanguageServerModel" "opener" "[I") ∈ Tg := tg_4 (i := 201) rfl rfl
theorem wd_922 : (Jvm.Cond.fieldLink "LanguageServerModel" (59 : Nat) "LanguageServerModel" "first" "[I") ∈ Tg := tg_4 (i := 202) rfl rfl
theorem wd_923 : (Jvm.Cond.fieldLink "LanguageServerModel" (62 : Nat) "LanguageServerModel" "term" "[I") ∈ Tg := tg_4 (i := 203) rfl rfl
theorem wd_924 : (Jvm.Cond.fieldLink "LanguageServerModel" (65 : Nat) "LanguageServerModel" "type" "[I") ∈ Tg := tg_4 (i := 204) rfl rfl
theorem wd_925 : (Jvm.Cond.fieldLink "LanguageServerModel" (68 : Nat) "LanguageServerModel" "plus" "[Z") ∈ Tg := tg_4 (i := 205) rfl rfl
theorem wd_926 : (Jvm.Cond.fieldLink "LanguageServerModel" (72 : Nat) "LanguageServerModel" "argument" "[I") ∈ Tg := tg_4 (i := 206) rfl rfl
theorem wd_928 : (Jvm.Cond.fieldLink "LanguageServerModel" (78 : Nat) "LanguageServerModel" "called" "[I") ∈ Tg := tg_4 (i := 208) rfl rfl
theorem wd_929 : (Jvm.Cond.fieldLink "LanguageServerModel" (148 : Nat) "LanguageServerModel" "depth" "I") ∈ Tg := tg_4 (i := 209) rfl rfl
theorem wd_930 : (Jvm.Cond.fieldLink "LanguageServerModel" (253 : Nat) "LanguageServerModel" "end" "I") ∈ Tg := tg_4 (i := 210) rfl rfl
theorem wd_1001 : (Jvm.Cond.instanceMethod ({ cls := "LanguageServerModel", name := "insert", desc := "(II)I" } : Jvm.MethodName)) ∈ Tg := tg_5 (i := 41) rfl rfl
theorem wd_1002 : (Jvm.Cond.selects "LanguageServerModel" ({ cls := "LanguageServerModel", name := "insert", desc := "(II)I" } : Jvm.MethodName) ({ cls := "LanguageServerModel", name := "insert", desc := "(II)I" } : Jvm.MethodName)) ∈ Tg := tg_5 (i := 42) rfl rfl
theorem wd_1003 : (Jvm.Cond.code ({ cls := "LanguageServerModel", name := "insert", desc := "(II)I" } : Jvm.MethodName) prog_13_method_5_code (4 : Nat) (Option.some Jvm.ClassFile.FieldType.int)) ∈ Tg := tg_5 (i := 43) rfl rfl
theorem wd_1004 : (Jvm.Cond.methodLink "LanguageServerModel" (88 : Nat) ({ cls := "LanguageServerModel", name := "code", desc := "(I)Z" } : Jvm.MethodName)) ∈ Tg := tg_5 (i := 44) rfl rfl
theorem wd_1005 : (Jvm.Cond.static ({ cls := "LanguageServerModel", name := "code", desc := "(I)Z" } : Jvm.MethodName)) ∈ Tg := tg_5 (i := 45) rfl rfl
theorem wd_1006 : (Jvm.Cond.code ({ cls := "LanguageServerModel", name := "code", desc := "(I)Z" } : Jvm.MethodName) prog_13_method_4_code (1 : Nat) (Option.some Jvm.ClassFile.FieldType.boolean)) ∈ Tg := tg_5 (i := 46) rfl rfl
theorem wd_1007 : (Jvm.Cond.methodLink "LanguageServerModel" (92 : Nat) ({ cls := "LanguageServerModel", name := "fail", desc := "(I)I" } : Jvm.MethodName)) ∈ Tg := tg_5 (i := 47) rfl rfl
theorem wd_1009 : (Jvm.Cond.instanceMethod ({ cls := "LanguageServerModel", name := "fail", desc := "(I)I" } : Jvm.MethodName)) ∈ Tg := tg_5 (i := 49) rfl rfl
theorem wd_1010 : (Jvm.Cond.code ({ cls := "LanguageServerModel", name := "fail", desc := "(I)I" } : Jvm.MethodName) prog_13_method_3_code (2 : Nat) (Option.some Jvm.ClassFile.FieldType.int)) ∈ Tg := tg_5 (i := 50) rfl rfl
theorem wd_1015 : (Jvm.Cond.methodLink "LanguageServerModel" (96 : Nat) ({ cls := "LanguageServerModel", name := "byteOf", desc := "(JI)I" } : Jvm.MethodName)) ∈ Tg := tg_5 (i := 55) rfl rfl
theorem wd_1016 : (Jvm.Cond.static ({ cls := "LanguageServerModel", name := "byteOf", desc := "(JI)I" } : Jvm.MethodName)) ∈ Tg := tg_5 (i := 56) rfl rfl
theorem wd_1017 : (Jvm.Cond.code ({ cls := "LanguageServerModel", name := "byteOf", desc := "(JI)I" } : Jvm.MethodName) prog_13_method_6_code (3 : Nat) (Option.some Jvm.ClassFile.FieldType.int)) ∈ Tg := tg_5 (i := 57) rfl rfl
theorem wd_1019 : (Jvm.Cond.instanceMethod ({ cls := "LanguageServerModel", name := "delete", desc := "(II)I" } : Jvm.MethodName)) ∈ Tg := tg_5 (i := 59) rfl rfl
theorem wd_1020 : (Jvm.Cond.selects "LanguageServerModel" ({ cls := "LanguageServerModel", name := "delete", desc := "(II)I" } : Jvm.MethodName) ({ cls := "LanguageServerModel", name := "delete", desc := "(II)I" } : Jvm.MethodName)) ∈ Tg := tg_5 (i := 60) rfl rfl
theorem wd_1021 : (Jvm.Cond.code ({ cls := "LanguageServerModel", name := "delete", desc := "(II)I" } : Jvm.MethodName) prog_13_method_8_code (4 : Nat) (Option.some Jvm.ClassFile.FieldType.int)) ∈ Tg := tg_5 (i := 61) rfl rfl
theorem wd_1030 : (Jvm.Cond.methodLink "LanguageServerModel" (274 : Nat) ({ cls := "LanguageServerModel", name := "analyse", desc := "()V" } : Jvm.MethodName)) ∈ Tg := tg_5 (i := 70) rfl rfl
theorem wd_1032 : (Jvm.Cond.instanceMethod ({ cls := "LanguageServerModel", name := "analyse", desc := "()V" } : Jvm.MethodName)) ∈ Tg := tg_5 (i := 72) rfl rfl
theorem wd_1033 : (Jvm.Cond.code ({ cls := "LanguageServerModel", name := "analyse", desc := "()V" } : Jvm.MethodName) prog_13_method_54_code (2 : Nat) (Option.none : Option Jvm.ClassFile.FieldType)) ∈ Tg := tg_5 (i := 73) rfl rfl
theorem wd_1034 : (Jvm.Cond.methodLink "LanguageServerModel" (262 : Nat) ({ cls := "LanguageServerModel", name := "cutAll", desc := "()V" } : Jvm.MethodName)) ∈ Tg := tg_5 (i := 74) rfl rfl
theorem wd_1036 : (Jvm.Cond.instanceMethod ({ cls := "LanguageServerModel", name := "cutAll", desc := "()V" } : Jvm.MethodName)) ∈ Tg := tg_5 (i := 76) rfl rfl
theorem wd_1037 : (Jvm.Cond.code ({ cls := "LanguageServerModel", name := "cutAll", desc := "()V" } : Jvm.MethodName) prog_13_method_15_code (3 : Nat) (Option.none : Option Jvm.ClassFile.FieldType)) ∈ Tg := tg_5 (i := 77) rfl rfl
theorem wd_1038 : (Jvm.Cond.methodLink "LanguageServerModel" (128 : Nat) ({ cls := "LanguageServerModel", name := "cut", desc := "(I)I" } : Jvm.MethodName)) ∈ Tg := tg_5 (i := 78) rfl rfl
theorem wd_1040 : (Jvm.Cond.instanceMethod ({ cls := "LanguageServerModel", name := "cut", desc := "(I)I" } : Jvm.MethodName)) ∈ Tg := tg_5 (i := 80) rfl rfl
theorem wd_1041 : (Jvm.Cond.code ({ cls := "LanguageServerModel", name := "cut", desc := "(I)I" } : Jvm.MethodName) prog_13_method_14_code (9 : Nat) (Option.some Jvm.ClassFile.FieldType.int)) ∈ Tg := tg_5 (i := 81) rfl rfl
theorem wd_1042 : (Jvm.Cond.methodLink "LanguageServerModel" (112 : Nat) ({ cls := "LanguageServerModel", name := "letter", desc := "(I)Z" } : Jvm.MethodName)) ∈ Tg := tg_5 (i := 82) rfl rfl
theorem wd_1043 : (Jvm.Cond.static ({ cls := "LanguageServerModel", name := "letter", desc := "(I)Z" } : Jvm.MethodName)) ∈ Tg := tg_5 (i := 83) rfl rfl
theorem wd_1044 : (Jvm.Cond.code ({ cls := "LanguageServerModel", name := "letter", desc := "(I)Z" } : Jvm.MethodName) prog_13_method_10_code (1 : Nat) (Option.some Jvm.ClassFile.FieldType.boolean)) ∈ Tg := tg_5 (i := 84) rfl rfl
theorem wd_1045 : (Jvm.Cond.methodLink "LanguageServerModel" (115 : Nat) ({ cls := "LanguageServerModel", name := "digit", desc := "(I)Z" } : Jvm.MethodName)) ∈ Tg := tg_5 (i := 85) rfl rfl
theorem wd_1046 : (Jvm.Cond.static ({ cls := "LanguageServerModel", name := "digit", desc := "(I)Z" } : Jvm.MethodName)) ∈ Tg := tg_5 (i := 86) rfl rfl
theorem wd_1047 : (Jvm.Cond.code ({ cls := "LanguageServerModel", name := "digit", desc := "(I)Z" } : Jvm.MethodName) prog_13_method_11_code (1 : Nat) (Option.some Jvm.ClassFile.FieldType.boolean)) ∈ Tg := tg_5 (i := 87) rfl rfl
theorem wd_1048 : (Jvm.Cond.methodLink "LanguageServerModel" (121 : Nat) ({ cls := "LanguageServerModel", name := "wordKind", desc := "(J)I" } : Jvm.MethodName)) ∈ Tg := tg_5 (i := 88) rfl rfl
theorem wd_1049 : (Jvm.Cond.static ({ cls := "LanguageServerModel", name := "wordKind", desc := "(J)I" } : Jvm.MethodName)) ∈ Tg := tg_5 (i := 89) rfl rfl
theorem wd_1050 : (Jvm.Cond.code ({ cls := "LanguageServerModel", name := "wordKind", desc := "(J)I" } : Jvm.MethodName) prog_13_method_12_code (2 : Nat) (Option.some Jvm.ClassFile.FieldType.int)) ∈ Tg := tg_5 (i := 90) rfl rfl
theorem wd_1051 : (Jvm.Cond.constantLong "LanguageServerModel" (100 : Nat) (427020088179 : Int64)) ∈ Tg := tg_5 (i := 91) rfl rfl
theorem wd_1052 : (Jvm.Cond.constantLong "LanguageServerModel" (102 : Nat) (28561413961049203 : Int64)) ∈ Tg := tg_5 (i := 92) rfl rfl
theorem wd_1053 : (Jvm.Cond.constantLong "LanguageServerModel" (104 : Nat) (6909556 : Int64)) ∈ Tg := tg_5 (i := 93) rfl rfl
theorem wd_1054 : (Jvm.Cond.constantLong "LanguageServerModel" (106 : Nat) (125780071117422 : Int64)) ∈ Tg := tg_5 (i := 94) rfl rfl
theorem wd_1055 : (Jvm.Cond.constantLong "LanguageServerModel" (108 : Nat) (7234935 : Int64)) ∈ Tg := tg_5 (i := 95) rfl rfl
theorem wd_1056 : (Jvm.Cond.constantLong "LanguageServerModel" (110 : Nat) (1952999795 : Int64)) ∈ Tg := tg_5 (i := 96) rfl rfl
theorem wd_1057 : (Jvm.Cond.methodLink "LanguageServerModel" (125 : Nat) ({ cls := "LanguageServerModel", name := "sign", desc := "(I)Z" } : Jvm.MethodName)) ∈ Tg := tg_5 (i := 97) rfl rfl
theorem wd_1058 : (Jvm.Cond.static ({ cls := "LanguageServerModel", name := "sign", desc := "(I)Z" } : Jvm.MethodName)) ∈ Tg := tg_5 (i := 98) rfl rfl
theorem wd_1059 : (Jvm.Cond.code ({ cls := "LanguageServerModel", name := "sign", desc := "(I)Z" } : Jvm.MethodName) prog_13_method_13_code (1 : Nat) (Option.some Jvm.ClassFile.FieldType.boolean)) ∈ Tg := tg_5 (i := 99) rfl rfl
theorem wd_1060 : (Jvm.Cond.methodLink "LanguageServerModel" (265 : Nat) ({ cls := "LanguageServerModel", name := "file", desc := "()V" } : Jvm.MethodName)) ∈ Tg := tg_5 (i := 100) rfl rfl
theorem wd_1062 : (Jvm.Cond.instanceMethod ({ cls := "LanguageServerModel", name := "file", desc := "()V" } : Jvm.MethodName)) ∈ Tg := tg_5 (i := 102) rfl rfl
theorem wd_1063 : (Jvm.Cond.code ({ cls := "LanguageServerModel", name := "file", desc := "()V" } : Jvm.MethodName) prog_13_method_28_code (1 : Nat) (Option.none : Option Jvm.ClassFile.FieldType)) ∈ Tg := tg_5 (i := 103) rfl rfl
theorem wd_1064 : (Jvm.Cond.methodLink "LanguageServerModel" (163 : Nat) ({ cls := "LanguageServerModel", name := "need", desc := "(I)V" } : Jvm.MethodName)) ∈ Tg := tg_5 (i := 104) rfl rfl
theorem wd_1066 : (Jvm.Cond.instanceMethod ({ cls := "LanguageServerModel", name := "need", desc := "(I)V" } : Jvm.MethodName)) ∈ Tg := tg_5 (i := 106) rfl rfl
theorem wd_1067 : (Jvm.Cond.code ({ cls := "LanguageServerModel", name := "need", desc := "(I)V" } : Jvm.MethodName) prog_13_method_18_code (2 : Nat) (Option.none : Option Jvm.ClassFile.FieldType)) ∈ Tg := tg_5 (i := 107) rfl rfl
theorem wd_1068 : (Jvm.Cond.methodLink "LanguageServerModel" (141 : Nat) ({ cls := "LanguageServerModel", name := "take", desc := "(I)Z" } : Jvm.MethodName)) ∈ Tg := tg_5 (i := 108) rfl rfl
theorem wd_1070 : (Jvm.Cond.instanceMethod ({ cls := "LanguageServerModel", name := "take", desc := "(I)Z" } : Jvm.MethodName)) ∈ Tg := tg_5 (i := 110) rfl rfl
theorem wd_1071 : (Jvm.Cond.code ({ cls := "LanguageServerModel", name := "take", desc := "(I)Z" } : Jvm.MethodName) prog_13_method_17_code (2 : Nat) (Option.some Jvm.ClassFile.FieldType.boolean)) ∈ Tg := tg_5 (i := 111) rfl rfl
theorem wd_1072 : (Jvm.Cond.methodLink "LanguageServerModel" (138 : Nat) ({ cls := "LanguageServerModel", name := "is", desc := "(I)Z" } : Jvm.MethodName)) ∈ Tg := tg_5 (i := 112) rfl rfl
theorem wd_1074 : (Jvm.Cond.instanceMethod ({ cls := "LanguageServerModel", name := "is", desc := "(I)Z" } : Jvm.MethodName)) ∈ Tg := tg_5 (i := 114) rfl rfl
theorem wd_1075 : (Jvm.Cond.code ({ cls := "LanguageServerModel", name := "is", desc := "(I)Z" } : Jvm.MethodName) prog_13_method_16_code (2 : Nat) (Option.some Jvm.ClassFile.FieldType.boolean)) ∈ Tg := tg_5 (i := 115) rfl rfl
theorem wd_1076 : (Jvm.Cond.methodLink "LanguageServerModel" (144 : Nat) ({ cls := "LanguageServerModel", name := "name", desc := "(III)V" } : Jvm.MethodName)) ∈ Tg := tg_5 (i := 116) rfl rfl
theorem wd_1078 : (Jvm.Cond.instanceMethod ({ cls := "LanguageServerModel", name := "name", desc := "(III)V" } : Jvm.MethodName)) ∈ Tg := tg_5 (i := 118) rfl rfl
theorem wd_1079 : (Jvm.Cond.code ({ cls := "LanguageServerModel", name := "name", desc := "(III)V" } : Jvm.MethodName) prog_13_method_19_code (4 : Nat) (Option.none : Option Jvm.ClassFile.FieldType)) ∈ Tg := tg_5 (i := 119) rfl rfl
theorem wd_1080 : (Jvm.Cond.methodLink "LanguageServerModel" (183 : Nat) ({ cls := "LanguageServerModel", name := "readMember", desc := "(I)V" } : Jvm.MethodName)) ∈ Tg := tg_5 (i := 120) rfl rfl
theorem wd_1082 : (Jvm.Cond.instanceMethod ({ cls := "LanguageServerModel", name := "readMember", desc := "(I)V" } : Jvm.MethodName)) ∈ Tg := tg_5 (i := 122) rfl rfl
theorem wd_1083 : (Jvm.Cond.code ({ cls := "LanguageServerModel", name := "readMember", desc := "(I)V" } : Jvm.MethodName) prog_13_method_27_code (3 : Nat) (Option.none : Option Jvm.ClassFile.FieldType)) ∈ Tg := tg_5 (i := 123) rfl rfl
theorem wd_1084 : (Jvm.Cond.methodLink "LanguageServerModel" (167 : Nat) ({ cls := "LanguageServerModel", name := "typeWord", desc := "(II)V" } : Jvm.MethodName)) ∈ Tg := tg_5 (i := 124) rfl rfl
theorem wd_1086 : (Jvm.Cond.instanceMethod ({ cls := "LanguageServerModel", name := "typeWord", desc := "(II)V" } : Jvm.MethodName)) ∈ Tg := tg_5 (i := 126) rfl rfl
theorem wd_1087 : (Jvm.Cond.code ({ cls := "LanguageServerModel", name := "typeWord", desc := "(II)V" } : Jvm.MethodName) prog_13_method_20_code (3 : Nat) (Option.none : Option Jvm.ClassFile.FieldType)) ∈ Tg := tg_5 (i := 127) rfl rfl
theorem wd_1088 : (Jvm.Cond.methodLink "LanguageServerModel" (174 : Nat) ({ cls := "LanguageServerModel", name := "parameters", desc := "(II)V" } : Jvm.MethodName)) ∈ Tg := tg_5 (i := 128) rfl rfl
theorem wd_1090 : (Jvm.Cond.instanceMethod ({ cls := "LanguageServerModel", name := "parameters", desc := "(II)V" } : Jvm.MethodName)) ∈ Tg := tg_5 (i := 130) rfl rfl
theorem wd_1091 : (Jvm.Cond.code ({ cls := "LanguageServerModel", name := "parameters", desc := "(II)V" } : Jvm.MethodName) prog_13_method_26_code (3 : Nat) (Option.none : Option Jvm.ClassFile.FieldType)) ∈ Tg := tg_5 (i := 131) rfl rfl
theorem wd_1092 : (Jvm.Cond.methodLink "LanguageServerModel" (177 : Nat) ({ cls := "LanguageServerModel", name := "statement", desc := "(II)V" } : Jvm.MethodName)) ∈ Tg := tg_5 (i := 132) rfl rfl
theorem wd_1094 : (Jvm.Cond.instanceMethod ({ cls := "LanguageServerModel", name := "statement", desc := "(II)V" } : Jvm.MethodName)) ∈ Tg := tg_5 (i := 134) rfl rfl
theorem wd_1095 : (Jvm.Cond.code ({ cls := "LanguageServerModel", name := "statement", desc := "(II)V" } : Jvm.MethodName) prog_13_method_25_code (4 : Nat) (Option.none : Option Jvm.ClassFile.FieldType)) ∈ Tg := tg_5 (i := 135) rfl rfl
theorem wd_1096 : (Jvm.Cond.methodLink "LanguageServerModel" (171 : Nat) ({ cls := "LanguageServerModel", name := "expression", desc := "(II)V" } : Jvm.MethodName)) ∈ Tg := tg_5 (i := 136) rfl rfl
theorem wd_1098 : (Jvm.Cond.instanceMethod ({ cls := "LanguageServerModel", name := "expression", desc := "(II)V" } : Jvm.MethodName)) ∈ Tg := tg_5 (i := 138) rfl rfl
theorem wd_1099 : (Jvm.Cond.code ({ cls := "LanguageServerModel", name := "expression", desc := "(II)V" } : Jvm.MethodName) prog_13_method_24_code (5 : Nat) (Option.none : Option Jvm.ClassFile.FieldType)) ∈ Tg := tg_5 (i := 139) rfl rfl
theorem wd_1100 : (Jvm.Cond.methodLink "LanguageServerModel" (159 : Nat) ({ cls := "LanguageServerModel", name := "operand", desc := "(II)Z" } : Jvm.MethodName)) ∈ Tg := tg_5 (i := 140) rfl rfl
theorem wd_1102 : (Jvm.Cond.instanceMethod ({ cls := "LanguageServerModel", name := "operand", desc := "(II)Z" } : Jvm.MethodName)) ∈ Tg := tg_5 (i := 142) rfl rfl
theorem wd_1103 : (Jvm.Cond.code ({ cls := "LanguageServerModel", name := "operand", desc := "(II)Z" } : Jvm.MethodName) prog_13_method_23_code (3 : Nat) (Option.some Jvm.ClassFile.FieldType.boolean)) ∈ Tg := tg_5 (i := 143) rfl rfl
theorem wd_1104 : (Jvm.Cond.methodLink "LanguageServerModel" (155 : Nat) ({ cls := "LanguageServerModel", name := "behindName", desc := "(III)Z" } : Jvm.MethodName)) ∈ Tg := tg_5 (i := 144) rfl rfl
theorem wd_1106 : (Jvm.Cond.instanceMethod ({ cls := "LanguageServerModel", name := "behindName", desc := "(III)Z" } : Jvm.MethodName)) ∈ Tg := tg_5 (i := 146) rfl rfl
theorem wd_1107 : (Jvm.Cond.code ({ cls := "LanguageServerModel", name := "behindName", desc := "(III)Z" } : Jvm.MethodName) prog_13_method_22_code (4 : Nat) (Option.some Jvm.ClassFile.FieldType.boolean)) ∈ Tg := tg_5 (i := 147) rfl rfl
theorem wd_1108 : (Jvm.Cond.methodLink "LanguageServerModel" (151 : Nat) ({ cls := "LanguageServerModel", name := "open", desc := "(Z)V" } : Jvm.MethodName)) ∈ Tg := tg_5 (i := 148) rfl rfl
theorem wd_1110 : (Jvm.Cond.instanceMethod ({ cls := "LanguageServerModel", name := "open", desc := "(Z)V" } : Jvm.MethodName)) ∈ Tg := tg_5 (i := 150) rfl rfl
theorem wd_1111 : (Jvm.Cond.code ({ cls := "LanguageServerModel", name := "open", desc := "(Z)V" } : Jvm.MethodName) prog_13_method_21_code (2 : Nat) (Option.none : Option Jvm.ClassFile.FieldType)) ∈ Tg := tg_5 (i := 151) rfl rfl
theorem wd_1112 : (Jvm.Cond.methodLink "LanguageServerModel" (268 : Nat) ({ cls := "LanguageServerModel", name := "judgeName", desc := "(I)V" } : Jvm.MethodName)) ∈ Tg := tg_5 (i := 152) rfl rfl
theorem wd_1114 : (Jvm.Cond.instanceMethod ({ cls := "LanguageServerModel", name := "judgeName", desc := "(I)V" } : Jvm.MethodName)) ∈ Tg := tg_5 (i := 154) rfl rfl
theorem wd_1115 : (Jvm.Cond.code ({ cls := "LanguageServerModel", name := "judgeName", desc := "(I)V" } : Jvm.MethodName) prog_13_method_40_code (3 : Nat) (Option.none : Option Jvm.ClassFile.FieldType)) ∈ Tg := tg_5 (i := 155) rfl rfl
theorem wd_1116 : (Jvm.Cond.methodLink "LanguageServerModel" (204 : Nat) ({ cls := "LanguageServerModel", name := "judgeClass", desc := "(I)V" } : Jvm.MethodName)) ∈ Tg := tg_5 (i := 156) rfl rfl
theorem wd_1118 : (Jvm.Cond.instanceMethod ({ cls := "LanguageServerModel", name := "judgeClass", desc := "(I)V" } : Jvm.MethodName)) ∈ Tg := tg_5 (i := 158) rfl rfl
theorem wd_1119 : (Jvm.Cond.code ({ cls := "LanguageServerModel", name := "judgeClass", desc := "(I)V" } : Jvm.MethodName) prog_13_method_38_code (4 : Nat) (Option.none : Option Jvm.ClassFile.FieldType)) ∈ Tg := tg_5 (i := 159) rfl rfl
theorem wd_1120 : (Jvm.Cond.methodLink "LanguageServerModel" (186 : Nat) ({ cls := "LanguageServerModel", name := "classOf", desc := "(I)I" } : Jvm.MethodName)) ∈ Tg := tg_5 (i := 160) rfl rfl
theorem wd_1122 : (Jvm.Cond.instanceMethod ({ cls := "LanguageServerModel", name := "classOf", desc := "(I)I" } : Jvm.MethodName)) ∈ Tg := tg_5 (i := 162) rfl rfl
theorem wd_1123 : (Jvm.Cond.code ({ cls := "LanguageServerModel", name := "classOf", desc := "(I)I" } : Jvm.MethodName) prog_13_method_29_code (3 : Nat) (Option.some Jvm.ClassFile.FieldType.int)) ∈ Tg := tg_5 (i := 163) rfl rfl
theorem wd_1124 : (Jvm.Cond.methodLink "LanguageServerModel" (201 : Nat) ({ cls := "LanguageServerModel", name := "note", desc := "(II)V" } : Jvm.MethodName)) ∈ Tg := tg_5 (i := 164) rfl rfl
theorem wd_1126 : (Jvm.Cond.instanceMethod ({ cls := "LanguageServerModel", name := "note", desc := "(II)V" } : Jvm.MethodName)) ∈ Tg := tg_5 (i := 166) rfl rfl
theorem wd_1127 : (Jvm.Cond.code ({ cls := "LanguageServerModel", name := "note", desc := "(II)V" } : Jvm.MethodName) prog_13_method_37_code (3 : Nat) (Option.none : Option Jvm.ClassFile.FieldType)) ∈ Tg := tg_5 (i := 167) rfl rfl
theorem wd_1128 : (Jvm.Cond.methodLink "LanguageServerModel" (192 : Nat) ({ cls := "LanguageServerModel", name := "circles", desc := "(I)Z" } : Jvm.MethodName)) ∈ Tg := tg_5 (i := 168) rfl rfl
theorem wd_1130 : (Jvm.Cond.instanceMethod ({ cls := "LanguageServerModel", name := "circles", desc := "(I)Z" } : Jvm.MethodName)) ∈ Tg := tg_5 (i := 170) rfl rfl
theorem wd_1131 : (Jvm.Cond.code ({ cls := "LanguageServerModel", name := "circles", desc := "(I)Z" } : Jvm.MethodName) prog_13_method_31_code (4 : Nat) (Option.some Jvm.ClassFile.FieldType.boolean)) ∈ Tg := tg_5 (i := 171) rfl rfl
theorem wd_1132 : (Jvm.Cond.methodLink "LanguageServerModel" (189 : Nat) ({ cls := "LanguageServerModel", name := "above", desc := "(I)I" } : Jvm.MethodName)) ∈ Tg := tg_5 (i := 172) rfl rfl
theorem wd_1134 : (Jvm.Cond.instanceMethod ({ cls := "LanguageServerModel", name := "above", desc := "(I)I" } : Jvm.MethodName)) ∈ Tg := tg_5 (i := 174) rfl rfl
theorem wd_1135 : (Jvm.Cond.code ({ cls := "LanguageServerModel", name := "above", desc := "(I)I" } : Jvm.MethodName) prog_13_method_30_code (3 : Nat) (Option.some Jvm.ClassFile.FieldType.int)) ∈ Tg := tg_5 (i := 175) rfl rfl
theorem wd_1136 : (Jvm.Cond.methodLink "LanguageServerModel" (195 : Nat) ({ cls := "LanguageServerModel", name := "declares", desc := "(I)Z" } : Jvm.MethodName)) ∈ Tg := tg_5 (i := 176) rfl rfl
theorem wd_1137 : (Jvm.Cond.static ({ cls := "LanguageServerModel", name := "declares", desc := "(I)Z" } : Jvm.MethodName)) ∈ Tg := tg_5 (i := 177) rfl rfl
theorem wd_1138 : (Jvm.Cond.code ({ cls := "LanguageServerModel", name := "declares", desc := "(I)Z" } : Jvm.MethodName) prog_13_method_33_code (1 : Nat) (Option.some Jvm.ClassFile.FieldType.boolean)) ∈ Tg := tg_5 (i := 178) rfl rfl
theorem wd_1139 : (Jvm.Cond.methodLink "LanguageServerModel" (207 : Nat) ({ cls := "LanguageServerModel", name := "judgeMember", desc := "(I)V" } : Jvm.MethodName)) ∈ Tg := tg_5 (i := 179) rfl rfl
theorem wd_1141 : (Jvm.Cond.instanceMethod ({ cls := "LanguageServerModel", name := "judgeMember", desc := "(I)V" } : Jvm.MethodName)) ∈ Tg := tg_5 (i := 181) rfl rfl
theorem wd_1142 : (Jvm.Cond.code ({ cls := "LanguageServerModel", name := "judgeMember", desc := "(I)V" } : Jvm.MethodName) prog_13_method_39_code (3 : Nat) (Option.none : Option Jvm.ClassFile.FieldType)) ∈ Tg := tg_5 (i := 182) rfl rfl
theorem wd_1143 : (Jvm.Cond.methodLink "LanguageServerModel" (210 : Nat) ({ cls := "LanguageServerModel", name := "local", desc := "(II)I" } : Jvm.MethodName)) ∈ Tg := tg_5 (i := 183) rfl rfl
theorem wd_1145 : (Jvm.Cond.instanceMethod ({ cls := "LanguageServerModel", name := "local", desc := "(II)I" } : Jvm.MethodName)) ∈ Tg := tg_5 (i := 185) rfl rfl
theorem wd_1146 : (Jvm.Cond.code ({ cls := "LanguageServerModel", name := "local", desc := "(II)I" } : Jvm.MethodName) prog_13_method_36_code (4 : Nat) (Option.some Jvm.ClassFile.FieldType.int)) ∈ Tg := tg_5 (i := 186) rfl rfl
theorem wd_1147 : (Jvm.Cond.methodLink "LanguageServerModel" (271 : Nat) ({ cls := "LanguageServerModel", name := "judgeStatement", desc := "(I)V" } : Jvm.MethodName)) ∈ Tg := tg_5 (i := 187) rfl rfl
theorem wd_1149 : (Jvm.Cond.instanceMethod ({ cls := "LanguageServerModel", name := "judgeStatement", desc := "(I)V" } : Jvm.MethodName)) ∈ Tg := tg_5 (i := 189) rfl rfl
theorem wd_1150 : (Jvm.Cond.code ({ cls := "LanguageServerModel", name := "judgeStatement", desc := "(I)V" } : Jvm.MethodName) prog_13_method_53_code (5 : Nat) (Option.none : Option Jvm.ClassFile.FieldType)) ∈ Tg := tg_5 (i := 190) rfl rfl
theorem wd_1151 : (Jvm.Cond.methodLink "LanguageServerModel" (259 : Nat) ({ cls := "LanguageServerModel", name := "evaluate", desc := "(II)I" } : Jvm.MethodName)) ∈ Tg := tg_5 (i := 191) rfl rfl
theorem wd_1153 : (Jvm.Cond.instanceMethod ({ cls := "LanguageServerModel", name := "evaluate", desc := "(II)I" } : Jvm.MethodName)) ∈ Tg := tg_5 (i := 193) rfl rfl
theorem wd_1154 : (Jvm.Cond.code ({ cls := "LanguageServerModel", name := "evaluate", desc := "(II)I" } : Jvm.MethodName) prog_13_method_51_code (7 : Nat) (Option.some Jvm.ClassFile.FieldType.int)) ∈ Tg := tg_5 (i := 194) rfl rfl
theorem wd_1155 : (Jvm.Cond.methodLink "LanguageServerModel" (237 : Nat) ({ cls := "LanguageServerModel", name := "start", desc := "(I)V" } : Jvm.MethodName)) ∈ Tg := tg_5 (i := 195) rfl rfl
theorem wd_1157 : (Jvm.Cond.instanceMethod ({ cls := "LanguageServerModel", name := "start", desc := "(I)V" } : Jvm.MethodName)) ∈ Tg := tg_5 (i := 197) rfl rfl
theorem wd_1158 : (Jvm.Cond.code ({ cls := "LanguageServerModel", name := "start", desc := "(I)V" } : Jvm.MethodName) prog_13_method_43_code (2 : Nat) (Option.none : Option Jvm.ClassFile.FieldType)) ∈ Tg := tg_5 (i := 198) rfl rfl
theorem wd_1159 : (Jvm.Cond.methodLink "LanguageServerModel" (247 : Nat) ({ cls := "LanguageServerModel", name := "takeName", desc := "(II)V" } : Jvm.MethodName)) ∈ Tg := tg_5 (i := 199) rfl rfl
theorem wd_1161 : (Jvm.Cond.instanceMethod ({ cls := "LanguageServerModel", name := "takeName", desc := "(II)V" } : Jvm.MethodName)) ∈ Tg := tg_5 (i := 201) rfl rfl
theorem wd_1162 : (Jvm.Cond.code ({ cls := "LanguageServerModel", name := "takeName", desc := "(II)V" } : Jvm.MethodName) prog_13_method_48_code (9 : Nat) (Option.none : Option Jvm.ClassFile.FieldType)) ∈ Tg := tg_5 (i := 202) rfl rfl
theorem wd_1163 : (Jvm.Cond.methodLink "LanguageServerModel" (224 : Nat) ({ cls := "LanguageServerModel", name := "means", desc := "(III)I" } : Jvm.MethodName)) ∈ Tg := tg_5 (i := 203) rfl rfl
theorem wd_1165 : (Jvm.Cond.instanceMethod ({ cls := "LanguageServerModel", name := "means", desc := "(III)I" } : Jvm.MethodName)) ∈ Tg := tg_5 (i := 205) rfl rfl
theorem wd_1166 : (Jvm.Cond.code ({ cls := "LanguageServerModel", name := "means", desc := "(III)I" } : Jvm.MethodName) prog_13_method_47_code (6 : Nat) (Option.some Jvm.ClassFile.FieldType.int)) ∈ Tg := tg_5 (i := 206) rfl rfl
theorem wd_1167 : (Jvm.Cond.methodLink "LanguageServerModel" (220 : Nat) ({ cls := "LanguageServerModel", name := "find", desc := "(IJ)I" } : Jvm.MethodName)) ∈ Tg := tg_5 (i := 207) rfl rfl
theorem wd_1169 : (Jvm.Cond.instanceMethod ({ cls := "LanguageServerModel", name := "find", desc := "(IJ)I" } : Jvm.MethodName)) ∈ Tg := tg_5 (i := 209) rfl rfl
theorem wd_1170 : (Jvm.Cond.code ({ cls := "LanguageServerModel", name := "find", desc := "(IJ)I" } : Jvm.MethodName) prog_13_method_34_code (6 : Nat) (Option.some Jvm.ClassFile.FieldType.int)) ∈ Tg := tg_5 (i := 210) rfl rfl
theorem wd_1171 : (Jvm.Cond.methodLink "LanguageServerModel" (198 : Nat) ({ cls := "LanguageServerModel", name := "parent", desc := "(I)I" } : Jvm.MethodName)) ∈ Tg := tg_5 (i := 211) rfl rfl
theorem wd_1173 : (Jvm.Cond.instanceMethod ({ cls := "LanguageServerModel", name := "parent", desc := "(I)I" } : Jvm.MethodName)) ∈ Tg := tg_5 (i := 213) rfl rfl
theorem wd_1174 : (Jvm.Cond.code ({ cls := "LanguageServerModel", name := "parent", desc := "(I)I" } : Jvm.MethodName) prog_13_method_32_code (2 : Nat) (Option.some Jvm.ClassFile.FieldType.int)) ∈ Tg := tg_5 (i := 214) rfl rfl
theorem wd_1175 : (Jvm.Cond.methodLink "LanguageServerModel" (228 : Nat) ({ cls := "LanguageServerModel", name := "declared", desc := "(I)I" } : Jvm.MethodName)) ∈ Tg := tg_5 (i := 215) rfl rfl
theorem wd_1177 : (Jvm.Cond.instanceMethod ({ cls := "LanguageServerModel", name := "declared", desc := "(I)I" } : Jvm.MethodName)) ∈ Tg := tg_5 (i := 217) rfl rfl
theorem wd_1178 : (Jvm.Cond.code ({ cls := "LanguageServerModel", name := "declared", desc := "(I)I" } : Jvm.MethodName) prog_13_method_35_code (2 : Nat) (Option.some Jvm.ClassFile.FieldType.int)) ∈ Tg := tg_5 (i := 218) rfl rfl
theorem wd_1179 : (Jvm.Cond.methodLink "LanguageServerModel" (231 : Nat) ({ cls := "LanguageServerModel", name := "arguments", desc := "(I)I" } : Jvm.MethodName)) ∈ Tg := tg_5 (i := 219) rfl rfl
theorem wd_1181 : (Jvm.Cond.instanceMethod ({ cls := "LanguageServerModel", name := "arguments", desc := "(I)I" } : Jvm.MethodName)) ∈ Tg := tg_5 (i := 221) rfl rfl
theorem wd_1182 : (Jvm.Cond.code ({ cls := "LanguageServerModel", name := "arguments", desc := "(I)I" } : Jvm.MethodName) prog_13_method_44_code (5 : Nat) (Option.some Jvm.ClassFile.FieldType.int)) ∈ Tg := tg_5 (i := 222) rfl rfl
theorem wd_1183 : (Jvm.Cond.methodLink "LanguageServerModel" (234 : Nat) ({ cls := "LanguageServerModel", name := "parametersOf", desc := "(I)I" } : Jvm.MethodName)) ∈ Tg := tg_5 (i := 223) rfl rfl
theorem wd_1185 : (Jvm.Cond.instanceMethod ({ cls := "LanguageServerModel", name := "parametersOf", desc := "(I)I" } : Jvm.MethodName)) ∈ Tg := tg_5 (i := 225) rfl rfl
theorem wd_1186 : (Jvm.Cond.code ({ cls := "LanguageServerModel", name := "parametersOf", desc := "(I)I" } : Jvm.MethodName) prog_13_method_46_code (3 : Nat) (Option.some Jvm.ClassFile.FieldType.int)) ∈ Tg := tg_5 (i := 226) rfl rfl
theorem wd_1187 : (Jvm.Cond.methodLink "LanguageServerModel" (217 : Nat) ({ cls := "LanguageServerModel", name := "parameter", desc := "(II)I" } : Jvm.MethodName)) ∈ Tg := tg_5 (i := 227) rfl rfl
theorem wd_1189 : (Jvm.Cond.instanceMethod ({ cls := "LanguageServerModel", name := "parameter", desc := "(II)I" } : Jvm.MethodName)) ∈ Tg := tg_5 (i := 229) rfl rfl
theorem wd_1190 : (Jvm.Cond.code ({ cls := "LanguageServerModel", name := "parameter", desc := "(II)I" } : Jvm.MethodName) prog_13_method_45_code (5 : Nat) (Option.some Jvm.ClassFile.FieldType.int)) ∈ Tg := tg_5 (i := 230) rfl rfl
theorem wd_1191 : (Jvm.Cond.methodLink "LanguageServerModel" (250 : Nat) ({ cls := "LanguageServerModel", name := "step", desc := "(II)Z" } : Jvm.MethodName)) ∈ Tg := tg_5 (i := 231) rfl rfl
theorem wd_1193 : (Jvm.Cond.instanceMethod ({ cls := "LanguageServerModel", name := "step", desc := "(II)Z" } : Jvm.MethodName)) ∈ Tg := tg_5 (i := 233) rfl rfl
theorem wd_1194 : (Jvm.Cond.code ({ cls := "LanguageServerModel", name := "step", desc := "(II)Z" } : Jvm.MethodName) prog_13_method_52_code (4 : Nat) (Option.some Jvm.ClassFile.FieldType.boolean)) ∈ Tg := tg_5 (i := 234) rfl rfl
theorem wd_1195 : (Jvm.Cond.methodLink "LanguageServerModel" (240 : Nat) ({ cls := "LanguageServerModel", name := "should", desc := "(III)V" } : Jvm.MethodName)) ∈ Tg := tg_5 (i := 235) rfl rfl
theorem wd_1197 : (Jvm.Cond.instanceMethod ({ cls := "LanguageServerModel", name := "should", desc := "(III)V" } : Jvm.MethodName)) ∈ Tg := tg_5 (i := 237) rfl rfl
theorem wd_1198 : (Jvm.Cond.code ({ cls := "LanguageServerModel", name := "should", desc := "(III)V" } : Jvm.MethodName) prog_13_method_42_code (4 : Nat) (Option.none : Option Jvm.ClassFile.FieldType)) ∈ Tg := tg_5 (i := 238) rfl rfl
theorem wd_1199 : (Jvm.Cond.methodLink "LanguageServerModel" (214 : Nat) ({ cls := "LanguageServerModel", name := "fits", desc := "(II)Z" } : Jvm.MethodName)) ∈ Tg := tg_5 (i := 239) rfl rfl
theorem wd_1201 : (Jvm.Cond.instanceMethod ({ cls := "LanguageServerModel", name := "fits", desc := "(II)Z" } : Jvm.MethodName)) ∈ Tg := tg_6 (i := 1) rfl rfl
theorem wd_1202 : (Jvm.Cond.code ({ cls := "LanguageServerModel", name := "fits", desc := "(II)Z" } : Jvm.MethodName) prog_13_method_41_code (4 : Nat) (Option.some Jvm.ClassFile.FieldType.boolean)) ∈ Tg := tg_6 (i := 2) rfl rfl
theorem wd_1203 : (Jvm.Cond.methodLink "LanguageServerModel" (256 : Nat) ({ cls := "LanguageServerModel", name := "overArgument", desc := "()V" } : Jvm.MethodName)) ∈ Tg := tg_6 (i := 3) rfl rfl
theorem wd_1205 : (Jvm.Cond.instanceMethod ({ cls := "LanguageServerModel", name := "overArgument", desc := "()V" } : Jvm.MethodName)) ∈ Tg := tg_6 (i := 5) rfl rfl
theorem wd_1206 : (Jvm.Cond.code ({ cls := "LanguageServerModel", name := "overArgument", desc := "()V" } : Jvm.MethodName) prog_13_method_50_code (2 : Nat) (Option.none : Option Jvm.ClassFile.FieldType)) ∈ Tg := tg_6 (i := 6) rfl rfl
theorem wd_1207 : (Jvm.Cond.methodLink "LanguageServerModel" (243 : Nat) ({ cls := "LanguageServerModel", name := "over", desc := "()I" } : Jvm.MethodName)) ∈ Tg := tg_6 (i := 7) rfl rfl
theorem wd_1209 : (Jvm.Cond.instanceMethod ({ cls := "LanguageServerModel", name := "over", desc := "()I" } : Jvm.MethodName)) ∈ Tg := tg_6 (i := 9) rfl rfl
theorem wd_1210 : (Jvm.Cond.code ({ cls := "LanguageServerModel", name := "over", desc := "()I" } : Jvm.MethodName) prog_13_method_49_code (1 : Nat) (Option.some Jvm.ClassFile.FieldType.int)) ∈ Tg := tg_6 (i := 10) rfl rfl
theorem wd_1211 : (Jvm.Cond.methodLink "LanguageServerModel" (277 : Nat) ({ cls := "LanguageServerModel", name := "diagnosticCount", desc := "()I" } : Jvm.MethodName)) ∈ Tg := tg_6 (i := 11) rfl rfl
theorem wd_1213 : (Jvm.Cond.instanceMethod ({ cls := "LanguageServerModel", name := "diagnosticCount", desc := "()I" } : Jvm.MethodName)) ∈ Tg := tg_6 (i := 13) rfl rfl
theorem wd_1214 : (Jvm.Cond.code ({ cls := "LanguageServerModel", name := "diagnosticCount", desc := "()I" } : Jvm.MethodName) prog_13_method_55_code (3 : Nat) (Option.some Jvm.ClassFile.FieldType.int)) ∈ Tg := tg_6 (i := 14) rfl rfl
theorem wd_1223 : (Jvm.Cond.methodLink "LanguageServerModel" (280 : Nat) ({ cls := "LanguageServerModel", name := "named", desc := "(I)I" } : Jvm.MethodName)) ∈ Tg := tg_6 (i := 23) rfl rfl
theorem wd_1225 : (Jvm.Cond.instanceMethod ({ cls := "LanguageServerModel", name := "named", desc := "(I)I" } : Jvm.MethodName)) ∈ Tg := tg_6 (i := 25) rfl rfl
theorem wd_1226 : (Jvm.Cond.code ({ cls := "LanguageServerModel", name := "named", desc := "(I)I" } : Jvm.MethodName) prog_13_method_58_code (3 : Nat) (Option.some Jvm.ClassFile.FieldType.int)) ∈ Tg := tg_6 (i := 26) rfl rfl
theorem wd_1235 : (Jvm.Cond.methodLink "LanguageServerModel" (283 : Nat) ({ cls := "LanguageServerModel", name := "uses", desc := "(I)I" } : Jvm.MethodName)) ∈ Tg := tg_6 (i := 35) rfl rfl
theorem wd_1237 : (Jvm.Cond.instanceMethod ({ cls := "LanguageServerModel", name := "uses", desc := "(I)I" } : Jvm.MethodName)) ∈ Tg := tg_6 (i := 37) rfl rfl
theorem wd_1238 : (Jvm.Cond.code ({ cls := "LanguageServerModel", name := "uses", desc := "(I)I" } : Jvm.MethodName) prog_13_method_61_code (4 : Nat) (Option.some Jvm.ClassFile.FieldType.int)) ∈ Tg := tg_6 (i := 38) rfl rfl
theorem wd_1247 : (Jvm.Cond.methodLink "LanguageServerModel" (286 : Nat) ({ cls := "LanguageServerModel", name := "hasMember", desc := "(II)Z" } : Jvm.MethodName)) ∈ Tg := tg_6 (i := 47) rfl rfl
theorem wd_1249 : (Jvm.Cond.instanceMethod ({ cls := "LanguageServerModel", name := "hasMember", desc := "(II)Z" } : Jvm.MethodName)) ∈ Tg := tg_6 (i := 49) rfl rfl
theorem wd_1250 : (Jvm.Cond.code ({ cls := "LanguageServerModel", name := "hasMember", desc := "(II)Z" } : Jvm.MethodName) prog_13_method_64_code (3 : Nat) (Option.some Jvm.ClassFile.FieldType.boolean)) ∈ Tg := tg_6 (i := 50) rfl rfl
theorem wd_1255 : (Jvm.Cond.methodLink "LanguageServerModel" (293 : Nat) ({ cls := "LanguageServerModel", name := "before", desc := "(II)I" } : Jvm.MethodName)) ∈ Tg := tg_6 (i := 55) rfl rfl
theorem wd_1257 : (Jvm.Cond.instanceMethod ({ cls := "LanguageServerModel", name := "before", desc := "(II)I" } : Jvm.MethodName)) ∈ Tg := tg_6 (i := 57) rfl rfl
theorem wd_1258 : (Jvm.Cond.code ({ cls := "LanguageServerModel", name := "before", desc := "(II)I" } : Jvm.MethodName) prog_13_method_67_code (5 : Nat) (Option.some Jvm.ClassFile.FieldType.int)) ∈ Tg := tg_6 (i := 58) rfl rfl
theorem wd_1259 : (Jvm.Cond.methodLink "LanguageServerModel" (289 : Nat) ({ cls := "LanguageServerModel", name := "aligned", desc := "(J)J" } : Jvm.MethodName)) ∈ Tg := tg_6 (i := 59) rfl rfl
theorem wd_1260 : (Jvm.Cond.static ({ cls := "LanguageServerModel", name := "aligned", desc := "(J)J" } : Jvm.MethodName)) ∈ Tg := tg_6 (i := 60) rfl rfl
theorem wd_1261 : (Jvm.Cond.code ({ cls := "LanguageServerModel", name := "aligned", desc := "(J)J" } : Jvm.MethodName) prog_13_method_66_code (5 : Nat) (Option.some Jvm.ClassFile.FieldType.long)) ∈ Tg := tg_6 (i := 61) rfl rfl
theorem wd_1266 : (Jvm.Cond.methodLink "LanguageServerModel" (305 : Nat) ({ cls := "LanguageServerModel", name := "newName", desc := "(JI)Z" } : Jvm.MethodName)) ∈ Tg := tg_6 (i := 66) rfl rfl
theorem wd_1268 : (Jvm.Cond.instanceMethod ({ cls := "LanguageServerModel", name := "newName", desc := "(JI)Z" } : Jvm.MethodName)) ∈ Tg := tg_6 (i := 68) rfl rfl
theorem wd_1269 : (Jvm.Cond.code ({ cls := "LanguageServerModel", name := "newName", desc := "(JI)Z" } : Jvm.MethodName) prog_13_method_69_code (8 : Nat) (Option.some Jvm.ClassFile.FieldType.boolean)) ∈ Tg := tg_6 (i := 69) rfl rfl
theorem wd_1270 : (Jvm.Cond.methodLink "LanguageServerModel" (309 : Nat) ({ cls := "LanguageServerModel", name := "save", desc := "()V" } : Jvm.MethodName)) ∈ Tg := tg_6 (i := 70) rfl rfl
theorem wd_1272 : (Jvm.Cond.instanceMethod ({ cls := "LanguageServerModel", name := "save", desc := "()V" } : Jvm.MethodName)) ∈ Tg := tg_6 (i := 72) rfl rfl
theorem wd_1273 : (Jvm.Cond.code ({ cls := "LanguageServerModel", name := "save", desc := "()V" } : Jvm.MethodName) prog_13_method_70_code (2 : Nat) (Option.none : Option Jvm.ClassFile.FieldType)) ∈ Tg := tg_6 (i := 73) rfl rfl
theorem wd_1274 : (Jvm.Cond.methodLink "LanguageServerModel" (312 : Nat) ({ cls := "LanguageServerModel", name := "replace", desc := "(IIJI)V" } : Jvm.MethodName)) ∈ Tg := tg_6 (i := 74) rfl rfl
theorem wd_1276 : (Jvm.Cond.instanceMethod ({ cls := "LanguageServerModel", name := "replace", desc := "(IIJI)V" } : Jvm.MethodName)) ∈ Tg := tg_6 (i := 76) rfl rfl
theorem wd_1277 : (Jvm.Cond.code ({ cls := "LanguageServerModel", name := "replace", desc := "(IIJI)V" } : Jvm.MethodName) prog_13_method_72_code (7 : Nat) (Option.none : Option Jvm.ClassFile.FieldType)) ∈ Tg := tg_6 (i := 77) rfl rfl
theorem wd_1278 : (Jvm.Cond.methodLink "LanguageServerModel" (299 : Nat) ({ cls := "LanguageServerModel", name := "delete", desc := "(II)I" } : Jvm.MethodName)) ∈ Tg := tg_6 (i := 78) rfl rfl
theorem wd_1279 : (Jvm.Cond.methodLink "LanguageServerModel" (302 : Nat) ({ cls := "LanguageServerModel", name := "insert", desc := "(II)I" } : Jvm.MethodName)) ∈ Tg := tg_6 (i := 79) rfl rfl
theorem wd_1280 : (Jvm.Cond.methodLink "LanguageServerModel" (316 : Nat) ({ cls := "LanguageServerModel", name := "same", desc := "(I)Z" } : Jvm.MethodName)) ∈ Tg := tg_6 (i := 80) rfl rfl
theorem wd_1282 : (Jvm.Cond.instanceMethod ({ cls := "LanguageServerModel", name := "same", desc := "(I)Z" } : Jvm.MethodName)) ∈ Tg := tg_6 (i := 82) rfl rfl
theorem wd_1283 : (Jvm.Cond.code ({ cls := "LanguageServerModel", name := "same", desc := "(I)Z" } : Jvm.MethodName) prog_13_method_73_code (5 : Nat) (Option.some Jvm.ClassFile.FieldType.boolean)) ∈ Tg := tg_6 (i := 83) rfl rfl
theorem wd_1284 : (Jvm.Cond.methodLink "LanguageServerModel" (319 : Nat) ({ cls := "LanguageServerModel", name := "back", desc := "()I" } : Jvm.MethodName)) ∈ Tg := tg_6 (i := 84) rfl rfl
theorem wd_1286 : (Jvm.Cond.instanceMethod ({ cls := "LanguageServerModel", name := "back", desc := "()I" } : Jvm.MethodName)) ∈ Tg := tg_6 (i := 86) rfl rfl
theorem wd_1287 : (Jvm.Cond.code ({ cls := "LanguageServerModel", name := "back", desc := "()I" } : Jvm.MethodName) prog_13_method_71_code (2 : Nat) (Option.some Jvm.ClassFile.FieldType.int)) ∈ Tg := tg_6 (i := 87) rfl rfl
theorem wp_43 : Jvm.Cond.selects "LanguageServerModel" ⟨"LanguageServerModel", "fail", "(I)I"⟩ ⟨"LanguageServerModel", "fail", "(I)I"⟩ ∈ Tg := tgp_3 (i := 11) (q := (⟨"LanguageServerModel", "fail", "(I)I"⟩, 32)) rfl rfl
theorem wp_44 : Jvm.Cond.selects "LanguageServerModel" ⟨"LanguageServerModel", "analyse", "()V"⟩ ⟨"LanguageServerModel", "analyse", "()V"⟩ ∈ Tg := tgp_3 (i := 12) (q := (⟨"LanguageServerModel", "analyse", "()V"⟩, 32)) rfl rfl
theorem wp_45 : Jvm.Cond.selects "LanguageServerModel" ⟨"LanguageServerModel", "cutAll", "()V"⟩ ⟨"LanguageServerModel", "cutAll", "()V"⟩ ∈ Tg := tgp_3 (i := 13) (q := (⟨"LanguageServerModel", "cutAll", "()V"⟩, 32)) rfl rfl
theorem wp_46 : Jvm.Cond.selects "LanguageServerModel" ⟨"LanguageServerModel", "cut", "(I)I"⟩ ⟨"LanguageServerModel", "cut", "(I)I"⟩ ∈ Tg := tgp_3 (i := 14) (q := (⟨"LanguageServerModel", "cut", "(I)I"⟩, 32)) rfl rfl
theorem wp_47 : Jvm.Cond.selects "LanguageServerModel" ⟨"LanguageServerModel", "file", "()V"⟩ ⟨"LanguageServerModel", "file", "()V"⟩ ∈ Tg := tgp_3 (i := 15) (q := (⟨"LanguageServerModel", "file", "()V"⟩, 32)) rfl rfl
theorem wp_48 : Jvm.Cond.selects "LanguageServerModel" ⟨"LanguageServerModel", "need", "(I)V"⟩ ⟨"LanguageServerModel", "need", "(I)V"⟩ ∈ Tg := tgp_4 (i := 0) (q := (⟨"LanguageServerModel", "need", "(I)V"⟩, 32)) rfl rfl
theorem wp_49 : Jvm.Cond.selects "LanguageServerModel" ⟨"LanguageServerModel", "take", "(I)Z"⟩ ⟨"LanguageServerModel", "take", "(I)Z"⟩ ∈ Tg := tgp_4 (i := 1) (q := (⟨"LanguageServerModel", "take", "(I)Z"⟩, 32)) rfl rfl
theorem wp_50 : Jvm.Cond.selects "LanguageServerModel" ⟨"LanguageServerModel", "is", "(I)Z"⟩ ⟨"LanguageServerModel", "is", "(I)Z"⟩ ∈ Tg := tgp_4 (i := 2) (q := (⟨"LanguageServerModel", "is", "(I)Z"⟩, 32)) rfl rfl
theorem wp_51 : Jvm.Cond.selects "LanguageServerModel" ⟨"LanguageServerModel", "name", "(III)V"⟩ ⟨"LanguageServerModel", "name", "(III)V"⟩ ∈ Tg := tgp_4 (i := 3) (q := (⟨"LanguageServerModel", "name", "(III)V"⟩, 32)) rfl rfl
theorem wp_52 : Jvm.Cond.selects "LanguageServerModel" ⟨"LanguageServerModel", "readMember", "(I)V"⟩ ⟨"LanguageServerModel", "readMember", "(I)V"⟩ ∈ Tg := tgp_4 (i := 4) (q := (⟨"LanguageServerModel", "readMember", "(I)V"⟩, 32)) rfl rfl
theorem wp_53 : Jvm.Cond.selects "LanguageServerModel" ⟨"LanguageServerModel", "typeWord", "(II)V"⟩ ⟨"LanguageServerModel", "typeWord", "(II)V"⟩ ∈ Tg := tgp_4 (i := 5) (q := (⟨"LanguageServerModel", "typeWord", "(II)V"⟩, 32)) rfl rfl
theorem wp_54 : Jvm.Cond.selects "LanguageServerModel" ⟨"LanguageServerModel", "parameters", "(II)V"⟩ ⟨"LanguageServerModel", "parameters", "(II)V"⟩ ∈ Tg := tgp_4 (i := 6) (q := (⟨"LanguageServerModel", "parameters", "(II)V"⟩, 32)) rfl rfl
theorem wp_55 : Jvm.Cond.selects "LanguageServerModel" ⟨"LanguageServerModel", "statement", "(II)V"⟩ ⟨"LanguageServerModel", "statement", "(II)V"⟩ ∈ Tg := tgp_4 (i := 7) (q := (⟨"LanguageServerModel", "statement", "(II)V"⟩, 32)) rfl rfl
theorem wp_56 : Jvm.Cond.selects "LanguageServerModel" ⟨"LanguageServerModel", "expression", "(II)V"⟩ ⟨"LanguageServerModel", "expression", "(II)V"⟩ ∈ Tg := tgp_4 (i := 8) (q := (⟨"LanguageServerModel", "expression", "(II)V"⟩, 32)) rfl rfl
theorem wp_57 : Jvm.Cond.selects "LanguageServerModel" ⟨"LanguageServerModel", "operand", "(II)Z"⟩ ⟨"LanguageServerModel", "operand", "(II)Z"⟩ ∈ Tg := tgp_4 (i := 9) (q := (⟨"LanguageServerModel", "operand", "(II)Z"⟩, 32)) rfl rfl
theorem wp_58 : Jvm.Cond.selects "LanguageServerModel" ⟨"LanguageServerModel", "behindName", "(III)Z"⟩ ⟨"LanguageServerModel", "behindName", "(III)Z"⟩ ∈ Tg := tgp_4 (i := 10) (q := (⟨"LanguageServerModel", "behindName", "(III)Z"⟩, 32)) rfl rfl
theorem wp_59 : Jvm.Cond.selects "LanguageServerModel" ⟨"LanguageServerModel", "open", "(Z)V"⟩ ⟨"LanguageServerModel", "open", "(Z)V"⟩ ∈ Tg := tgp_4 (i := 11) (q := (⟨"LanguageServerModel", "open", "(Z)V"⟩, 32)) rfl rfl
theorem wp_60 : Jvm.Cond.selects "LanguageServerModel" ⟨"LanguageServerModel", "judgeName", "(I)V"⟩ ⟨"LanguageServerModel", "judgeName", "(I)V"⟩ ∈ Tg := tgp_4 (i := 12) (q := (⟨"LanguageServerModel", "judgeName", "(I)V"⟩, 32)) rfl rfl
theorem wp_61 : Jvm.Cond.selects "LanguageServerModel" ⟨"LanguageServerModel", "judgeClass", "(I)V"⟩ ⟨"LanguageServerModel", "judgeClass", "(I)V"⟩ ∈ Tg := tgp_4 (i := 13) (q := (⟨"LanguageServerModel", "judgeClass", "(I)V"⟩, 32)) rfl rfl
theorem wp_62 : Jvm.Cond.selects "LanguageServerModel" ⟨"LanguageServerModel", "classOf", "(I)I"⟩ ⟨"LanguageServerModel", "classOf", "(I)I"⟩ ∈ Tg := tgp_4 (i := 14) (q := (⟨"LanguageServerModel", "classOf", "(I)I"⟩, 32)) rfl rfl
theorem wp_63 : Jvm.Cond.selects "LanguageServerModel" ⟨"LanguageServerModel", "note", "(II)V"⟩ ⟨"LanguageServerModel", "note", "(II)V"⟩ ∈ Tg := tgp_4 (i := 15) (q := (⟨"LanguageServerModel", "note", "(II)V"⟩, 32)) rfl rfl
theorem wp_64 : Jvm.Cond.selects "LanguageServerModel" ⟨"LanguageServerModel", "circles", "(I)Z"⟩ ⟨"LanguageServerModel", "circles", "(I)Z"⟩ ∈ Tg := tgp_5 (i := 0) (q := (⟨"LanguageServerModel", "circles", "(I)Z"⟩, 32)) rfl rfl
theorem wp_65 : Jvm.Cond.selects "LanguageServerModel" ⟨"LanguageServerModel", "above", "(I)I"⟩ ⟨"LanguageServerModel", "above", "(I)I"⟩ ∈ Tg := tgp_5 (i := 1) (q := (⟨"LanguageServerModel", "above", "(I)I"⟩, 32)) rfl rfl
theorem wp_66 : Jvm.Cond.selects "LanguageServerModel" ⟨"LanguageServerModel", "judgeMember", "(I)V"⟩ ⟨"LanguageServerModel", "judgeMember", "(I)V"⟩ ∈ Tg := tgp_5 (i := 2) (q := (⟨"LanguageServerModel", "judgeMember", "(I)V"⟩, 32)) rfl rfl
theorem wp_67 : Jvm.Cond.selects "LanguageServerModel" ⟨"LanguageServerModel", "local", "(II)I"⟩ ⟨"LanguageServerModel", "local", "(II)I"⟩ ∈ Tg := tgp_5 (i := 3) (q := (⟨"LanguageServerModel", "local", "(II)I"⟩, 32)) rfl rfl
theorem wp_68 : Jvm.Cond.selects "LanguageServerModel" ⟨"LanguageServerModel", "judgeStatement", "(I)V"⟩ ⟨"LanguageServerModel", "judgeStatement", "(I)V"⟩ ∈ Tg := tgp_5 (i := 4) (q := (⟨"LanguageServerModel", "judgeStatement", "(I)V"⟩, 32)) rfl rfl
theorem wp_69 : Jvm.Cond.selects "LanguageServerModel" ⟨"LanguageServerModel", "evaluate", "(II)I"⟩ ⟨"LanguageServerModel", "evaluate", "(II)I"⟩ ∈ Tg := tgp_5 (i := 5) (q := (⟨"LanguageServerModel", "evaluate", "(II)I"⟩, 32)) rfl rfl
theorem wp_70 : Jvm.Cond.selects "LanguageServerModel" ⟨"LanguageServerModel", "start", "(I)V"⟩ ⟨"LanguageServerModel", "start", "(I)V"⟩ ∈ Tg := tgp_5 (i := 6) (q := (⟨"LanguageServerModel", "start", "(I)V"⟩, 32)) rfl rfl
theorem wp_71 : Jvm.Cond.selects "LanguageServerModel" ⟨"LanguageServerModel", "takeName", "(II)V"⟩ ⟨"LanguageServerModel", "takeName", "(II)V"⟩ ∈ Tg := tgp_5 (i := 7) (q := (⟨"LanguageServerModel", "takeName", "(II)V"⟩, 32)) rfl rfl
theorem wp_72 : Jvm.Cond.selects "LanguageServerModel" ⟨"LanguageServerModel", "means", "(III)I"⟩ ⟨"LanguageServerModel", "means", "(III)I"⟩ ∈ Tg := tgp_5 (i := 8) (q := (⟨"LanguageServerModel", "means", "(III)I"⟩, 32)) rfl rfl
theorem wp_73 : Jvm.Cond.selects "LanguageServerModel" ⟨"LanguageServerModel", "find", "(IJ)I"⟩ ⟨"LanguageServerModel", "find", "(IJ)I"⟩ ∈ Tg := tgp_5 (i := 9) (q := (⟨"LanguageServerModel", "find", "(IJ)I"⟩, 32)) rfl rfl
theorem wp_74 : Jvm.Cond.selects "LanguageServerModel" ⟨"LanguageServerModel", "parent", "(I)I"⟩ ⟨"LanguageServerModel", "parent", "(I)I"⟩ ∈ Tg := tgp_5 (i := 10) (q := (⟨"LanguageServerModel", "parent", "(I)I"⟩, 32)) rfl rfl
theorem wp_75 : Jvm.Cond.selects "LanguageServerModel" ⟨"LanguageServerModel", "declared", "(I)I"⟩ ⟨"LanguageServerModel", "declared", "(I)I"⟩ ∈ Tg := tgp_5 (i := 11) (q := (⟨"LanguageServerModel", "declared", "(I)I"⟩, 32)) rfl rfl
theorem wp_76 : Jvm.Cond.selects "LanguageServerModel" ⟨"LanguageServerModel", "arguments", "(I)I"⟩ ⟨"LanguageServerModel", "arguments", "(I)I"⟩ ∈ Tg := tgp_5 (i := 12) (q := (⟨"LanguageServerModel", "arguments", "(I)I"⟩, 32)) rfl rfl
theorem wp_77 : Jvm.Cond.selects "LanguageServerModel" ⟨"LanguageServerModel", "parametersOf", "(I)I"⟩ ⟨"LanguageServerModel", "parametersOf", "(I)I"⟩ ∈ Tg := tgp_5 (i := 13) (q := (⟨"LanguageServerModel", "parametersOf", "(I)I"⟩, 32)) rfl rfl
theorem wp_78 : Jvm.Cond.selects "LanguageServerModel" ⟨"LanguageServerModel", "parameter", "(II)I"⟩ ⟨"LanguageServerModel", "parameter", "(II)I"⟩ ∈ Tg := tgp_5 (i := 14) (q := (⟨"LanguageServerModel", "parameter", "(II)I"⟩, 32)) rfl rfl
theorem wp_79 : Jvm.Cond.selects "LanguageServerModel" ⟨"LanguageServerModel", "step", "(II)Z"⟩ ⟨"LanguageServerModel", "step", "(II)Z"⟩ ∈ Tg := tgp_5 (i := 15) (q := (⟨"LanguageServerModel", "step", "(II)Z"⟩, 32)) rfl rfl
theorem wp_80 : Jvm.Cond.selects "LanguageServerModel" ⟨"LanguageServerModel", "should", "(III)V"⟩ ⟨"LanguageServerModel", "should", "(III)V"⟩ ∈ Tg := tgp_6 (i := 0) (q := (⟨"LanguageServerModel", "should", "(III)V"⟩, 32)) rfl rfl
theorem wp_81 : Jvm.Cond.selects "LanguageServerModel" ⟨"LanguageServerModel", "fits", "(II)Z"⟩ ⟨"LanguageServerModel", "fits", "(II)Z"⟩ ∈ Tg := tgp_6 (i := 1) (q := (⟨"LanguageServerModel", "fits", "(II)Z"⟩, 32)) rfl rfl
theorem wp_82 : Jvm.Cond.selects "LanguageServerModel" ⟨"LanguageServerModel", "overArgument", "()V"⟩ ⟨"LanguageServerModel", "overArgument", "()V"⟩ ∈ Tg := tgp_6 (i := 2) (q := (⟨"LanguageServerModel", "overArgument", "()V"⟩, 32)) rfl rfl
theorem wp_83 : Jvm.Cond.selects "LanguageServerModel" ⟨"LanguageServerModel", "over", "()I"⟩ ⟨"LanguageServerModel", "over", "()I"⟩ ∈ Tg := tgp_6 (i := 3) (q := (⟨"LanguageServerModel", "over", "()I"⟩, 32)) rfl rfl
theorem wp_84 : Jvm.Cond.selects "LanguageServerModel" ⟨"LanguageServerModel", "diagnosticCount", "()I"⟩ ⟨"LanguageServerModel", "diagnosticCount", "()I"⟩ ∈ Tg := tgp_6 (i := 4) (q := (⟨"LanguageServerModel", "diagnosticCount", "()I"⟩, 32)) rfl rfl
theorem wp_85 : Jvm.Cond.selects "LanguageServerModel" ⟨"LanguageServerModel", "named", "(I)I"⟩ ⟨"LanguageServerModel", "named", "(I)I"⟩ ∈ Tg := tgp_6 (i := 5) (q := (⟨"LanguageServerModel", "named", "(I)I"⟩, 32)) rfl rfl
theorem wp_86 : Jvm.Cond.selects "LanguageServerModel" ⟨"LanguageServerModel", "uses", "(I)I"⟩ ⟨"LanguageServerModel", "uses", "(I)I"⟩ ∈ Tg := tgp_6 (i := 6) (q := (⟨"LanguageServerModel", "uses", "(I)I"⟩, 32)) rfl rfl
theorem wp_87 : Jvm.Cond.selects "LanguageServerModel" ⟨"LanguageServerModel", "hasMember", "(II)Z"⟩ ⟨"LanguageServerModel", "hasMember", "(II)Z"⟩ ∈ Tg := tgp_6 (i := 7) (q := (⟨"LanguageServerModel", "hasMember", "(II)Z"⟩, 32)) rfl rfl
theorem wp_88 : Jvm.Cond.selects "LanguageServerModel" ⟨"LanguageServerModel", "before", "(II)I"⟩ ⟨"LanguageServerModel", "before", "(II)I"⟩ ∈ Tg := tgp_6 (i := 8) (q := (⟨"LanguageServerModel", "before", "(II)I"⟩, 32)) rfl rfl
theorem wp_89 : Jvm.Cond.selects "LanguageServerModel" ⟨"LanguageServerModel", "newName", "(JI)Z"⟩ ⟨"LanguageServerModel", "newName", "(JI)Z"⟩ ∈ Tg := tgp_6 (i := 9) (q := (⟨"LanguageServerModel", "newName", "(JI)Z"⟩, 32)) rfl rfl
theorem wp_90 : Jvm.Cond.selects "LanguageServerModel" ⟨"LanguageServerModel", "save", "()V"⟩ ⟨"LanguageServerModel", "save", "()V"⟩ ∈ Tg := tgp_6 (i := 10) (q := (⟨"LanguageServerModel", "save", "()V"⟩, 32)) rfl rfl
theorem wp_91 : Jvm.Cond.selects "LanguageServerModel" ⟨"LanguageServerModel", "replace", "(IIJI)V"⟩ ⟨"LanguageServerModel", "replace", "(IIJI)V"⟩ ∈ Tg := tgp_6 (i := 11) (q := (⟨"LanguageServerModel", "replace", "(IIJI)V"⟩, 32)) rfl rfl
theorem wp_92 : Jvm.Cond.selects "LanguageServerModel" ⟨"LanguageServerModel", "same", "(I)Z"⟩ ⟨"LanguageServerModel", "same", "(I)Z"⟩ ∈ Tg := tgp_6 (i := 12) (q := (⟨"LanguageServerModel", "same", "(I)Z"⟩, 32)) rfl rfl
theorem wp_93 : Jvm.Cond.selects "LanguageServerModel" ⟨"LanguageServerModel", "back", "()I"⟩ ⟨"LanguageServerModel", "back", "()I"⟩ ∈ Tg := tgp_6 (i := 13) (q := (⟨"LanguageServerModel", "back", "()I"⟩, 32)) rfl rfl
