theorem wd_0 : (Jvm.Cond.initialized "LanguageServerLaw") ∈ Tg := tg_1 (i := 0) rfl rfl
theorem wd_21 : (Jvm.Cond.classLink "LanguageServerLaw" (8 : Nat) "LanguageServer") ∈ Tg := tg_1 (i := 21) rfl rfl
theorem wd_22 : (Jvm.Cond.instantiable "LanguageServer" (2 : Nat)) ∈ Tg := tg_1 (i := 22) rfl rfl
theorem wd_23 : (Jvm.Cond.methodLink "LanguageServerLaw" (58 : Nat) ({ cls := "LanguageServer", name := "<init>", desc := "()V" } : Jvm.MethodName)) ∈ Tg := tg_1 (i := 23) rfl rfl
theorem wd_24 : (Jvm.Cond.instanceMethod ({ cls := "LanguageServer", name := "<init>", desc := "()V" } : Jvm.MethodName)) ∈ Tg := tg_1 (i := 24) rfl rfl
theorem wd_25 : (Jvm.Cond.code ({ cls := "LanguageServer", name := "<init>", desc := "()V" } : Jvm.MethodName) prog_1_method_1_code (1 : Nat) (Option.none : Option Jvm.ClassFile.FieldType)) ∈ Tg := tg_1 (i := 25) rfl rfl
theorem wd_305 : (Jvm.Cond.methodLink "LanguageServerLaw" (85 : Nat) ({ cls := "LanguageServer", name := "diagnostics", desc := "()I" } : Jvm.MethodName)) ∈ Tg := tg_2 (i := 65) rfl rfl
theorem wd_306 : (Jvm.Cond.instanceMethod ({ cls := "LanguageServer", name := "diagnostics", desc := "()I" } : Jvm.MethodName)) ∈ Tg := tg_2 (i := 66) rfl rfl
theorem wd_307 : (Jvm.Cond.selects "LanguageServer" ({ cls := "LanguageServer", name := "diagnostics", desc := "()I" } : Jvm.MethodName) ({ cls := "LanguageServer", name := "diagnostics", desc := "()I" } : Jvm.MethodName)) ∈ Tg := tg_2 (i := 67) rfl rfl
theorem wd_308 : (Jvm.Cond.code ({ cls := "LanguageServer", name := "diagnostics", desc := "()I" } : Jvm.MethodName) prog_1_method_6_code (1 : Nat) (Option.some Jvm.ClassFile.FieldType.int)) ∈ Tg := tg_2 (i := 68) rfl rfl
theorem wd_594 : (Jvm.Cond.methodLink "LanguageServerLaw" (62 : Nat) ({ cls := "LanguageServerLaw", name := "insert", desc := "(LLanguageServer;II[J)I" } : Jvm.MethodName)) ∈ Tg := tg_3 (i := 114) rfl rfl
theorem wd_595 : (Jvm.Cond.static ({ cls := "LanguageServerLaw", name := "insert", desc := "(LLanguageServer;II[J)I" } : Jvm.MethodName)) ∈ Tg := tg_3 (i := 115) rfl rfl
theorem wd_596 : (Jvm.Cond.codeWith ({ cls := "LanguageServerLaw", name := "insert", desc := "(LLanguageServer;II[J)I" } : Jvm.MethodName) method_3_code (5 : Nat) (Option.some Jvm.ClassFile.FieldType.int) [((0 : Nat), (10 : Nat), (13 : Nat), (13 : Nat)), ((0 : Nat), (10 : Nat), (17 : Nat), (15 : Nat))]) ∈ Tg := tg_3 (i := 116) rfl rfl
theorem wd_701 : (Jvm.Cond.methodLink "LanguageServerLaw" (74 : Nat) ({ cls := "LanguageServerLaw", name := "append", desc := "(LLanguageServer;JI[J)I" } : Jvm.MethodName)) ∈ Tg := tg_3 (i := 221) rfl rfl
theorem wd_702 : (Jvm.Cond.static ({ cls := "LanguageServerLaw", name := "append", desc := "(LLanguageServer;JI[J)I" } : Jvm.MethodName)) ∈ Tg := tg_3 (i := 222) rfl rfl
theorem wd_703 : (Jvm.Cond.codeWith ({ cls := "LanguageServerLaw", name := "append", desc := "(LLanguageServer;JI[J)I" } : Jvm.MethodName) method_4_code (6 : Nat) (Option.some Jvm.ClassFile.FieldType.int) [((0 : Nat), (11 : Nat), (14 : Nat), (13 : Nat)), ((0 : Nat), (11 : Nat), (18 : Nat), (15 : Nat))]) ∈ Tg := tg_3 (i := 223) rfl rfl
theorem wd_725 : (Jvm.Cond.methodLink "LanguageServerLaw" (78 : Nat) ({ cls := "LanguageServerLaw", name := "delete", desc := "(LLanguageServer;II[J)I" } : Jvm.MethodName)) ∈ Tg := tg_4 (i := 5) rfl rfl
theorem wd_726 : (Jvm.Cond.static ({ cls := "LanguageServerLaw", name := "delete", desc := "(LLanguageServer;II[J)I" } : Jvm.MethodName)) ∈ Tg := tg_4 (i := 6) rfl rfl
theorem wd_727 : (Jvm.Cond.codeWith ({ cls := "LanguageServerLaw", name := "delete", desc := "(LLanguageServer;II[J)I" } : Jvm.MethodName) method_5_code (5 : Nat) (Option.some Jvm.ClassFile.FieldType.int) [((0 : Nat), (10 : Nat), (13 : Nat), (13 : Nat))]) ∈ Tg := tg_4 (i := 7) rfl rfl
theorem wd_737 : (Jvm.Cond.methodLink "LanguageServerLaw" (81 : Nat) ({ cls := "LanguageServerLaw", name := "text", desc := "(LLanguageServer;I[J)I" } : Jvm.MethodName)) ∈ Tg := tg_4 (i := 17) rfl rfl
theorem wd_738 : (Jvm.Cond.static ({ cls := "LanguageServerLaw", name := "text", desc := "(LLanguageServer;I[J)I" } : Jvm.MethodName)) ∈ Tg := tg_4 (i := 18) rfl rfl
theorem wd_739 : (Jvm.Cond.codeWith ({ cls := "LanguageServerLaw", name := "text", desc := "(LLanguageServer;I[J)I" } : Jvm.MethodName) method_6_code (4 : Nat) (Option.some Jvm.ClassFile.FieldType.int) [((0 : Nat), (9 : Nat), (12 : Nat), (28 : Nat))]) ∈ Tg := tg_4 (i := 19) rfl rfl
theorem wd_761 : (Jvm.Cond.methodLink "LanguageServerLaw" (89 : Nat) ({ cls := "LanguageServerLaw", name := "diagnostic", desc := "(LLanguageServer;II[J)I" } : Jvm.MethodName)) ∈ Tg := tg_4 (i := 41) rfl rfl
theorem wd_762 : (Jvm.Cond.static ({ cls := "LanguageServerLaw", name := "diagnostic", desc := "(LLanguageServer;II[J)I" } : Jvm.MethodName)) ∈ Tg := tg_4 (i := 42) rfl rfl
theorem wd_763 : (Jvm.Cond.codeWith ({ cls := "LanguageServerLaw", name := "diagnostic", desc := "(LLanguageServer;II[J)I" } : Jvm.MethodName) method_7_code (5 : Nat) (Option.some Jvm.ClassFile.FieldType.int) [((0 : Nat), (10 : Nat), (13 : Nat), (28 : Nat)), ((0 : Nat), (10 : Nat), (17 : Nat), (13 : Nat))]) ∈ Tg := tg_4 (i := 43) rfl rfl
theorem wd_782 : (Jvm.Cond.methodLink "LanguageServerLaw" (92 : Nat) ({ cls := "LanguageServerLaw", name := "definition", desc := "(LLanguageServer;I[J)I" } : Jvm.MethodName)) ∈ Tg := tg_4 (i := 62) rfl rfl
theorem wd_783 : (Jvm.Cond.static ({ cls := "LanguageServerLaw", name := "definition", desc := "(LLanguageServer;I[J)I" } : Jvm.MethodName)) ∈ Tg := tg_4 (i := 63) rfl rfl
theorem wd_784 : (Jvm.Cond.codeWith ({ cls := "LanguageServerLaw", name := "definition", desc := "(LLanguageServer;I[J)I" } : Jvm.MethodName) method_8_code (4 : Nat) (Option.some Jvm.ClassFile.FieldType.int) [((0 : Nat), (9 : Nat), (12 : Nat), (28 : Nat))]) ∈ Tg := tg_4 (i := 64) rfl rfl
theorem wd_798 : (Jvm.Cond.methodLink "LanguageServerLaw" (95 : Nat) ({ cls := "LanguageServerLaw", name := "type", desc := "(LLanguageServer;I[J)I" } : Jvm.MethodName)) ∈ Tg := tg_4 (i := 78) rfl rfl
theorem wd_799 : (Jvm.Cond.static ({ cls := "LanguageServerLaw", name := "type", desc := "(LLanguageServer;I[J)I" } : Jvm.MethodName)) ∈ Tg := tg_4 (i := 79) rfl rfl
theorem wd_800 : (Jvm.Cond.codeWith ({ cls := "LanguageServerLaw", name := "type", desc := "(LLanguageServer;I[J)I" } : Jvm.MethodName) method_9_code (4 : Nat) (Option.some Jvm.ClassFile.FieldType.int) [((0 : Nat), (9 : Nat), (12 : Nat), (28 : Nat))]) ∈ Tg := tg_4 (i := 80) rfl rfl
theorem wd_805 : (Jvm.Cond.methodLink "LanguageServerLaw" (98 : Nat) ({ cls := "LanguageServerLaw", name := "references", desc := "(LLanguageServer;I[J)I" } : Jvm.MethodName)) ∈ Tg := tg_4 (i := 85) rfl rfl
theorem wd_806 : (Jvm.Cond.static ({ cls := "LanguageServerLaw", name := "references", desc := "(LLanguageServer;I[J)I" } : Jvm.MethodName)) ∈ Tg := tg_4 (i := 86) rfl rfl
theorem wd_807 : (Jvm.Cond.codeWith ({ cls := "LanguageServerLaw", name := "references", desc := "(LLanguageServer;I[J)I" } : Jvm.MethodName) method_10_code (4 : Nat) (Option.some Jvm.ClassFile.FieldType.int) [((0 : Nat), (9 : Nat), (12 : Nat), (28 : Nat))]) ∈ Tg := tg_4 (i := 87) rfl rfl
theorem wd_816 : (Jvm.Cond.methodLink "LanguageServerLaw" (101 : Nat) ({ cls := "LanguageServerLaw", name := "reference", desc := "(LLanguageServer;II[J)I" } : Jvm.MethodName)) ∈ Tg := tg_4 (i := 96) rfl rfl
theorem wd_817 : (Jvm.Cond.static ({ cls := "LanguageServerLaw", name := "reference", desc := "(LLanguageServer;II[J)I" } : Jvm.MethodName)) ∈ Tg := tg_4 (i := 97) rfl rfl
theorem wd_818 : (Jvm.Cond.codeWith ({ cls := "LanguageServerLaw", name := "reference", desc := "(LLanguageServer;II[J)I" } : Jvm.MethodName) method_11_code (5 : Nat) (Option.some Jvm.ClassFile.FieldType.int) [((0 : Nat), (10 : Nat), (13 : Nat), (28 : Nat))]) ∈ Tg := tg_4 (i := 98) rfl rfl
theorem wd_828 : (Jvm.Cond.methodLink "LanguageServerLaw" (104 : Nat) ({ cls := "LanguageServerLaw", name := "members", desc := "(LLanguageServer;I[J)I" } : Jvm.MethodName)) ∈ Tg := tg_4 (i := 108) rfl rfl
theorem wd_829 : (Jvm.Cond.static ({ cls := "LanguageServerLaw", name := "members", desc := "(LLanguageServer;I[J)I" } : Jvm.MethodName)) ∈ Tg := tg_4 (i := 109) rfl rfl
theorem wd_830 : (Jvm.Cond.codeWith ({ cls := "LanguageServerLaw", name := "members", desc := "(LLanguageServer;I[J)I" } : Jvm.MethodName) method_12_code (4 : Nat) (Option.some Jvm.ClassFile.FieldType.int) [((0 : Nat), (9 : Nat), (12 : Nat), (28 : Nat))]) ∈ Tg := tg_4 (i := 110) rfl rfl
theorem wd_849 : (Jvm.Cond.methodLink "LanguageServerLaw" (107 : Nat) ({ cls := "LanguageServerLaw", name := "member", desc := "(LLanguageServer;II[J)I" } : Jvm.MethodName)) ∈ Tg := tg_4 (i := 129) rfl rfl
theorem wd_850 : (Jvm.Cond.static ({ cls := "LanguageServerLaw", name := "member", desc := "(LLanguageServer;II[J)I" } : Jvm.MethodName)) ∈ Tg := tg_4 (i := 130) rfl rfl
theorem wd_851 : (Jvm.Cond.codeWith ({ cls := "LanguageServerLaw", name := "member", desc := "(LLanguageServer;II[J)I" } : Jvm.MethodName) method_13_code (5 : Nat) (Option.some Jvm.ClassFile.FieldType.int) [((0 : Nat), (10 : Nat), (13 : Nat), (28 : Nat))]) ∈ Tg := tg_4 (i := 131) rfl rfl
theorem wd_857 : (Jvm.Cond.methodLink "LanguageServerLaw" (110 : Nat) ({ cls := "LanguageServerLaw", name := "rename", desc := "(LLanguageServer;IJI[J)I" } : Jvm.MethodName)) ∈ Tg := tg_4 (i := 137) rfl rfl
theorem wd_858 : (Jvm.Cond.static ({ cls := "LanguageServerLaw", name := "rename", desc := "(LLanguageServer;IJI[J)I" } : Jvm.MethodName)) ∈ Tg := tg_4 (i := 138) rfl rfl
theorem wd_859 : (Jvm.Cond.codeWith ({ cls := "LanguageServerLaw", name := "rename", desc := "(LLanguageServer;IJI[J)I" } : Jvm.MethodName) method_14_code (7 : Nat) (Option.some Jvm.ClassFile.FieldType.int) [((0 : Nat), (13 : Nat), (16 : Nat), (28 : Nat)), ((0 : Nat), (13 : Nat), (20 : Nat), (13 : Nat)), ((0 : Nat), (13 : Nat), (24 : Nat), (15 : Nat))]) ∈ Tg := tg_4 (i := 139) rfl rfl
theorem wd_885 : (Jvm.Cond.methodLink "LanguageServerLaw" (114 : Nat) ({ cls := "LanguageServerLaw", name := "count", desc := "(LLanguageServer;I[J)I" } : Jvm.MethodName)) ∈ Tg := tg_4 (i := 165) rfl rfl
theorem wd_886 : (Jvm.Cond.static ({ cls := "LanguageServerLaw", name := "count", desc := "(LLanguageServer;I[J)I" } : Jvm.MethodName)) ∈ Tg := tg_4 (i := 166) rfl rfl
theorem wd_887 : (Jvm.Cond.codeWith ({ cls := "LanguageServerLaw", name := "count", desc := "(LLanguageServer;I[J)I" } : Jvm.MethodName) method_15_code (4 : Nat) (Option.some Jvm.ClassFile.FieldType.int) [((0 : Nat), (9 : Nat), (12 : Nat), (13 : Nat))]) ∈ Tg := tg_4 (i := 167) rfl rfl
theorem wd_893 : (Jvm.Cond.classLink "LanguageServerLaw" (59 : Nat) "LanguageServerModel") ∈ Tg := tg_4 (i := 173) rfl rfl
theorem wd_894 : (Jvm.Cond.instantiable "LanguageServerModel" (32 : Nat)) ∈ Tg := tg_4 (i := 174) rfl rfl
theorem wd_895 : (Jvm.Cond.methodLink "LanguageServerLaw" (61 : Nat) ({ cls := "LanguageServerModel", name := "<init>", desc := "()V" } : Jvm.MethodName)) ∈ Tg := tg_4 (i := 175) rfl rfl
theorem wd_896 : (Jvm.Cond.instanceMethod ({ cls := "LanguageServerModel", name := "<init>", desc := "()V" } : Jvm.MethodName)) ∈ Tg := tg_4 (i := 176) rfl rfl
theorem wd_897 : (Jvm.Cond.code ({ cls := "LanguageServerModel", name := "<init>", desc := "()V" } : Jvm.MethodName) prog_13_method_1_code (1 : Nat) (Option.none : Option Jvm.ClassFile.FieldType)) ∈ Tg := tg_4 (i := 177) rfl rfl
theorem wd_996 : (Jvm.Cond.methodLink "LanguageServerLaw" (68 : Nat) ({ cls := "LanguageServerModel", name := "thrown", desc := "()I" } : Jvm.MethodName)) ∈ Tg := tg_5 (i := 36) rfl rfl
theorem wd_997 : (Jvm.Cond.instanceMethod ({ cls := "LanguageServerModel", name := "thrown", desc := "()I" } : Jvm.MethodName)) ∈ Tg := tg_5 (i := 37) rfl rfl
theorem wd_998 : (Jvm.Cond.selects "LanguageServerModel" ({ cls := "LanguageServerModel", name := "thrown", desc := "()I" } : Jvm.MethodName) ({ cls := "LanguageServerModel", name := "thrown", desc := "()I" } : Jvm.MethodName)) ∈ Tg := tg_5 (i := 38) rfl rfl
theorem wd_999 : (Jvm.Cond.code ({ cls := "LanguageServerModel", name := "thrown", desc := "()I" } : Jvm.MethodName) prog_13_method_2_code (1 : Nat) (Option.some Jvm.ClassFile.FieldType.int)) ∈ Tg := tg_5 (i := 39) rfl rfl
theorem wd_1000 : (Jvm.Cond.methodLink "LanguageServerLaw" (67 : Nat) ({ cls := "LanguageServerModel", name := "insert", desc := "(II)I" } : Jvm.MethodName)) ∈ Tg := tg_5 (i := 40) rfl rfl
theorem wd_1011 : (Jvm.Cond.methodLink "LanguageServerLaw" (77 : Nat) ({ cls := "LanguageServerModel", name := "append", desc := "(JI)I" } : Jvm.MethodName)) ∈ Tg := tg_5 (i := 51) rfl rfl
theorem wd_1012 : (Jvm.Cond.instanceMethod ({ cls := "LanguageServerModel", name := "append", desc := "(JI)I" } : Jvm.MethodName)) ∈ Tg := tg_5 (i := 52) rfl rfl
theorem wd_1013 : (Jvm.Cond.selects "LanguageServerModel" ({ cls := "LanguageServerModel", name := "append", desc := "(JI)I" } : Jvm.MethodName) ({ cls := "LanguageServerModel", name := "append", desc := "(JI)I" } : Jvm.MethodName)) ∈ Tg := tg_5 (i := 53) rfl rfl
theorem wd_1014 : (Jvm.Cond.code ({ cls := "LanguageServerModel", name := "append", desc := "(JI)I" } : Jvm.MethodName) prog_13_method_7_code (5 : Nat) (Option.some Jvm.ClassFile.FieldType.int)) ∈ Tg := tg_5 (i := 54) rfl rfl
theorem wd_1018 : (Jvm.Cond.methodLink "LanguageServerLaw" (80 : Nat) ({ cls := "LanguageServerModel", name := "delete", desc := "(II)I" } : Jvm.MethodName)) ∈ Tg := tg_5 (i := 58) rfl rfl
theorem wd_1022 : (Jvm.Cond.methodLink "LanguageServerLaw" (84 : Nat) ({ cls := "LanguageServerModel", name := "text", desc := "(I)I" } : Jvm.MethodName)) ∈ Tg := tg_5 (i := 62) rfl rfl
theorem wd_1023 : (Jvm.Cond.instanceMethod ({ cls := "LanguageServerModel", name := "text", desc := "(I)I" } : Jvm.MethodName)) ∈ Tg := tg_5 (i := 63) rfl rfl
theorem wd_1024 : (Jvm.Cond.selects "LanguageServerModel" ({ cls := "LanguageServerModel", name := "text", desc := "(I)I" } : Jvm.MethodName) ({ cls := "LanguageServerModel", name := "text", desc := "(I)I" } : Jvm.MethodName)) ∈ Tg := tg_5 (i := 64) rfl rfl
theorem wd_1025 : (Jvm.Cond.code ({ cls := "LanguageServerModel", name := "text", desc := "(I)I" } : Jvm.MethodName) prog_13_method_9_code (2 : Nat) (Option.some Jvm.ClassFile.FieldType.int)) ∈ Tg := tg_5 (i := 65) rfl rfl
theorem wd_1026 : (Jvm.Cond.methodLink "LanguageServerLaw" (88 : Nat) ({ cls := "LanguageServerModel", name := "diagnostics", desc := "()I" } : Jvm.MethodName)) ∈ Tg := tg_5 (i := 66) rfl rfl
theorem wd_1027 : (Jvm.Cond.instanceMethod ({ cls := "LanguageServerModel", name := "diagnostics", desc := "()I" } : Jvm.MethodName)) ∈ Tg := tg_5 (i := 67) rfl rfl
theorem wd_1028 : (Jvm.Cond.selects "LanguageServerModel" ({ cls := "LanguageServerModel", name := "diagnostics", desc := "()I" } : Jvm.MethodName) ({ cls := "LanguageServerModel", name := "diagnostics", desc := "()I" } : Jvm.MethodName)) ∈ Tg := tg_5 (i := 68) rfl rfl
theorem wd_1029 : (Jvm.Cond.code ({ cls := "LanguageServerModel", name := "diagnostics", desc := "()I" } : Jvm.MethodName) prog_13_method_56_code (1 : Nat) (Option.some Jvm.ClassFile.FieldType.int)) ∈ Tg := tg_5 (i := 69) rfl rfl
theorem wd_1215 : (Jvm.Cond.methodLink "LanguageServerLaw" (91 : Nat) ({ cls := "LanguageServerModel", name := "diagnostic", desc := "(II)I" } : Jvm.MethodName)) ∈ Tg := tg_6 (i := 15) rfl rfl
theorem wd_1216 : (Jvm.Cond.instanceMethod ({ cls := "LanguageServerModel", name := "diagnostic", desc := "(II)I" } : Jvm.MethodName)) ∈ Tg := tg_6 (i := 16) rfl rfl
theorem wd_1217 : (Jvm.Cond.selects "LanguageServerModel" ({ cls := "LanguageServerModel", name := "diagnostic", desc := "(II)I" } : Jvm.MethodName) ({ cls := "LanguageServerModel", name := "diagnostic", desc := "(II)I" } : Jvm.MethodName)) ∈ Tg := tg_6 (i := 17) rfl rfl
theorem wd_1218 : (Jvm.Cond.code ({ cls := "LanguageServerModel", name := "diagnostic", desc := "(II)I" } : Jvm.MethodName) prog_13_method_57_code (5 : Nat) (Option.some Jvm.ClassFile.FieldType.int)) ∈ Tg := tg_6 (i := 18) rfl rfl
theorem wd_1219 : (Jvm.Cond.methodLink "LanguageServerLaw" (94 : Nat) ({ cls := "LanguageServerModel", name := "definition", desc := "(I)I" } : Jvm.MethodName)) ∈ Tg := tg_6 (i := 19) rfl rfl
theorem wd_1220 : (Jvm.Cond.instanceMethod ({ cls := "LanguageServerModel", name := "definition", desc := "(I)I" } : Jvm.MethodName)) ∈ Tg := tg_6 (i := 20) rfl rfl
theorem wd_1221 : (Jvm.Cond.selects "LanguageServerModel" ({ cls := "LanguageServerModel", name := "definition", desc := "(I)I" } : Jvm.MethodName) ({ cls := "LanguageServerModel", name := "definition", desc := "(I)I" } : Jvm.MethodName)) ∈ Tg := tg_6 (i := 21) rfl rfl
theorem wd_1222 : (Jvm.Cond.code ({ cls := "LanguageServerModel", name := "definition", desc := "(I)I" } : Jvm.MethodName) prog_13_method_59_code (3 : Nat) (Option.some Jvm.ClassFile.FieldType.int)) ∈ Tg := tg_6 (i := 22) rfl rfl
theorem wd_1227 : (Jvm.Cond.methodLink "LanguageServerLaw" (97 : Nat) ({ cls := "LanguageServerModel", name := "type", desc := "(I)I" } : Jvm.MethodName)) ∈ Tg := tg_6 (i := 27) rfl rfl
theorem wd_1228 : (Jvm.Cond.instanceMethod ({ cls := "LanguageServerModel", name := "type", desc := "(I)I" } : Jvm.MethodName)) ∈ Tg := tg_6 (i := 28) rfl rfl
theorem wd_1229 : (Jvm.Cond.selects "LanguageServerModel" ({ cls := "LanguageServerModel", name := "type", desc := "(I)I" } : Jvm.MethodName) ({ cls := "LanguageServerModel", name := "type", desc := "(I)I" } : Jvm.MethodName)) ∈ Tg := tg_6 (i := 29) rfl rfl
theorem wd_1230 : (Jvm.Cond.code ({ cls := "LanguageServerModel", name := "type", desc := "(I)I" } : Jvm.MethodName) prog_13_method_60_code (4 : Nat) (Option.some Jvm.ClassFile.FieldType.int)) ∈ Tg := tg_6 (i := 30) rfl rfl
theorem wd_1231 : (Jvm.Cond.methodLink "LanguageServerLaw" (100 : Nat) ({ cls := "LanguageServerModel", name := "references", desc := "(I)I" } : Jvm.MethodName)) ∈ Tg := tg_6 (i := 31) rfl rfl
theorem wd_1232 : (Jvm.Cond.instanceMethod ({ cls := "LanguageServerModel", name := "references", desc := "(I)I" } : Jvm.MethodName)) ∈ Tg := tg_6 (i := 32) rfl rfl
theorem wd_1233 : (Jvm.Cond.selects "LanguageServerModel" ({ cls := "LanguageServerModel", name := "references", desc := "(I)I" } : Jvm.MethodName) ({ cls := "LanguageServerModel", name := "references", desc := "(I)I" } : Jvm.MethodName)) ∈ Tg := tg_6 (i := 33) rfl rfl
theorem wd_1234 : (Jvm.Cond.code ({ cls := "LanguageServerModel", name := "references", desc := "(I)I" } : Jvm.MethodName) prog_13_method_62_code (3 : Nat) (Option.some Jvm.ClassFile.FieldType.int)) ∈ Tg := tg_6 (i := 34) rfl rfl
theorem wd_1239 : (Jvm.Cond.methodLink "LanguageServerLaw" (103 : Nat) ({ cls := "LanguageServerModel", name := "reference", desc := "(II)I" } : Jvm.MethodName)) ∈ Tg := tg_6 (i := 39) rfl rfl
theorem wd_1240 : (Jvm.Cond.instanceMethod ({ cls := "LanguageServerModel", name := "reference", desc := "(II)I" } : Jvm.MethodName)) ∈ Tg := tg_6 (i := 40) rfl rfl
theorem wd_1241 : (Jvm.Cond.selects "LanguageServerModel" ({ cls := "LanguageServerModel", name := "reference", desc := "(II)I" } : Jvm.MethodName) ({ cls := "LanguageServerModel", name := "reference", desc := "(II)I" } : Jvm.MethodName)) ∈ Tg := tg_6 (i := 41) rfl rfl
theorem wd_1242 : (Jvm.Cond.code ({ cls := "LanguageServerModel", name := "reference", desc := "(II)I" } : Jvm.MethodName) prog_13_method_63_code (6 : Nat) (Option.some Jvm.ClassFile.FieldType.int)) ∈ Tg := tg_6 (i := 42) rfl rfl
theorem wd_1243 : (Jvm.Cond.methodLink "LanguageServerLaw" (106 : Nat) ({ cls := "LanguageServerModel", name := "members", desc := "(I)I" } : Jvm.MethodName)) ∈ Tg := tg_6 (i := 43) rfl rfl
theorem wd_1244 : (Jvm.Cond.instanceMethod ({ cls := "LanguageServerModel", name := "members", desc := "(I)I" } : Jvm.MethodName)) ∈ Tg := tg_6 (i := 44) rfl rfl
theorem wd_1245 : (Jvm.Cond.selects "LanguageServerModel" ({ cls := "LanguageServerModel", name := "members", desc := "(I)I" } : Jvm.MethodName) ({ cls := "LanguageServerModel", name := "members", desc := "(I)I" } : Jvm.MethodName)) ∈ Tg := tg_6 (i := 45) rfl rfl
theorem wd_1246 : (Jvm.Cond.code ({ cls := "LanguageServerModel", name := "members", desc := "(I)I" } : Jvm.MethodName) prog_13_method_65_code (4 : Nat) (Option.some Jvm.ClassFile.FieldType.int)) ∈ Tg := tg_6 (i := 46) rfl rfl
theorem wd_1251 : (Jvm.Cond.methodLink "LanguageServerLaw" (109 : Nat) ({ cls := "LanguageServerModel", name := "member", desc := "(II)I" } : Jvm.MethodName)) ∈ Tg := tg_6 (i := 51) rfl rfl
theorem wd_1252 : (Jvm.Cond.instanceMethod ({ cls := "LanguageServerModel", name := "member", desc := "(II)I" } : Jvm.MethodName)) ∈ Tg := tg_6 (i := 52) rfl rfl
theorem wd_1253 : (Jvm.Cond.selects "LanguageServerModel" ({ cls := "LanguageServerModel", name := "member", desc := "(II)I" } : Jvm.MethodName) ({ cls := "LanguageServerModel", name := "member", desc := "(II)I" } : Jvm.MethodName)) ∈ Tg := tg_6 (i := 53) rfl rfl
theorem wd_1254 : (Jvm.Cond.code ({ cls := "LanguageServerModel", name := "member", desc := "(II)I" } : Jvm.MethodName) prog_13_method_68_code (4 : Nat) (Option.some Jvm.ClassFile.FieldType.int)) ∈ Tg := tg_6 (i := 54) rfl rfl
theorem wd_1262 : (Jvm.Cond.methodLink "LanguageServerLaw" (113 : Nat) ({ cls := "LanguageServerModel", name := "rename", desc := "(IJI)I" } : Jvm.MethodName)) ∈ Tg := tg_6 (i := 62) rfl rfl
theorem wd_1263 : (Jvm.Cond.instanceMethod ({ cls := "LanguageServerModel", name := "rename", desc := "(IJI)I" } : Jvm.MethodName)) ∈ Tg := tg_6 (i := 63) rfl rfl
theorem wd_1264 : (Jvm.Cond.selects "LanguageServerModel" ({ cls := "LanguageServerModel", name := "rename", desc := "(IJI)I" } : Jvm.MethodName) ({ cls := "LanguageServerModel", name := "rename", desc := "(IJI)I" } : Jvm.MethodName)) ∈ Tg := tg_6 (i := 64) rfl rfl
theorem wd_1265 : (Jvm.Cond.code ({ cls := "LanguageServerModel", name := "rename", desc := "(IJI)I" } : Jvm.MethodName) prog_13_method_74_code (10 : Nat) (Option.some Jvm.ClassFile.FieldType.int)) ∈ Tg := tg_6 (i := 65) rfl rfl
theorem wd_1288 : (Jvm.Cond.methodLink "LanguageServerLaw" (116 : Nat) ({ cls := "LanguageServerModel", name := "count", desc := "(I)I" } : Jvm.MethodName)) ∈ Tg := tg_6 (i := 88) rfl rfl
theorem wd_1289 : (Jvm.Cond.instanceMethod ({ cls := "LanguageServerModel", name := "count", desc := "(I)I" } : Jvm.MethodName)) ∈ Tg := tg_6 (i := 89) rfl rfl
theorem wd_1290 : (Jvm.Cond.selects "LanguageServerModel" ({ cls := "LanguageServerModel", name := "count", desc := "(I)I" } : Jvm.MethodName) ({ cls := "LanguageServerModel", name := "count", desc := "(I)I" } : Jvm.MethodName)) ∈ Tg := tg_6 (i := 90) rfl rfl
theorem wd_1291 : (Jvm.Cond.code ({ cls := "LanguageServerModel", name := "count", desc := "(I)I" } : Jvm.MethodName) prog_13_method_75_code (2 : Nat) (Option.some Jvm.ClassFile.FieldType.int)) ∈ Tg := tg_6 (i := 91) rfl rfl
theorem wd_1292 : (Jvm.Cond.constantLong "LanguageServerLaw" (72 : Nat) (4294967295 : Int64)) ∈ Tg := tg_6 (i := 92) rfl rfl
theorem d_law_0 : decode code 0 = .ok (.new 8, 3) := by decide +kernel
theorem d_law_3 : decode code 3 = .ok (.dup, 1) := by decide +kernel
theorem d_law_4 : decode code 4 = .ok (.invokespecial 58, 3) := by decide +kernel
theorem d_law_7 : decode code 7 = .ok (.astore_n 1, 1) := by decide +kernel
theorem d_law_8 : decode code 8 = .ok (.new 59, 3) := by decide +kernel
theorem d_law_11 : decode code 11 = .ok (.dup, 1) := by decide +kernel
theorem d_law_12 : decode code 12 = .ok (.invokespecial 61, 3) := by decide +kernel
theorem d_law_15 : decode code 15 = .ok (.astore_n 2, 1) := by decide +kernel
theorem d_law_16 : decode code 16 = .ok (.iconst 1, 1) := by decide +kernel
theorem d_law_17 : decode code 17 = .ok (.newarray .long, 2) := by decide +kernel
theorem d_law_19 : decode code 19 = .ok (.astore_n 3, 1) := by decide +kernel
theorem d_law_20 : decode code 20 = .ok (.iconst 0, 1) := by decide +kernel
theorem d_law_21 : decode code 21 = .ok (.istore 4, 2) := by decide +kernel
theorem d_law_23 : decode code 23 = .ok (.iload 4, 2) := by decide +kernel
theorem d_law_25 : decode code 25 = .ok (.aload_n 0, 1) := by decide +kernel
theorem d_law_26 : decode code 26 = .ok (.arraylength, 1) := by decide +kernel
theorem d_law_27 : decode code 27 = .ok (.iconst 5, 1) := by decide +kernel
theorem d_law_28 : decode code 28 = .ok (.isub, 1) := by decide +kernel
theorem d_law_29 : decode code 29 = .ok (.if_icmp .gt 986, 3) := by decide +kernel
theorem d_law_32 : decode code 32 = .ok (.aload_n 0, 1) := by decide +kernel
theorem d_law_33 : decode code 33 = .ok (.iload 4, 2) := by decide +kernel
theorem d_law_35 : decode code 35 = .ok (.iaload, 1) := by decide +kernel
theorem d_law_36 : decode code 36 = .ok (.bipush 15, 2) := by decide +kernel
theorem d_law_38 : decode code 38 = .ok (.iand, 1) := by decide +kernel
theorem d_law_39 : decode code 39 = .ok (.tableswitch 970 0 13 #[69, 137, 237, 305, 361, 374, 442, 498, 554, 610, 678, 734, 802, 914], 69) := by decide +kernel
theorem d_law_108 : decode code 108 = .ok (.aload_n 1, 1) := by decide +kernel
theorem d_law_109 : decode code 109 = .ok (.aload_n 0, 1) := by decide +kernel
theorem d_law_110 : decode code 110 = .ok (.iload 4, 2) := by decide +kernel
theorem d_law_112 : decode code 112 = .ok (.iconst 1, 1) := by decide +kernel
theorem d_law_113 : decode code 113 = .ok (.iadd, 1) := by decide +kernel
theorem d_law_114 : decode code 114 = .ok (.iaload, 1) := by decide +kernel
theorem d_law_115 : decode code 115 = .ok (.aload_n 0, 1) := by decide +kernel
theorem d_law_116 : decode code 116 = .ok (.iload 4, 2) := by decide +kernel
theorem d_law_118 : decode code 118 = .ok (.iconst 2, 1) := by decide +kernel
theorem d_law_119 : decode code 119 = .ok (.iadd, 1) := by decide +kernel
theorem d_law_120 : decode code 120 = .ok (.iaload, 1) := by decide +kernel
theorem d_law_121 : decode code 121 = .ok (.aload_n 3, 1) := by decide +kernel
theorem d_law_122 : decode code 122 = .ok (.invokestatic 62, 3) := by decide +kernel
theorem d_law_125 : decode code 125 = .ok (.istore 5, 2) := by decide +kernel
theorem d_law_127 : decode code 127 = .ok (.aload_n 2, 1) := by decide +kernel
theorem d_law_128 : decode code 128 = .ok (.aload_n 0, 1) := by decide +kernel
theorem d_law_129 : decode code 129 = .ok (.iload 4, 2) := by decide +kernel
theorem d_law_131 : decode code 131 = .ok (.iconst 1, 1) := by decide +kernel
theorem d_law_132 : decode code 132 = .ok (.iadd, 1) := by decide +kernel
theorem d_law_133 : decode code 133 = .ok (.iaload, 1) := by decide +kernel
theorem d_law_134 : decode code 134 = .ok (.aload_n 0, 1) := by decide +kernel
theorem d_law_135 : decode code 135 = .ok (.iload 4, 2) := by decide +kernel
theorem d_law_137 : decode code 137 = .ok (.iconst 2, 1) := by decide +kernel
theorem d_law_138 : decode code 138 = .ok (.iadd, 1) := by decide +kernel
theorem d_law_139 : decode code 139 = .ok (.iaload, 1) := by decide +kernel
theorem d_law_140 : decode code 140 = .ok (.invokevirtual 67, 3) := by decide +kernel
theorem d_law_143 : decode code 143 = .ok (.istore 6, 2) := by decide +kernel
theorem d_law_145 : decode code 145 = .ok (.aload_n 2, 1) := by decide +kernel
theorem d_law_146 : decode code 146 = .ok (.invokevirtual 68, 3) := by decide +kernel
theorem d_law_149 : decode code 149 = .ok (.iload 5, 2) := by decide +kernel
theorem d_law_151 : decode code 151 = .ok (.if_icmp .eq 5, 3) := by decide +kernel
theorem d_law_156 : decode code 156 = .ok (.iload 5, 2) := by decide +kernel
theorem d_law_158 : decode code 158 = .ok (.ifCond .ne 15, 3) := by decide +kernel
theorem d_law_161 : decode code 161 = .ok (.aload_n 3, 1) := by decide +kernel
theorem d_law_162 : decode code 162 = .ok (.iconst 0, 1) := by decide +kernel
theorem d_law_163 : decode code 163 = .ok (.laload, 1) := by decide +kernel
theorem d_law_164 : decode code 164 = .ok (.iload 6, 2) := by decide +kernel
theorem d_law_166 : decode code 166 = .ok (.i2l, 1) := by decide +kernel
theorem d_law_167 : decode code 167 = .ok (.lcmp, 1) := by decide +kernel
theorem d_law_168 : decode code 168 = .ok (.ifCond .eq 5, 3) := by decide +kernel
theorem d_law_171 : decode code 171 = .ok (.iconst 0, 1) := by decide +kernel
theorem d_law_173 : decode code 173 = .ok (.goto 836, 3) := by decide +kernel
theorem d_law_176 : decode code 176 = .ok (.aload_n 1, 1) := by decide +kernel
theorem d_law_177 : decode code 177 = .ok (.aload_n 0, 1) := by decide +kernel
theorem d_law_178 : decode code 178 = .ok (.iload 4, 2) := by decide +kernel
theorem d_law_180 : decode code 180 = .ok (.iconst 1, 1) := by decide +kernel
theorem d_law_181 : decode code 181 = .ok (.iadd, 1) := by decide +kernel
theorem d_law_182 : decode code 182 = .ok (.iaload, 1) := by decide +kernel
theorem d_law_183 : decode code 183 = .ok (.i2l, 1) := by decide +kernel
theorem d_law_184 : decode code 184 = .ok (.bipush 32, 2) := by decide +kernel
theorem d_law_186 : decode code 186 = .ok (.lshl, 1) := by decide +kernel
theorem d_law_187 : decode code 187 = .ok (.aload_n 0, 1) := by decide +kernel
theorem d_law_188 : decode code 188 = .ok (.iload 4, 2) := by decide +kernel
theorem d_law_190 : decode code 190 = .ok (.iconst 2, 1) := by decide +kernel
theorem d_law_191 : decode code 191 = .ok (.iadd, 1) := by decide +kernel
theorem d_law_192 : decode code 192 = .ok (.iaload, 1) := by decide +kernel
theorem d_law_193 : decode code 193 = .ok (.i2l, 1) := by decide +kernel
theorem d_law_194 : decode code 194 = .ok (.ldc2_w 72, 3) := by decide +kernel
theorem d_law_197 : decode code 197 = .ok (.land, 1) := by decide +kernel
theorem d_law_198 : decode code 198 = .ok (.lor, 1) := by decide +kernel
theorem d_law_199 : decode code 199 = .ok (.aload_n 0, 1) := by decide +kernel
theorem d_law_200 : decode code 200 = .ok (.iload 4, 2) := by decide +kernel
theorem d_law_202 : decode code 202 = .ok (.iconst 3, 1) := by decide +kernel
theorem d_law_203 : decode code 203 = .ok (.iadd, 1) := by decide +kernel
theorem d_law_204 : decode code 204 = .ok (.iaload, 1) := by decide +kernel
theorem d_law_205 : decode code 205 = .ok (.aload_n 3, 1) := by decide +kernel
theorem d_law_206 : decode code 206 = .ok (.invokestatic 74, 3) := by decide +kernel
theorem d_law_209 : decode code 209 = .ok (.istore 5, 2) := by decide +kernel
theorem d_law_211 : decode code 211 = .ok (.aload_n 2, 1) := by decide +kernel
theorem d_law_212 : decode code 212 = .ok (.aload_n 0, 1) := by decide +kernel
theorem d_law_213 : decode code 213 = .ok (.iload 4, 2) := by decide +kernel
theorem d_law_215 : decode code 215 = .ok (.iconst 1, 1) := by decide +kernel
theorem d_law_216 : decode code 216 = .ok (.iadd, 1) := by decide +kernel
theorem d_law_217 : decode code 217 = .ok (.iaload, 1) := by decide +kernel
theorem d_law_218 : decode code 218 = .ok (.i2l, 1) := by decide +kernel
theorem d_law_219 : decode code 219 = .ok (.bipush 32, 2) := by decide +kernel
theorem d_law_221 : decode code 221 = .ok (.lshl, 1) := by decide +kernel
theorem d_law_222 : decode code 222 = .ok (.aload_n 0, 1) := by decide +kernel
theorem d_law_223 : decode code 223 = .ok (.iload 4, 2) := by decide +kernel
theorem d_law_225 : decode code 225 = .ok (.iconst 2, 1) := by decide +kernel
theorem d_law_226 : decode code 226 = .ok (.iadd, 1) := by decide +kernel
theorem d_law_227 : decode code 227 = .ok (.iaload, 1) := by decide +kernel
theorem d_law_228 : decode code 228 = .ok (.i2l, 1) := by decide +kernel
theorem d_law_229 : decode code 229 = .ok (.ldc2_w 72, 3) := by decide +kernel
theorem d_law_232 : decode code 232 = .ok (.land, 1) := by decide +kernel
theorem d_law_233 : decode code 233 = .ok (.lor, 1) := by decide +kernel
theorem d_law_234 : decode code 234 = .ok (.aload_n 0, 1) := by decide +kernel
theorem d_law_235 : decode code 235 = .ok (.iload 4, 2) := by decide +kernel
theorem d_law_237 : decode code 237 = .ok (.iconst 3, 1) := by decide +kernel
theorem d_law_238 : decode code 238 = .ok (.iadd, 1) := by decide +kernel
theorem d_law_239 : decode code 239 = .ok (.iaload, 1) := by decide +kernel
theorem d_law_240 : decode code 240 = .ok (.invokevirtual 77, 3) := by decide +kernel
theorem d_law_243 : decode code 243 = .ok (.istore 6, 2) := by decide +kernel
theorem d_law_245 : decode code 245 = .ok (.aload_n 2, 1) := by decide +kernel
theorem d_law_246 : decode code 246 = .ok (.invokevirtual 68, 3) := by decide +kernel
theorem d_law_249 : decode code 249 = .ok (.iload 5, 2) := by decide +kernel
theorem d_law_251 : decode code 251 = .ok (.if_icmp .eq 5, 3) := by decide +kernel
theorem d_law_256 : decode code 256 = .ok (.iload 5, 2) := by decide +kernel
theorem d_law_258 : decode code 258 = .ok (.ifCond .ne 15, 3) := by decide +kernel
theorem d_law_261 : decode code 261 = .ok (.aload_n 3, 1) := by decide +kernel
theorem d_law_262 : decode code 262 = .ok (.iconst 0, 1) := by decide +kernel
theorem d_law_263 : decode code 263 = .ok (.laload, 1) := by decide +kernel
theorem d_law_264 : decode code 264 = .ok (.iload 6, 2) := by decide +kernel
theorem d_law_266 : decode code 266 = .ok (.i2l, 1) := by decide +kernel
theorem d_law_267 : decode code 267 = .ok (.lcmp, 1) := by decide +kernel
theorem d_law_268 : decode code 268 = .ok (.ifCond .eq 5, 3) := by decide +kernel
theorem d_law_271 : decode code 271 = .ok (.iconst 0, 1) := by decide +kernel
theorem d_law_273 : decode code 273 = .ok (.goto 736, 3) := by decide +kernel
theorem d_law_276 : decode code 276 = .ok (.aload_n 1, 1) := by decide +kernel
theorem d_law_277 : decode code 277 = .ok (.aload_n 0, 1) := by decide +kernel
theorem d_law_278 : decode code 278 = .ok (.iload 4, 2) := by decide +kernel
theorem d_law_280 : decode code 280 = .ok (.iconst 1, 1) := by decide +kernel
theorem d_law_281 : decode code 281 = .ok (.iadd, 1) := by decide +kernel
theorem d_law_282 : decode code 282 = .ok (.iaload, 1) := by decide +kernel
theorem d_law_283 : decode code 283 = .ok (.aload_n 0, 1) := by decide +kernel
theorem d_law_284 : decode code 284 = .ok (.iload 4, 2) := by decide +kernel
theorem d_law_286 : decode code 286 = .ok (.iconst 2, 1) := by decide +kernel
theorem d_law_287 : decode code 287 = .ok (.iadd, 1) := by decide +kernel
theorem d_law_288 : decode code 288 = .ok (.iaload, 1) := by decide +kernel
theorem d_law_289 : decode code 289 = .ok (.aload_n 3, 1) := by decide +kernel
theorem d_law_290 : decode code 290 = .ok (.invokestatic 78, 3) := by decide +kernel
theorem d_law_293 : decode code 293 = .ok (.istore 5, 2) := by decide +kernel
theorem d_law_295 : decode code 295 = .ok (.aload_n 2, 1) := by decide +kernel
theorem d_law_296 : decode code 296 = .ok (.aload_n 0, 1) := by decide +kernel
theorem d_law_297 : decode code 297 = .ok (.iload 4, 2) := by decide +kernel
