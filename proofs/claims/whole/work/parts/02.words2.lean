theorem mw_1067 : (Jvm.Cond.classLink "UnaskedName" (169 : Nat) "java/util/NoSuchElementException") ∈ Gw := gw_c tin_5 107 rfl rfl
theorem mw_1068 : (Jvm.Cond.instantiable "java/util/NoSuchElementException" (6 : Nat)) ∈ Gw := gw_c tin_5 108 rfl rfl
theorem mw_1070 : (Jvm.Cond.selects "java/util/NoSuchElementException" ({ cls := "java/lang/Throwable", name := "fillInStackTrace", desc := "(I)Ljava/lang/Throwable;" } : Jvm.MethodName) ({ cls := "java/lang/Throwable", name := "fillInStackTrace", desc := "(I)Ljava/lang/Throwable;" } : Jvm.MethodName)) ∈ Gw := gw_c tin_5 110 rfl rfl
theorem mw_1077 : (Jvm.Cond.methodLink "UnaskedName" (173 : Nat) ({ cls := "java/util/NoSuchElementException", name := "<init>", desc := "(Ljava/lang/String;)V" } : Jvm.MethodName)) ∈ Gw := gw_c tin_5 117 rfl rfl
theorem mw_1078 : (Jvm.Cond.instanceMethod ({ cls := "java/util/NoSuchElementException", name := "<init>", desc := "(Ljava/lang/String;)V" } : Jvm.MethodName)) ∈ Gw := gw_c tin_5 118 rfl rfl
theorem mw_1079 : (Jvm.Cond.code ({ cls := "java/util/NoSuchElementException", name := "<init>", desc := "(Ljava/lang/String;)V" } : Jvm.MethodName) prog_33_method_4_code (2 : Nat) (Option.none : Option Jvm.ClassFile.FieldType)) ∈ Gw := gw_c tin_5 119 rfl rfl
theorem mw_1080 : (Jvm.Cond.methodLink "java/util/NoSuchElementException" (13 : Nat) ({ cls := "java/lang/RuntimeException", name := "<init>", desc := "(Ljava/lang/String;)V" } : Jvm.MethodName)) ∈ Gw := gw_c tin_5 120 rfl rfl
theorem mw_1083 : (Jvm.Cond.methodLink "UnaskedNameLaw" (155 : Nat) ({ cls := "UnaskedNameLaw", name := "court", desc := "(LUnaskedName;II[J)I" } : Jvm.MethodName)) ∈ Gw := gw_c tin_5 123 rfl rfl
theorem mw_1084 : (Jvm.Cond.static ({ cls := "UnaskedNameLaw", name := "court", desc := "(LUnaskedName;II[J)I" } : Jvm.MethodName)) ∈ Gw := gw_c tin_5 124 rfl rfl
theorem mw_1086 : (Jvm.Cond.methodLink "UnaskedNameLaw" (28 : Nat) ({ cls := "UnaskedName", name := "court", desc := "(II)I" } : Jvm.MethodName)) ∈ Gw := gw_c tin_5 126 rfl rfl
theorem mw_1087 : (Jvm.Cond.instanceMethod ({ cls := "UnaskedName", name := "court", desc := "(II)I" } : Jvm.MethodName)) ∈ Gw := gw_c tin_5 127 rfl rfl
theorem mw_1088 : (Jvm.Cond.selects "UnaskedName" ({ cls := "UnaskedName", name := "court", desc := "(II)I" } : Jvm.MethodName) ({ cls := "UnaskedName", name := "court", desc := "(II)I" } : Jvm.MethodName)) ∈ Gw := gw_c tin_5 128 rfl rfl
theorem mw_1089 : (Jvm.Cond.code ({ cls := "UnaskedName", name := "court", desc := "(II)I" } : Jvm.MethodName) prog_1_method_9_code (3 : Nat) (Option.some Jvm.ClassFile.FieldType.int)) ∈ Gw := gw_c tin_5 129 rfl rfl
theorem mw_1090 : (Jvm.Cond.methodLink "UnaskedName" (174 : Nat) ({ cls := "UnaskedName", name := "needWho", desc := "(I)V" } : Jvm.MethodName)) ∈ Gw := gw_c tin_5 130 rfl rfl
theorem mw_1092 : (Jvm.Cond.instanceMethod ({ cls := "UnaskedName", name := "needWho", desc := "(I)V" } : Jvm.MethodName)) ∈ Gw := gw_c tin_5 132 rfl rfl
theorem mw_1093 : (Jvm.Cond.code ({ cls := "UnaskedName", name := "needWho", desc := "(I)V" } : Jvm.MethodName) prog_1_method_61_code (2 : Nat) (Option.none : Option Jvm.ClassFile.FieldType)) ∈ Gw := gw_c tin_5 133 rfl rfl
theorem mw_1096 : (Jvm.Cond.methodLink "UnaskedNameLaw" (158 : Nat) ({ cls := "UnaskedNameLaw", name := "word", desc := "(LUnaskedName;IZ[J)I" } : Jvm.MethodName)) ∈ Gw := gw_c tin_5 136 rfl rfl
theorem mw_1097 : (Jvm.Cond.static ({ cls := "UnaskedNameLaw", name := "word", desc := "(LUnaskedName;IZ[J)I" } : Jvm.MethodName)) ∈ Gw := gw_c tin_5 137 rfl rfl
theorem mw_1099 : (Jvm.Cond.methodLink "UnaskedNameLaw" (31 : Nat) ({ cls := "UnaskedName", name := "word", desc := "(IZ)I" } : Jvm.MethodName)) ∈ Gw := gw_c tin_5 139 rfl rfl
theorem mw_1100 : (Jvm.Cond.instanceMethod ({ cls := "UnaskedName", name := "word", desc := "(IZ)I" } : Jvm.MethodName)) ∈ Gw := gw_c tin_5 140 rfl rfl
theorem mw_1101 : (Jvm.Cond.selects "UnaskedName" ({ cls := "UnaskedName", name := "word", desc := "(IZ)I" } : Jvm.MethodName) ({ cls := "UnaskedName", name := "word", desc := "(IZ)I" } : Jvm.MethodName)) ∈ Gw := gw_c tin_5 141 rfl rfl
theorem mw_1102 : (Jvm.Cond.code ({ cls := "UnaskedName", name := "word", desc := "(IZ)I" } : Jvm.MethodName) prog_1_method_10_code (3 : Nat) (Option.some Jvm.ClassFile.FieldType.int)) ∈ Gw := gw_c tin_5 142 rfl rfl
theorem mw_1103 : (Jvm.Cond.methodLink "UnaskedName" (188 : Nat) ({ cls := "UnaskedName", name := "needWord", desc := "(I)V" } : Jvm.MethodName)) ∈ Gw := gw_c tin_5 143 rfl rfl
theorem mw_1105 : (Jvm.Cond.instanceMethod ({ cls := "UnaskedName", name := "needWord", desc := "(I)V" } : Jvm.MethodName)) ∈ Gw := gw_c tin_5 145 rfl rfl
theorem mw_1106 : (Jvm.Cond.code ({ cls := "UnaskedName", name := "needWord", desc := "(I)V" } : Jvm.MethodName) prog_1_method_62_code (2 : Nat) (Option.none : Option Jvm.ClassFile.FieldType)) ∈ Gw := gw_c tin_5 146 rfl rfl
theorem mw_1108 : (Jvm.Cond.methodLink "UnaskedNameLaw" (162 : Nat) ({ cls := "UnaskedNameLaw", name := "deed", desc := "(LUnaskedName;II[J)I" } : Jvm.MethodName)) ∈ Gw := gw_c tin_5 148 rfl rfl
theorem mw_1109 : (Jvm.Cond.static ({ cls := "UnaskedNameLaw", name := "deed", desc := "(LUnaskedName;II[J)I" } : Jvm.MethodName)) ∈ Gw := gw_c tin_5 149 rfl rfl
theorem mw_1111 : (Jvm.Cond.methodLink "UnaskedNameLaw" (35 : Nat) ({ cls := "UnaskedName", name := "deed", desc := "(II)I" } : Jvm.MethodName)) ∈ Gw := gw_c tin_5 151 rfl rfl
theorem mw_1112 : (Jvm.Cond.instanceMethod ({ cls := "UnaskedName", name := "deed", desc := "(II)I" } : Jvm.MethodName)) ∈ Gw := gw_c tin_5 152 rfl rfl
theorem mw_1113 : (Jvm.Cond.selects "UnaskedName" ({ cls := "UnaskedName", name := "deed", desc := "(II)I" } : Jvm.MethodName) ({ cls := "UnaskedName", name := "deed", desc := "(II)I" } : Jvm.MethodName)) ∈ Gw := gw_c tin_5 153 rfl rfl
theorem mw_1114 : (Jvm.Cond.code ({ cls := "UnaskedName", name := "deed", desc := "(II)I" } : Jvm.MethodName) prog_1_method_11_code (3 : Nat) (Option.some Jvm.ClassFile.FieldType.int)) ∈ Gw := gw_c tin_5 154 rfl rfl
theorem mw_1115 : (Jvm.Cond.methodLink "UnaskedName" (197 : Nat) ({ cls := "UnaskedName", name := "needDeed", desc := "(I)V" } : Jvm.MethodName)) ∈ Gw := gw_c tin_5 155 rfl rfl
theorem mw_1117 : (Jvm.Cond.instanceMethod ({ cls := "UnaskedName", name := "needDeed", desc := "(I)V" } : Jvm.MethodName)) ∈ Gw := gw_c tin_5 157 rfl rfl
theorem mw_1118 : (Jvm.Cond.code ({ cls := "UnaskedName", name := "needDeed", desc := "(I)V" } : Jvm.MethodName) prog_1_method_63_code (2 : Nat) (Option.none : Option Jvm.ClassFile.FieldType)) ∈ Gw := gw_c tin_5 158 rfl rfl
theorem mw_1120 : (Jvm.Cond.methodLink "UnaskedName" (206 : Nat) ({ cls := "UnaskedName$World", name := "easeOf", desc := "(LUnaskedName$Mind;I)I" } : Jvm.MethodName)) ∈ Gw := gw_c tin_5 160 rfl rfl
theorem mw_1121 : (Jvm.Cond.instanceMethod ({ cls := "UnaskedName$World", name := "easeOf", desc := "(LUnaskedName$Mind;I)I" } : Jvm.MethodName)) ∈ Gw := gw_c tin_5 161 rfl rfl
theorem mw_1122 : (Jvm.Cond.selects "UnaskedName$World" ({ cls := "UnaskedName$World", name := "easeOf", desc := "(LUnaskedName$Mind;I)I" } : Jvm.MethodName) ({ cls := "UnaskedName$World", name := "easeOf", desc := "(LUnaskedName$Mind;I)I" } : Jvm.MethodName)) ∈ Gw := gw_c tin_5 162 rfl rfl
theorem mw_1123 : (Jvm.Cond.code ({ cls := "UnaskedName$World", name := "easeOf", desc := "(LUnaskedName$Mind;I)I" } : Jvm.MethodName) prog_12_method_4_code (3 : Nat) (Option.some Jvm.ClassFile.FieldType.int)) ∈ Gw := gw_c tin_5 163 rfl rfl
theorem mw_1125 : (Jvm.Cond.methodLink "UnaskedNameLaw" (165 : Nat) ({ cls := "UnaskedNameLaw", name := "stings", desc := "(LUnaskedName;II[J)I" } : Jvm.MethodName)) ∈ Gw := gw_c tin_5 165 rfl rfl
theorem mw_1126 : (Jvm.Cond.static ({ cls := "UnaskedNameLaw", name := "stings", desc := "(LUnaskedName;II[J)I" } : Jvm.MethodName)) ∈ Gw := gw_c tin_5 166 rfl rfl
theorem mw_1128 : (Jvm.Cond.methodLink "UnaskedNameLaw" (38 : Nat) ({ cls := "UnaskedName", name := "stings", desc := "(II)I" } : Jvm.MethodName)) ∈ Gw := gw_c tin_5 168 rfl rfl
theorem mw_1129 : (Jvm.Cond.instanceMethod ({ cls := "UnaskedName", name := "stings", desc := "(II)I" } : Jvm.MethodName)) ∈ Gw := gw_c tin_5 169 rfl rfl
theorem mw_1130 : (Jvm.Cond.selects "UnaskedName" ({ cls := "UnaskedName", name := "stings", desc := "(II)I" } : Jvm.MethodName) ({ cls := "UnaskedName", name := "stings", desc := "(II)I" } : Jvm.MethodName)) ∈ Gw := gw_c tin_5 170 rfl rfl
theorem mw_1131 : (Jvm.Cond.code ({ cls := "UnaskedName", name := "stings", desc := "(II)I" } : Jvm.MethodName) prog_1_method_12_code (3 : Nat) (Option.some Jvm.ClassFile.FieldType.int)) ∈ Gw := gw_c tin_5 171 rfl rfl
theorem mw_1132 : (Jvm.Cond.methodLink "UnaskedNameLaw" (168 : Nat) ({ cls := "UnaskedNameLaw", name := "say", desc := "(LUnaskedName;II[J)I" } : Jvm.MethodName)) ∈ Gw := gw_c tin_5 172 rfl rfl
theorem mw_1133 : (Jvm.Cond.static ({ cls := "UnaskedNameLaw", name := "say", desc := "(LUnaskedName;II[J)I" } : Jvm.MethodName)) ∈ Gw := gw_c tin_5 173 rfl rfl
theorem mw_1135 : (Jvm.Cond.classLink "UnaskedNameLaw" (44 : Nat) "java/lang/IllegalStateException") ∈ Gw := gw_c tin_5 175 rfl rfl
theorem mw_1136 : (Jvm.Cond.methodLink "UnaskedNameLaw" (41 : Nat) ({ cls := "UnaskedName", name := "say", desc := "(II)I" } : Jvm.MethodName)) ∈ Gw := gw_c tin_5 176 rfl rfl
theorem mw_1137 : (Jvm.Cond.instanceMethod ({ cls := "UnaskedName", name := "say", desc := "(II)I" } : Jvm.MethodName)) ∈ Gw := gw_c tin_5 177 rfl rfl
theorem mw_1138 : (Jvm.Cond.selects "UnaskedName" ({ cls := "UnaskedName", name := "say", desc := "(II)I" } : Jvm.MethodName) ({ cls := "UnaskedName", name := "say", desc := "(II)I" } : Jvm.MethodName)) ∈ Gw := gw_c tin_5 178 rfl rfl
theorem mw_1139 : (Jvm.Cond.code ({ cls := "UnaskedName", name := "say", desc := "(II)I" } : Jvm.MethodName) prog_1_method_13_code (3 : Nat) (Option.some Jvm.ClassFile.FieldType.int)) ∈ Gw := gw_c tin_5 179 rfl rfl
theorem mw_1140 : (Jvm.Cond.classLink "UnaskedName" (219 : Nat) "java/lang/IllegalStateException") ∈ Gw := gw_c tin_5 180 rfl rfl
theorem mw_1141 : (Jvm.Cond.instantiable "java/lang/IllegalStateException" (6 : Nat)) ∈ Gw := gw_c tin_5 181 rfl rfl
theorem mw_1143 : (Jvm.Cond.selects "java/lang/IllegalStateException" ({ cls := "java/lang/Throwable", name := "fillInStackTrace", desc := "(I)Ljava/lang/Throwable;" } : Jvm.MethodName) ({ cls := "java/lang/Throwable", name := "fillInStackTrace", desc := "(I)Ljava/lang/Throwable;" } : Jvm.MethodName)) ∈ Gw := gw_c tin_5 183 rfl rfl
theorem mw_1150 : (Jvm.Cond.methodLink "UnaskedName" (223 : Nat) ({ cls := "java/lang/IllegalStateException", name := "<init>", desc := "(Ljava/lang/String;)V" } : Jvm.MethodName)) ∈ Gw := gw_c tin_5 190 rfl rfl
theorem mw_1151 : (Jvm.Cond.instanceMethod ({ cls := "java/lang/IllegalStateException", name := "<init>", desc := "(Ljava/lang/String;)V" } : Jvm.MethodName)) ∈ Gw := gw_c tin_5 191 rfl rfl
theorem mw_1152 : (Jvm.Cond.code ({ cls := "java/lang/IllegalStateException", name := "<init>", desc := "(Ljava/lang/String;)V" } : Jvm.MethodName) prog_20_method_2_code (2 : Nat) (Option.none : Option Jvm.ClassFile.FieldType)) ∈ Gw := gw_c tin_5 192 rfl rfl
theorem mw_1153 : (Jvm.Cond.methodLink "java/lang/IllegalStateException" (7 : Nat) ({ cls := "java/lang/RuntimeException", name := "<init>", desc := "(Ljava/lang/String;)V" } : Jvm.MethodName)) ∈ Gw := gw_c tin_5 193 rfl rfl
theorem mw_1156 : (Jvm.Cond.methodLink "UnaskedName" (224 : Nat) ({ cls := "UnaskedName$Past", name := "remember", desc := "(LUnaskedName$Mind;)V" } : Jvm.MethodName)) ∈ Gw := gw_c tin_5 196 rfl rfl
theorem mw_1157 : (Jvm.Cond.instanceMethod ({ cls := "UnaskedName$Past", name := "remember", desc := "(LUnaskedName$Mind;)V" } : Jvm.MethodName)) ∈ Gw := gw_c tin_5 197 rfl rfl
theorem mw_1158 : (Jvm.Cond.selects "UnaskedName$Past" ({ cls := "UnaskedName$Past", name := "remember", desc := "(LUnaskedName$Mind;)V" } : Jvm.MethodName) ({ cls := "UnaskedName$Past", name := "remember", desc := "(LUnaskedName$Mind;)V" } : Jvm.MethodName)) ∈ Gw := gw_c tin_5 198 rfl rfl
theorem mw_1159 : (Jvm.Cond.code ({ cls := "UnaskedName$Past", name := "remember", desc := "(LUnaskedName$Mind;)V" } : Jvm.MethodName) prog_6_method_3_code (3 : Nat) (Option.none : Option Jvm.ClassFile.FieldType)) ∈ Gw := gw_c tin_5 199 rfl rfl
theorem mw_1160 : (Jvm.Cond.methodLink "UnaskedName" (228 : Nat) ({ cls := "UnaskedName$World", name := "speak", desc := "(LUnaskedName$Mind;II)V" } : Jvm.MethodName)) ∈ Gw := gw_c tin_5 200 rfl rfl
theorem mw_1161 : (Jvm.Cond.instanceMethod ({ cls := "UnaskedName$World", name := "speak", desc := "(LUnaskedName$Mind;II)V" } : Jvm.MethodName)) ∈ Gw := gw_c tin_5 201 rfl rfl
theorem mw_1162 : (Jvm.Cond.selects "UnaskedName$World" ({ cls := "UnaskedName$World", name := "speak", desc := "(LUnaskedName$Mind;II)V" } : Jvm.MethodName) ({ cls := "UnaskedName$World", name := "speak", desc := "(LUnaskedName$Mind;II)V" } : Jvm.MethodName)) ∈ Gw := gw_c tin_5 202 rfl rfl
theorem mw_1163 : (Jvm.Cond.code ({ cls := "UnaskedName$World", name := "speak", desc := "(LUnaskedName$Mind;II)V" } : Jvm.MethodName) prog_12_method_5_code (4 : Nat) (Option.none : Option Jvm.ClassFile.FieldType)) ∈ Gw := gw_c tin_5 203 rfl rfl
theorem mw_1164 : (Jvm.Cond.methodLink "UnaskedName$World" (84 : Nat) ({ cls := "UnaskedName$World", name := "stingOf", desc := "(LUnaskedName$Mind;II)I" } : Jvm.MethodName)) ∈ Gw := gw_c tin_5 204 rfl rfl
theorem mw_1165 : (Jvm.Cond.methodLink "UnaskedName$World" (88 : Nat) ({ cls := "java/lang/Math", name := "min", desc := "(II)I" } : Jvm.MethodName)) ∈ Gw := gw_c tin_5 205 rfl rfl
theorem mw_1166 : (Jvm.Cond.methodLink "UnaskedName$World" (94 : Nat) ({ cls := "UnaskedName$Tale", name := "narrowed", desc := "(III)I" } : Jvm.MethodName)) ∈ Gw := gw_c tin_5 206 rfl rfl
theorem mw_1167 : (Jvm.Cond.methodLink "UnaskedName$World" (102 : Nat) ({ cls := "UnaskedName$Log", name := "add", desc := "(LUnaskedName$Mind;II)V" } : Jvm.MethodName)) ∈ Gw := gw_c tin_5 207 rfl rfl
theorem mw_1168 : (Jvm.Cond.instanceMethod ({ cls := "UnaskedName$Log", name := "add", desc := "(LUnaskedName$Mind;II)V" } : Jvm.MethodName)) ∈ Gw := gw_c tin_5 208 rfl rfl
theorem mw_1169 : (Jvm.Cond.selects "UnaskedName$Log" ({ cls := "UnaskedName$Log", name := "add", desc := "(LUnaskedName$Mind;II)V" } : Jvm.MethodName) ({ cls := "UnaskedName$Log", name := "add", desc := "(LUnaskedName$Mind;II)V" } : Jvm.MethodName)) ∈ Gw := gw_c tin_5 209 rfl rfl
theorem mw_1170 : (Jvm.Cond.code ({ cls := "UnaskedName$Log", name := "add", desc := "(LUnaskedName$Mind;II)V" } : Jvm.MethodName) prog_4_method_3_code (4 : Nat) (Option.none : Option Jvm.ClassFile.FieldType)) ∈ Gw := gw_c tin_5 210 rfl rfl
theorem mw_1171 : (Jvm.Cond.methodLink "UnaskedName$Log" (39 : Nat) ({ cls := "java/lang/Integer", name := "bitCount", desc := "(I)I" } : Jvm.MethodName)) ∈ Gw := gw_c tin_5 211 rfl rfl
theorem mw_1172 : (Jvm.Cond.methodLink "UnaskedNameLaw" (171 : Nat) ({ cls := "UnaskedNameLaw", name := "does", desc := "(LUnaskedName;I[J)I" } : Jvm.MethodName)) ∈ Gw := gw_c tin_5 212 rfl rfl
theorem mw_1173 : (Jvm.Cond.static ({ cls := "UnaskedNameLaw", name := "does", desc := "(LUnaskedName;I[J)I" } : Jvm.MethodName)) ∈ Gw := gw_c tin_5 213 rfl rfl
theorem mw_1175 : (Jvm.Cond.methodLink "UnaskedNameLaw" (46 : Nat) ({ cls := "UnaskedName", name := "does", desc := "(I)I" } : Jvm.MethodName)) ∈ Gw := gw_c tin_5 215 rfl rfl
theorem mw_1176 : (Jvm.Cond.instanceMethod ({ cls := "UnaskedName", name := "does", desc := "(I)I" } : Jvm.MethodName)) ∈ Gw := gw_c tin_5 216 rfl rfl
theorem mw_1177 : (Jvm.Cond.selects "UnaskedName" ({ cls := "UnaskedName", name := "does", desc := "(I)I" } : Jvm.MethodName) ({ cls := "UnaskedName", name := "does", desc := "(I)I" } : Jvm.MethodName)) ∈ Gw := gw_c tin_5 217 rfl rfl
theorem mw_1178 : (Jvm.Cond.code ({ cls := "UnaskedName", name := "does", desc := "(I)I" } : Jvm.MethodName) prog_1_method_14_code (2 : Nat) (Option.some Jvm.ClassFile.FieldType.int)) ∈ Gw := gw_c tin_5 218 rfl rfl
theorem mw_1180 : (Jvm.Cond.methodLink "UnaskedName" (237 : Nat) ({ cls := "UnaskedName$World", name := "soothe", desc := "(LUnaskedName$Mind;I)V" } : Jvm.MethodName)) ∈ Gw := gw_c tin_5 220 rfl rfl
theorem mw_1181 : (Jvm.Cond.instanceMethod ({ cls := "UnaskedName$World", name := "soothe", desc := "(LUnaskedName$Mind;I)V" } : Jvm.MethodName)) ∈ Gw := gw_c tin_5 221 rfl rfl
theorem mw_1182 : (Jvm.Cond.selects "UnaskedName$World" ({ cls := "UnaskedName$World", name := "soothe", desc := "(LUnaskedName$Mind;I)V" } : Jvm.MethodName) ({ cls := "UnaskedName$World", name := "soothe", desc := "(LUnaskedName$Mind;I)V" } : Jvm.MethodName)) ∈ Gw := gw_c tin_5 222 rfl rfl
theorem mw_1183 : (Jvm.Cond.code ({ cls := "UnaskedName$World", name := "soothe", desc := "(LUnaskedName$Mind;I)V" } : Jvm.MethodName) prog_12_method_6_code (3 : Nat) (Option.none : Option Jvm.ClassFile.FieldType)) ∈ Gw := gw_c tin_5 223 rfl rfl
theorem mw_1184 : (Jvm.Cond.methodLink "UnaskedName$World" (115 : Nat) ({ cls := "UnaskedName$World", name := "easeOf", desc := "(LUnaskedName$Mind;I)I" } : Jvm.MethodName)) ∈ Gw := gw_c tin_5 224 rfl rfl
theorem mw_1185 : (Jvm.Cond.methodLink "UnaskedNameLaw" (175 : Nat) ({ cls := "UnaskedNameLaw", name := "keep", desc := "(LUnaskedName;IZ[J)I" } : Jvm.MethodName)) ∈ Gw := gw_c tin_5 225 rfl rfl
theorem mw_1186 : (Jvm.Cond.static ({ cls := "UnaskedNameLaw", name := "keep", desc := "(LUnaskedName;IZ[J)I" } : Jvm.MethodName)) ∈ Gw := gw_c tin_5 226 rfl rfl
theorem mw_1188 : (Jvm.Cond.methodLink "UnaskedNameLaw" (50 : Nat) ({ cls := "UnaskedName", name := "keep", desc := "(IZ)Z" } : Jvm.MethodName)) ∈ Gw := gw_c tin_5 228 rfl rfl
theorem mw_1189 : (Jvm.Cond.instanceMethod ({ cls := "UnaskedName", name := "keep", desc := "(IZ)Z" } : Jvm.MethodName)) ∈ Gw := gw_c tin_5 229 rfl rfl
theorem mw_1190 : (Jvm.Cond.selects "UnaskedName" ({ cls := "UnaskedName", name := "keep", desc := "(IZ)Z" } : Jvm.MethodName) ({ cls := "UnaskedName", name := "keep", desc := "(IZ)Z" } : Jvm.MethodName)) ∈ Gw := gw_c tin_5 230 rfl rfl
theorem mw_1191 : (Jvm.Cond.code ({ cls := "UnaskedName", name := "keep", desc := "(IZ)Z" } : Jvm.MethodName) prog_1_method_15_code (4 : Nat) (Option.some Jvm.ClassFile.FieldType.boolean)) ∈ Gw := gw_c tin_5 231 rfl rfl
theorem mw_1192 : (Jvm.Cond.methodLink "UnaskedNameLaw" (178 : Nat) ({ cls := "UnaskedNameLaw", name := "habit", desc := "(LUnaskedName;II[J)I" } : Jvm.MethodName)) ∈ Gw := gw_c tin_5 232 rfl rfl
theorem mw_1193 : (Jvm.Cond.static ({ cls := "UnaskedNameLaw", name := "habit", desc := "(LUnaskedName;II[J)I" } : Jvm.MethodName)) ∈ Gw := gw_c tin_5 233 rfl rfl
theorem mw_1195 : (Jvm.Cond.methodLink "UnaskedNameLaw" (54 : Nat) ({ cls := "UnaskedName", name := "habit", desc := "(II)I" } : Jvm.MethodName)) ∈ Gw := gw_c tin_5 235 rfl rfl
theorem mw_1196 : (Jvm.Cond.instanceMethod ({ cls := "UnaskedName", name := "habit", desc := "(II)I" } : Jvm.MethodName)) ∈ Gw := gw_c tin_5 236 rfl rfl
theorem mw_1197 : (Jvm.Cond.selects "UnaskedName" ({ cls := "UnaskedName", name := "habit", desc := "(II)I" } : Jvm.MethodName) ({ cls := "UnaskedName", name := "habit", desc := "(II)I" } : Jvm.MethodName)) ∈ Gw := gw_c tin_5 237 rfl rfl
theorem mw_1198 : (Jvm.Cond.code ({ cls := "UnaskedName", name := "habit", desc := "(II)I" } : Jvm.MethodName) prog_1_method_16_code (4 : Nat) (Option.some Jvm.ClassFile.FieldType.int)) ∈ Gw := gw_c tin_5 238 rfl rfl
theorem mw_1199 : (Jvm.Cond.methodLink "UnaskedName" (241 : Nat) ({ cls := "UnaskedName$Mind", name := "setHabit", desc := "(II)V" } : Jvm.MethodName)) ∈ Gw := gw_c tin_5 239 rfl rfl
theorem mw_1200 : (Jvm.Cond.methodLink "UnaskedNameLaw" (181 : Nat) ({ cls := "UnaskedNameLaw", name := "his", desc := "(LUnaskedName;I[J)I" } : Jvm.MethodName)) ∈ Gw := gw_c tin_6 0 rfl rfl
theorem mw_1201 : (Jvm.Cond.static ({ cls := "UnaskedNameLaw", name := "his", desc := "(LUnaskedName;I[J)I" } : Jvm.MethodName)) ∈ Gw := gw_c tin_6 1 rfl rfl
theorem mw_1203 : (Jvm.Cond.methodLink "UnaskedNameLaw" (57 : Nat) ({ cls := "UnaskedName", name := "his", desc := "(I)I" } : Jvm.MethodName)) ∈ Gw := gw_c tin_6 3 rfl rfl
theorem mw_1204 : (Jvm.Cond.instanceMethod ({ cls := "UnaskedName", name := "his", desc := "(I)I" } : Jvm.MethodName)) ∈ Gw := gw_c tin_6 4 rfl rfl
theorem mw_1205 : (Jvm.Cond.selects "UnaskedName" ({ cls := "UnaskedName", name := "his", desc := "(I)I" } : Jvm.MethodName) ({ cls := "UnaskedName", name := "his", desc := "(I)I" } : Jvm.MethodName)) ∈ Gw := gw_c tin_6 5 rfl rfl
theorem mw_1206 : (Jvm.Cond.code ({ cls := "UnaskedName", name := "his", desc := "(I)I" } : Jvm.MethodName) prog_1_method_17_code (3 : Nat) (Option.some Jvm.ClassFile.FieldType.int)) ∈ Gw := gw_c tin_6 6 rfl rfl
theorem mw_1207 : (Jvm.Cond.methodLink "UnaskedName" (251 : Nat) ({ cls := "UnaskedName$Mind", name := "tellBearer", desc := "(II)V" } : Jvm.MethodName)) ∈ Gw := gw_c tin_6 7 rfl rfl
theorem mw_1208 : (Jvm.Cond.methodLink "UnaskedNameLaw" (184 : Nat) ({ cls := "UnaskedNameLaw", name := "crumb", desc := "(LUnaskedName;I[J)I" } : Jvm.MethodName)) ∈ Gw := gw_c tin_6 8 rfl rfl
theorem mw_1209 : (Jvm.Cond.static ({ cls := "UnaskedNameLaw", name := "crumb", desc := "(LUnaskedName;I[J)I" } : Jvm.MethodName)) ∈ Gw := gw_c tin_6 9 rfl rfl
theorem mw_1211 : (Jvm.Cond.methodLink "UnaskedNameLaw" (60 : Nat) ({ cls := "UnaskedName", name := "crumb", desc := "(I)I" } : Jvm.MethodName)) ∈ Gw := gw_c tin_6 11 rfl rfl
theorem mw_1212 : (Jvm.Cond.instanceMethod ({ cls := "UnaskedName", name := "crumb", desc := "(I)I" } : Jvm.MethodName)) ∈ Gw := gw_c tin_6 12 rfl rfl
theorem mw_1213 : (Jvm.Cond.selects "UnaskedName" ({ cls := "UnaskedName", name := "crumb", desc := "(I)I" } : Jvm.MethodName) ({ cls := "UnaskedName", name := "crumb", desc := "(I)I" } : Jvm.MethodName)) ∈ Gw := gw_c tin_6 13 rfl rfl
theorem mw_1214 : (Jvm.Cond.code ({ cls := "UnaskedName", name := "crumb", desc := "(I)I" } : Jvm.MethodName) prog_1_method_18_code (2 : Nat) (Option.some Jvm.ClassFile.FieldType.int)) ∈ Gw := gw_c tin_6 14 rfl rfl
theorem mw_1215 : (Jvm.Cond.methodLink "UnaskedName" (254 : Nat) ({ cls := "UnaskedName", name := "needTrait", desc := "(I)V" } : Jvm.MethodName)) ∈ Gw := gw_c tin_6 15 rfl rfl
theorem mw_1217 : (Jvm.Cond.instanceMethod ({ cls := "UnaskedName", name := "needTrait", desc := "(I)V" } : Jvm.MethodName)) ∈ Gw := gw_c tin_6 17 rfl rfl
theorem mw_1218 : (Jvm.Cond.code ({ cls := "UnaskedName", name := "needTrait", desc := "(I)V" } : Jvm.MethodName) prog_1_method_65_code (2 : Nat) (Option.none : Option Jvm.ClassFile.FieldType)) ∈ Gw := gw_c tin_6 18 rfl rfl
theorem mw_1221 : (Jvm.Cond.methodLink "UnaskedNameLaw" (187 : Nat) ({ cls := "UnaskedNameLaw", name := "nights", desc := "(LUnaskedName;I[J)I" } : Jvm.MethodName)) ∈ Gw := gw_c tin_6 21 rfl rfl
theorem mw_1222 : (Jvm.Cond.static ({ cls := "UnaskedNameLaw", name := "nights", desc := "(LUnaskedName;I[J)I" } : Jvm.MethodName)) ∈ Gw := gw_c tin_6 22 rfl rfl
theorem mw_1224 : (Jvm.Cond.methodLink "UnaskedNameLaw" (63 : Nat) ({ cls := "UnaskedName", name := "nights", desc := "(I)I" } : Jvm.MethodName)) ∈ Gw := gw_c tin_6 24 rfl rfl
theorem mw_1225 : (Jvm.Cond.instanceMethod ({ cls := "UnaskedName", name := "nights", desc := "(I)I" } : Jvm.MethodName)) ∈ Gw := gw_c tin_6 25 rfl rfl
theorem mw_1226 : (Jvm.Cond.selects "UnaskedName" ({ cls := "UnaskedName", name := "nights", desc := "(I)I" } : Jvm.MethodName) ({ cls := "UnaskedName", name := "nights", desc := "(I)I" } : Jvm.MethodName)) ∈ Gw := gw_c tin_6 26 rfl rfl
theorem mw_1227 : (Jvm.Cond.code ({ cls := "UnaskedName", name := "nights", desc := "(I)I" } : Jvm.MethodName) prog_1_method_19_code (4 : Nat) (Option.some Jvm.ClassFile.FieldType.int)) ∈ Gw := gw_c tin_6 27 rfl rfl
theorem mw_1228 : (Jvm.Cond.methodLink "UnaskedName" (268 : Nat) ({ cls := "UnaskedName", name := "need", desc := "(Z)V" } : Jvm.MethodName)) ∈ Gw := gw_c tin_6 28 rfl rfl
theorem mw_1230 : (Jvm.Cond.instanceMethod ({ cls := "UnaskedName", name := "need", desc := "(Z)V" } : Jvm.MethodName)) ∈ Gw := gw_c tin_6 30 rfl rfl
theorem mw_1231 : (Jvm.Cond.code ({ cls := "UnaskedName", name := "need", desc := "(Z)V" } : Jvm.MethodName) prog_1_method_66_code (2 : Nat) (Option.none : Option Jvm.ClassFile.FieldType)) ∈ Gw := gw_c tin_6 31 rfl rfl
theorem mw_1233 : (Jvm.Cond.methodLink "UnaskedName" (271 : Nat) ({ cls := "UnaskedName$World", name := "drawnNight", desc := "(LUnaskedName$Mind;)Z" } : Jvm.MethodName)) ∈ Gw := gw_c tin_6 33 rfl rfl
theorem mw_1234 : (Jvm.Cond.instanceMethod ({ cls := "UnaskedName$World", name := "drawnNight", desc := "(LUnaskedName$Mind;)Z" } : Jvm.MethodName)) ∈ Gw := gw_c tin_6 34 rfl rfl
theorem mw_1235 : (Jvm.Cond.selects "UnaskedName$World" ({ cls := "UnaskedName$World", name := "drawnNight", desc := "(LUnaskedName$Mind;)Z" } : Jvm.MethodName) ({ cls := "UnaskedName$World", name := "drawnNight", desc := "(LUnaskedName$Mind;)Z" } : Jvm.MethodName)) ∈ Gw := gw_c tin_6 35 rfl rfl
theorem mw_1236 : (Jvm.Cond.code ({ cls := "UnaskedName$World", name := "drawnNight", desc := "(LUnaskedName$Mind;)Z" } : Jvm.MethodName) prog_12_method_9_code (3 : Nat) (Option.some Jvm.ClassFile.FieldType.boolean)) ∈ Gw := gw_c tin_6 36 rfl rfl
theorem mw_1237 : (Jvm.Cond.methodLink "UnaskedName$World" (125 : Nat) ({ cls := "UnaskedName$World", name := "canNightCome", desc := "(LUnaskedName$Mind;)Z" } : Jvm.MethodName)) ∈ Gw := gw_c tin_6 37 rfl rfl
theorem mw_1239 : (Jvm.Cond.instanceMethod ({ cls := "UnaskedName$World", name := "canNightCome", desc := "(LUnaskedName$Mind;)Z" } : Jvm.MethodName)) ∈ Gw := gw_c tin_6 39 rfl rfl
theorem mw_1240 : (Jvm.Cond.code ({ cls := "UnaskedName$World", name := "canNightCome", desc := "(LUnaskedName$Mind;)Z" } : Jvm.MethodName) prog_12_method_7_code (2 : Nat) (Option.some Jvm.ClassFile.FieldType.boolean)) ∈ Gw := gw_c tin_6 40 rfl rfl
theorem mw_1241 : (Jvm.Cond.methodLink "UnaskedName$World" (145 : Nat) ({ cls := "UnaskedName$Mind", name := "draw", desc := "()I" } : Jvm.MethodName)) ∈ Gw := gw_c tin_6 41 rfl rfl
theorem mw_1242 : (Jvm.Cond.instanceMethod ({ cls := "UnaskedName$Mind", name := "draw", desc := "()I" } : Jvm.MethodName)) ∈ Gw := gw_c tin_6 42 rfl rfl
theorem mw_1243 : (Jvm.Cond.selects "UnaskedName$Mind" ({ cls := "UnaskedName$Mind", name := "draw", desc := "()I" } : Jvm.MethodName) ({ cls := "UnaskedName$Mind", name := "draw", desc := "()I" } : Jvm.MethodName)) ∈ Gw := gw_c tin_6 43 rfl rfl
theorem mw_1244 : (Jvm.Cond.code ({ cls := "UnaskedName$Mind", name := "draw", desc := "()I" } : Jvm.MethodName) prog_5_method_6_code (1 : Nat) (Option.some Jvm.ClassFile.FieldType.int)) ∈ Gw := gw_c tin_6 44 rfl rfl
theorem mw_1245 : (Jvm.Cond.constant "UnaskedName$Mind" (63 : Nat) (1103515245 : Int32)) ∈ Gw := gw_c tin_6 45 rfl rfl
theorem mw_1246 : (Jvm.Cond.methodLink "UnaskedName$World" (138 : Nat) ({ cls := "UnaskedName$World", name := "speak", desc := "(LUnaskedName$Mind;II)V" } : Jvm.MethodName)) ∈ Gw := gw_c tin_6 46 rfl rfl
theorem mw_1247 : (Jvm.Cond.methodLink "UnaskedName$World" (141 : Nat) ({ cls := "UnaskedName$World", name := "soothe", desc := "(LUnaskedName$Mind;I)V" } : Jvm.MethodName)) ∈ Gw := gw_c tin_6 47 rfl rfl
theorem mw_1248 : (Jvm.Cond.methodLink "UnaskedNameLaw" (190 : Nat) ({ cls := "UnaskedNameLaw", name := "would", desc := "(LUnaskedName;IIZ[J)I" } : Jvm.MethodName)) ∈ Gw := gw_c tin_6 48 rfl rfl
theorem mw_1249 : (Jvm.Cond.static ({ cls := "UnaskedNameLaw", name := "would", desc := "(LUnaskedName;IIZ[J)I" } : Jvm.MethodName)) ∈ Gw := gw_c tin_6 49 rfl rfl
theorem mw_1251 : (Jvm.Cond.methodLink "UnaskedNameLaw" (66 : Nat) ({ cls := "UnaskedName", name := "would", desc := "(IIZ)I" } : Jvm.MethodName)) ∈ Gw := gw_c tin_6 51 rfl rfl
theorem mw_1252 : (Jvm.Cond.instanceMethod ({ cls := "UnaskedName", name := "would", desc := "(IIZ)I" } : Jvm.MethodName)) ∈ Gw := gw_c tin_6 52 rfl rfl
theorem mw_1253 : (Jvm.Cond.selects "UnaskedName" ({ cls := "UnaskedName", name := "would", desc := "(IIZ)I" } : Jvm.MethodName) ({ cls := "UnaskedName", name := "would", desc := "(IIZ)I" } : Jvm.MethodName)) ∈ Gw := gw_c tin_6 53 rfl rfl
theorem mw_1254 : (Jvm.Cond.code ({ cls := "UnaskedName", name := "would", desc := "(IIZ)I" } : Jvm.MethodName) prog_1_method_20_code (4 : Nat) (Option.some Jvm.ClassFile.FieldType.int)) ∈ Gw := gw_c tin_6 54 rfl rfl
theorem mw_1255 : (Jvm.Cond.methodLink "UnaskedName" (275 : Nat) ({ cls := "UnaskedName$Mind", name := "copyThoughtFrom", desc := "(LUnaskedName$Mind;)V" } : Jvm.MethodName)) ∈ Gw := gw_c tin_6 55 rfl rfl
theorem mw_1256 : (Jvm.Cond.methodLink "UnaskedNameLaw" (194 : Nat) ({ cls := "UnaskedNameLaw", name := "ahead", desc := "(LUnaskedName;II[J)I" } : Jvm.MethodName)) ∈ Gw := gw_c tin_6 56 rfl rfl
theorem mw_1257 : (Jvm.Cond.static ({ cls := "UnaskedNameLaw", name := "ahead", desc := "(LUnaskedName;II[J)I" } : Jvm.MethodName)) ∈ Gw := gw_c tin_6 57 rfl rfl
theorem mw_1259 : (Jvm.Cond.methodLink "UnaskedNameLaw" (70 : Nat) ({ cls := "UnaskedName", name := "ahead", desc := "(II)I" } : Jvm.MethodName)) ∈ Gw := gw_c tin_6 59 rfl rfl
theorem mw_1260 : (Jvm.Cond.instanceMethod ({ cls := "UnaskedName", name := "ahead", desc := "(II)I" } : Jvm.MethodName)) ∈ Gw := gw_c tin_6 60 rfl rfl
theorem mw_1261 : (Jvm.Cond.selects "UnaskedName" ({ cls := "UnaskedName", name := "ahead", desc := "(II)I" } : Jvm.MethodName) ({ cls := "UnaskedName", name := "ahead", desc := "(II)I" } : Jvm.MethodName)) ∈ Gw := gw_c tin_6 61 rfl rfl
theorem mw_1262 : (Jvm.Cond.code ({ cls := "UnaskedName", name := "ahead", desc := "(II)I" } : Jvm.MethodName) prog_1_method_21_code (4 : Nat) (Option.some Jvm.ClassFile.FieldType.int)) ∈ Gw := gw_c tin_6 62 rfl rfl
theorem mw_1263 : (Jvm.Cond.methodLink "UnaskedName" (278 : Nat) ({ cls := "UnaskedName", name := "needDeedOrNone", desc := "(I)V" } : Jvm.MethodName)) ∈ Gw := gw_c tin_6 63 rfl rfl
theorem mw_1265 : (Jvm.Cond.instanceMethod ({ cls := "UnaskedName", name := "needDeedOrNone", desc := "(I)V" } : Jvm.MethodName)) ∈ Gw := gw_c tin_6 65 rfl rfl
theorem mw_1266 : (Jvm.Cond.code ({ cls := "UnaskedName", name := "needDeedOrNone", desc := "(I)V" } : Jvm.MethodName) prog_1_method_64_code (2 : Nat) (Option.none : Option Jvm.ClassFile.FieldType)) ∈ Gw := gw_c tin_6 66 rfl rfl
theorem mw_1267 : (Jvm.Cond.methodLink "UnaskedName" (281 : Nat) ({ cls := "UnaskedName$World", name := "plainNight", desc := "(LUnaskedName$Mind;I)V" } : Jvm.MethodName)) ∈ Gw := gw_c tin_6 67 rfl rfl
theorem mw_1268 : (Jvm.Cond.instanceMethod ({ cls := "UnaskedName$World", name := "plainNight", desc := "(LUnaskedName$Mind;I)V" } : Jvm.MethodName)) ∈ Gw := gw_c tin_6 68 rfl rfl
theorem mw_1269 : (Jvm.Cond.selects "UnaskedName$World" ({ cls := "UnaskedName$World", name := "plainNight", desc := "(LUnaskedName$Mind;I)V" } : Jvm.MethodName) ({ cls := "UnaskedName$World", name := "plainNight", desc := "(LUnaskedName$Mind;I)V" } : Jvm.MethodName)) ∈ Gw := gw_c tin_6 69 rfl rfl
theorem mw_1270 : (Jvm.Cond.code ({ cls := "UnaskedName$World", name := "plainNight", desc := "(LUnaskedName$Mind;I)V" } : Jvm.MethodName) prog_12_method_8_code (4 : Nat) (Option.none : Option Jvm.ClassFile.FieldType)) ∈ Gw := gw_c tin_6 70 rfl rfl
theorem mw_1271 : (Jvm.Cond.methodLink "UnaskedNameLaw" (197 : Nat) ({ cls := "UnaskedNameLaw", name := "first", desc := "(LUnaskedName;I[J)I" } : Jvm.MethodName)) ∈ Gw := gw_c tin_6 71 rfl rfl
theorem mw_1272 : (Jvm.Cond.static ({ cls := "UnaskedNameLaw", name := "first", desc := "(LUnaskedName;I[J)I" } : Jvm.MethodName)) ∈ Gw := gw_c tin_6 72 rfl rfl
theorem mw_1274 : (Jvm.Cond.methodLink "UnaskedNameLaw" (73 : Nat) ({ cls := "UnaskedName", name := "first", desc := "(I)I" } : Jvm.MethodName)) ∈ Gw := gw_c tin_6 74 rfl rfl
theorem mw_1275 : (Jvm.Cond.instanceMethod ({ cls := "UnaskedName", name := "first", desc := "(I)I" } : Jvm.MethodName)) ∈ Gw := gw_c tin_6 75 rfl rfl
theorem mw_1276 : (Jvm.Cond.selects "UnaskedName" ({ cls := "UnaskedName", name := "first", desc := "(I)I" } : Jvm.MethodName) ({ cls := "UnaskedName", name := "first", desc := "(I)I" } : Jvm.MethodName)) ∈ Gw := gw_c tin_6 76 rfl rfl
theorem mw_1277 : (Jvm.Cond.code ({ cls := "UnaskedName", name := "first", desc := "(I)I" } : Jvm.MethodName) prog_1_method_22_code (3 : Nat) (Option.some Jvm.ClassFile.FieldType.int)) ∈ Gw := gw_c tin_6 77 rfl rfl
theorem mw_1278 : (Jvm.Cond.methodLink "UnaskedNameLaw" (200 : Nat) ({ cls := "UnaskedNameLaw", name := "siege", desc := "(LUnaskedName;I[J)I" } : Jvm.MethodName)) ∈ Gw := gw_c tin_6 78 rfl rfl
theorem mw_1279 : (Jvm.Cond.static ({ cls := "UnaskedNameLaw", name := "siege", desc := "(LUnaskedName;I[J)I" } : Jvm.MethodName)) ∈ Gw := gw_c tin_6 79 rfl rfl
theorem mw_1281 : (Jvm.Cond.methodLink "UnaskedNameLaw" (76 : Nat) ({ cls := "UnaskedName", name := "siege", desc := "(I)I" } : Jvm.MethodName)) ∈ Gw := gw_c tin_6 81 rfl rfl
theorem mw_1282 : (Jvm.Cond.instanceMethod ({ cls := "UnaskedName", name := "siege", desc := "(I)I" } : Jvm.MethodName)) ∈ Gw := gw_c tin_6 82 rfl rfl
theorem mw_1283 : (Jvm.Cond.selects "UnaskedName" ({ cls := "UnaskedName", name := "siege", desc := "(I)I" } : Jvm.MethodName) ({ cls := "UnaskedName", name := "siege", desc := "(I)I" } : Jvm.MethodName)) ∈ Gw := gw_c tin_6 83 rfl rfl
theorem mw_1284 : (Jvm.Cond.code ({ cls := "UnaskedName", name := "siege", desc := "(I)I" } : Jvm.MethodName) prog_1_method_29_code (2 : Nat) (Option.some Jvm.ClassFile.FieldType.int)) ∈ Gw := gw_c tin_6 84 rfl rfl
theorem mw_1285 : (Jvm.Cond.methodLink "UnaskedName" (293 : Nat) ({ cls := "UnaskedName$Siege", name := "fewestNights", desc := "(LUnaskedName$World;I)I" } : Jvm.MethodName)) ∈ Gw := gw_c tin_6 85 rfl rfl
theorem mw_1286 : (Jvm.Cond.instanceMethod ({ cls := "UnaskedName$Siege", name := "fewestNights", desc := "(LUnaskedName$World;I)I" } : Jvm.MethodName)) ∈ Gw := gw_c tin_6 86 rfl rfl
theorem mw_1287 : (Jvm.Cond.selects "UnaskedName$Siege" ({ cls := "UnaskedName$Siege", name := "fewestNights", desc := "(LUnaskedName$World;I)I" } : Jvm.MethodName) ({ cls := "UnaskedName$Siege", name := "fewestNights", desc := "(LUnaskedName$World;I)I" } : Jvm.MethodName)) ∈ Gw := gw_c tin_6 87 rfl rfl
theorem mw_1288 : (Jvm.Cond.code ({ cls := "UnaskedName$Siege", name := "fewestNights", desc := "(LUnaskedName$World;I)I" } : Jvm.MethodName) prog_8_method_2_code (3 : Nat) (Option.some Jvm.ClassFile.FieldType.int)) ∈ Gw := gw_c tin_6 88 rfl rfl
theorem mw_1289 : (Jvm.Cond.methodLink "UnaskedName$Siege" (32 : Nat) ({ cls := "UnaskedName$Siege", name := "open", desc := "(LUnaskedName$World;I)V" } : Jvm.MethodName)) ∈ Gw := gw_c tin_6 89 rfl rfl
theorem mw_1291 : (Jvm.Cond.instanceMethod ({ cls := "UnaskedName$Siege", name := "open", desc := "(LUnaskedName$World;I)V" } : Jvm.MethodName)) ∈ Gw := gw_c tin_6 91 rfl rfl
theorem mw_1292 : (Jvm.Cond.code ({ cls := "UnaskedName$Siege", name := "open", desc := "(LUnaskedName$World;I)V" } : Jvm.MethodName) prog_8_method_5_code (4 : Nat) (Option.none : Option Jvm.ClassFile.FieldType)) ∈ Gw := gw_c tin_6 92 rfl rfl
theorem mw_1293 : (Jvm.Cond.methodLink "UnaskedName$Siege" (82 : Nat) ({ cls := "UnaskedName$Mind", name := "copyThoughtFrom", desc := "(LUnaskedName$Mind;)V" } : Jvm.MethodName)) ∈ Gw := gw_c tin_6 93 rfl rfl
theorem mw_1294 : (Jvm.Cond.methodLink "UnaskedName$Siege" (44 : Nat) ({ cls := "UnaskedName$Siege", name := "fewestFrom", desc := "(LUnaskedName$World;II)I" } : Jvm.MethodName)) ∈ Gw := gw_c tin_6 94 rfl rfl
theorem mw_1296 : (Jvm.Cond.instanceMethod ({ cls := "UnaskedName$Siege", name := "fewestFrom", desc := "(LUnaskedName$World;II)I" } : Jvm.MethodName)) ∈ Gw := gw_c tin_6 96 rfl rfl
theorem mw_1297 : (Jvm.Cond.code ({ cls := "UnaskedName$Siege", name := "fewestFrom", desc := "(LUnaskedName$World;II)I" } : Jvm.MethodName) prog_8_method_6_code (8 : Nat) (Option.some Jvm.ClassFile.FieldType.int)) ∈ Gw := gw_c tin_6 97 rfl rfl
theorem mw_1298 : (Jvm.Cond.methodLink "UnaskedName$Siege" (48 : Nat) ({ cls := "UnaskedName$Siege", name := "latestBehind", desc := "(LUnaskedName$World;II)I" } : Jvm.MethodName)) ∈ Gw := gw_c tin_6 98 rfl rfl
theorem mw_1300 : (Jvm.Cond.instanceMethod ({ cls := "UnaskedName$Siege", name := "latestBehind", desc := "(LUnaskedName$World;II)I" } : Jvm.MethodName)) ∈ Gw := gw_c tin_6 100 rfl rfl
theorem mw_1301 : (Jvm.Cond.code ({ cls := "UnaskedName$Siege", name := "latestBehind", desc := "(LUnaskedName$World;II)I" } : Jvm.MethodName) prog_8_method_8_code (7 : Nat) (Option.some Jvm.ClassFile.FieldType.int)) ∈ Gw := gw_c tin_6 101 rfl rfl
theorem mw_1302 : (Jvm.Cond.methodLink "UnaskedName$Siege" (78 : Nat) ({ cls := "UnaskedName$Siege", name := "easedOn", desc := "(LUnaskedName$World;III)I" } : Jvm.MethodName)) ∈ Gw := gw_c tin_6 102 rfl rfl
theorem mw_1304 : (Jvm.Cond.instanceMethod ({ cls := "UnaskedName$Siege", name := "easedOn", desc := "(LUnaskedName$World;III)I" } : Jvm.MethodName)) ∈ Gw := gw_c tin_6 104 rfl rfl
theorem mw_1305 : (Jvm.Cond.code ({ cls := "UnaskedName$Siege", name := "easedOn", desc := "(LUnaskedName$World;III)I" } : Jvm.MethodName) prog_8_method_9_code (5 : Nat) (Option.some Jvm.ClassFile.FieldType.int)) ∈ Gw := gw_c tin_6 105 rfl rfl
theorem mw_1306 : (Jvm.Cond.methodLink "UnaskedName$Siege" (105 : Nat) ({ cls := "UnaskedName$World", name := "easeOf", desc := "(LUnaskedName$Mind;I)I" } : Jvm.MethodName)) ∈ Gw := gw_c tin_6 106 rfl rfl
theorem mw_1307 : (Jvm.Cond.methodLink "UnaskedName$Siege" (102 : Nat) ({ cls := "java/lang/Math", name := "max", desc := "(II)I" } : Jvm.MethodName)) ∈ Gw := gw_c tin_6 107 rfl rfl
theorem mw_1308 : (Jvm.Cond.methodLink "UnaskedName$Siege" (51 : Nat) ({ cls := "UnaskedName$Siege", name := "oneMore", desc := "(I)I" } : Jvm.MethodName)) ∈ Gw := gw_c tin_6 108 rfl rfl
theorem mw_1309 : (Jvm.Cond.static ({ cls := "UnaskedName$Siege", name := "oneMore", desc := "(I)I" } : Jvm.MethodName)) ∈ Gw := gw_c tin_6 109 rfl rfl
theorem mw_1310 : (Jvm.Cond.code ({ cls := "UnaskedName$Siege", name := "oneMore", desc := "(I)I" } : Jvm.MethodName) prog_8_method_11_code (1 : Nat) (Option.some Jvm.ClassFile.FieldType.int)) ∈ Gw := gw_c tin_6 110 rfl rfl
theorem mw_1311 : (Jvm.Cond.methodLink "UnaskedName$Siege" (89 : Nat) ({ cls := "java/lang/Math", name := "min", desc := "(II)I" } : Jvm.MethodName)) ∈ Gw := gw_c tin_6 111 rfl rfl
theorem mw_1312 : (Jvm.Cond.methodLink "UnaskedName$Siege" (67 : Nat) ({ cls := "UnaskedName$Siege", name := "isEnemyNear", desc := "(LUnaskedName$World;I)Z" } : Jvm.MethodName)) ∈ Gw := gw_c tin_6 112 rfl rfl
theorem mw_1313 : (Jvm.Cond.static ({ cls := "UnaskedName$Siege", name := "isEnemyNear", desc := "(LUnaskedName$World;I)Z" } : Jvm.MethodName)) ∈ Gw := gw_c tin_6 113 rfl rfl
theorem mw_1314 : (Jvm.Cond.code ({ cls := "UnaskedName$Siege", name := "isEnemyNear", desc := "(LUnaskedName$World;I)Z" } : Jvm.MethodName) prog_8_method_10_code (2 : Nat) (Option.some Jvm.ClassFile.FieldType.boolean)) ∈ Gw := gw_c tin_6 114 rfl rfl
theorem mw_1317 : (Jvm.Cond.methodLink "UnaskedName$Siege" (71 : Nat) ({ cls := "UnaskedName$Siege", name := "fewestWith", desc := "(LUnaskedName$World;IIII)I" } : Jvm.MethodName)) ∈ Gw := gw_c tin_6 117 rfl rfl
theorem mw_1319 : (Jvm.Cond.instanceMethod ({ cls := "UnaskedName$Siege", name := "fewestWith", desc := "(LUnaskedName$World;IIII)I" } : Jvm.MethodName)) ∈ Gw := gw_c tin_6 119 rfl rfl
theorem mw_1320 : (Jvm.Cond.code ({ cls := "UnaskedName$Siege", name := "fewestWith", desc := "(LUnaskedName$World;IIII)I" } : Jvm.MethodName) prog_8_method_7_code (7 : Nat) (Option.some Jvm.ClassFile.FieldType.int)) ∈ Gw := gw_c tin_6 120 rfl rfl
theorem mw_1321 : (Jvm.Cond.methodLink "UnaskedName$Siege" (95 : Nat) ({ cls := "UnaskedName$World", name := "stingOf", desc := "(LUnaskedName$Mind;II)I" } : Jvm.MethodName)) ∈ Gw := gw_c tin_6 121 rfl rfl
theorem mw_1322 : (Jvm.Cond.methodLink "UnaskedNameLaw" (203 : Nat) ({ cls := "UnaskedNameLaw", name := "plan", desc := "(LUnaskedName;I[J)I" } : Jvm.MethodName)) ∈ Gw := gw_c tin_6 122 rfl rfl
theorem mw_1323 : (Jvm.Cond.static ({ cls := "UnaskedNameLaw", name := "plan", desc := "(LUnaskedName;I[J)I" } : Jvm.MethodName)) ∈ Gw := gw_c tin_6 123 rfl rfl
theorem mw_1325 : (Jvm.Cond.methodLink "UnaskedNameLaw" (79 : Nat) ({ cls := "UnaskedName", name := "plan", desc := "(I)I" } : Jvm.MethodName)) ∈ Gw := gw_c tin_6 125 rfl rfl
theorem mw_1326 : (Jvm.Cond.instanceMethod ({ cls := "UnaskedName", name := "plan", desc := "(I)I" } : Jvm.MethodName)) ∈ Gw := gw_c tin_6 126 rfl rfl
theorem mw_1327 : (Jvm.Cond.selects "UnaskedName" ({ cls := "UnaskedName", name := "plan", desc := "(I)I" } : Jvm.MethodName) ({ cls := "UnaskedName", name := "plan", desc := "(I)I" } : Jvm.MethodName)) ∈ Gw := gw_c tin_6 127 rfl rfl
theorem mw_1328 : (Jvm.Cond.code ({ cls := "UnaskedName", name := "plan", desc := "(I)I" } : Jvm.MethodName) prog_1_method_30_code (2 : Nat) (Option.some Jvm.ClassFile.FieldType.int)) ∈ Gw := gw_c tin_6 128 rfl rfl
theorem mw_1329 : (Jvm.Cond.methodLink "UnaskedName" (300 : Nat) ({ cls := "UnaskedName$Siege", name := "opening", desc := "(LUnaskedName$World;I)I" } : Jvm.MethodName)) ∈ Gw := gw_c tin_6 129 rfl rfl
theorem mw_1330 : (Jvm.Cond.instanceMethod ({ cls := "UnaskedName$Siege", name := "opening", desc := "(LUnaskedName$World;I)I" } : Jvm.MethodName)) ∈ Gw := gw_c tin_6 130 rfl rfl
theorem mw_1331 : (Jvm.Cond.selects "UnaskedName$Siege" ({ cls := "UnaskedName$Siege", name := "opening", desc := "(LUnaskedName$World;I)I" } : Jvm.MethodName) ({ cls := "UnaskedName$Siege", name := "opening", desc := "(LUnaskedName$World;I)I" } : Jvm.MethodName)) ∈ Gw := gw_c tin_6 131 rfl rfl
theorem mw_1332 : (Jvm.Cond.code ({ cls := "UnaskedName$Siege", name := "opening", desc := "(LUnaskedName$World;I)I" } : Jvm.MethodName) prog_8_method_3_code (7 : Nat) (Option.some Jvm.ClassFile.FieldType.int)) ∈ Gw := gw_c tin_6 132 rfl rfl
theorem mw_1333 : (Jvm.Cond.methodLink "UnaskedNameLaw" (206 : Nat) ({ cls := "UnaskedNameLaw", name := "keeps", desc := "(LUnaskedName;II[J)I" } : Jvm.MethodName)) ∈ Gw := gw_c tin_6 133 rfl rfl
theorem mw_1334 : (Jvm.Cond.static ({ cls := "UnaskedNameLaw", name := "keeps", desc := "(LUnaskedName;II[J)I" } : Jvm.MethodName)) ∈ Gw := gw_c tin_6 134 rfl rfl
theorem mw_1336 : (Jvm.Cond.methodLink "UnaskedNameLaw" (82 : Nat) ({ cls := "UnaskedName", name := "keeps", desc := "(II)I" } : Jvm.MethodName)) ∈ Gw := gw_c tin_6 136 rfl rfl
theorem mw_1337 : (Jvm.Cond.instanceMethod ({ cls := "UnaskedName", name := "keeps", desc := "(II)I" } : Jvm.MethodName)) ∈ Gw := gw_c tin_6 137 rfl rfl
theorem mw_1338 : (Jvm.Cond.selects "UnaskedName" ({ cls := "UnaskedName", name := "keeps", desc := "(II)I" } : Jvm.MethodName) ({ cls := "UnaskedName", name := "keeps", desc := "(II)I" } : Jvm.MethodName)) ∈ Gw := gw_c tin_6 138 rfl rfl
theorem mw_1339 : (Jvm.Cond.code ({ cls := "UnaskedName", name := "keeps", desc := "(II)I" } : Jvm.MethodName) prog_1_method_31_code (3 : Nat) (Option.some Jvm.ClassFile.FieldType.int)) ∈ Gw := gw_c tin_6 139 rfl rfl
theorem mw_1340 : (Jvm.Cond.methodLink "UnaskedName" (303 : Nat) ({ cls := "UnaskedName$Siege", name := "bestDefence", desc := "(LUnaskedName$World;II)I" } : Jvm.MethodName)) ∈ Gw := gw_c tin_6 140 rfl rfl
theorem mw_1341 : (Jvm.Cond.instanceMethod ({ cls := "UnaskedName$Siege", name := "bestDefence", desc := "(LUnaskedName$World;II)I" } : Jvm.MethodName)) ∈ Gw := gw_c tin_6 141 rfl rfl
theorem mw_1342 : (Jvm.Cond.selects "UnaskedName$Siege" ({ cls := "UnaskedName$Siege", name := "bestDefence", desc := "(LUnaskedName$World;II)I" } : Jvm.MethodName) ({ cls := "UnaskedName$Siege", name := "bestDefence", desc := "(LUnaskedName$World;II)I" } : Jvm.MethodName)) ∈ Gw := gw_c tin_6 142 rfl rfl
theorem mw_1343 : (Jvm.Cond.code ({ cls := "UnaskedName$Siege", name := "bestDefence", desc := "(LUnaskedName$World;II)I" } : Jvm.MethodName) prog_8_method_4_code (8 : Nat) (Option.some Jvm.ClassFile.FieldType.int)) ∈ Gw := gw_c tin_6 143 rfl rfl
theorem mw_1344 : (Jvm.Cond.methodLink "UnaskedNameLaw" (209 : Nat) ({ cls := "UnaskedNameLaw", name := "fewest", desc := "(LUnaskedName;I[J)I" } : Jvm.MethodName)) ∈ Gw := gw_c tin_6 144 rfl rfl
theorem mw_1345 : (Jvm.Cond.static ({ cls := "UnaskedNameLaw", name := "fewest", desc := "(LUnaskedName;I[J)I" } : Jvm.MethodName)) ∈ Gw := gw_c tin_6 145 rfl rfl
theorem mw_1347 : (Jvm.Cond.methodLink "UnaskedNameLaw" (85 : Nat) ({ cls := "UnaskedName", name := "fewest", desc := "(I)I" } : Jvm.MethodName)) ∈ Gw := gw_c tin_6 147 rfl rfl
theorem mw_1348 : (Jvm.Cond.instanceMethod ({ cls := "UnaskedName", name := "fewest", desc := "(I)I" } : Jvm.MethodName)) ∈ Gw := gw_c tin_6 148 rfl rfl
theorem mw_1349 : (Jvm.Cond.selects "UnaskedName" ({ cls := "UnaskedName", name := "fewest", desc := "(I)I" } : Jvm.MethodName) ({ cls := "UnaskedName", name := "fewest", desc := "(I)I" } : Jvm.MethodName)) ∈ Gw := gw_c tin_6 149 rfl rfl
theorem mw_1350 : (Jvm.Cond.code ({ cls := "UnaskedName", name := "fewest", desc := "(I)I" } : Jvm.MethodName) prog_1_method_32_code (2 : Nat) (Option.some Jvm.ClassFile.FieldType.int)) ∈ Gw := gw_c tin_6 150 rfl rfl
theorem mw_1351 : (Jvm.Cond.methodLink "UnaskedName" (307 : Nat) ({ cls := "UnaskedName$Rows", name := "shortest", desc := "(LUnaskedName$World;I)I" } : Jvm.MethodName)) ∈ Gw := gw_c tin_6 151 rfl rfl
theorem mw_1352 : (Jvm.Cond.instanceMethod ({ cls := "UnaskedName$Rows", name := "shortest", desc := "(LUnaskedName$World;I)I" } : Jvm.MethodName)) ∈ Gw := gw_c tin_6 152 rfl rfl
theorem mw_1353 : (Jvm.Cond.selects "UnaskedName$Rows" ({ cls := "UnaskedName$Rows", name := "shortest", desc := "(LUnaskedName$World;I)I" } : Jvm.MethodName) ({ cls := "UnaskedName$Rows", name := "shortest", desc := "(LUnaskedName$World;I)I" } : Jvm.MethodName)) ∈ Gw := gw_c tin_6 153 rfl rfl
theorem mw_1354 : (Jvm.Cond.code ({ cls := "UnaskedName$Rows", name := "shortest", desc := "(LUnaskedName$World;I)I" } : Jvm.MethodName) prog_7_method_2_code (4 : Nat) (Option.some Jvm.ClassFile.FieldType.int)) ∈ Gw := gw_c tin_6 154 rfl rfl
theorem mw_1355 : (Jvm.Cond.methodLink "UnaskedName$Rows" (33 : Nat) ({ cls := "UnaskedName$Rows", name := "open", desc := "(LUnaskedName$Mind;)V" } : Jvm.MethodName)) ∈ Gw := gw_c tin_6 155 rfl rfl
theorem mw_1357 : (Jvm.Cond.instanceMethod ({ cls := "UnaskedName$Rows", name := "open", desc := "(LUnaskedName$Mind;)V" } : Jvm.MethodName)) ∈ Gw := gw_c tin_6 157 rfl rfl
theorem mw_1358 : (Jvm.Cond.code ({ cls := "UnaskedName$Rows", name := "open", desc := "(LUnaskedName$Mind;)V" } : Jvm.MethodName) prog_7_method_3_code (3 : Nat) (Option.none : Option Jvm.ClassFile.FieldType)) ∈ Gw := gw_c tin_6 158 rfl rfl
theorem mw_1359 : (Jvm.Cond.methodLink "UnaskedName$Rows" (47 : Nat) ({ cls := "UnaskedName$Mind", name := "copyThoughtFrom", desc := "(LUnaskedName$Mind;)V" } : Jvm.MethodName)) ∈ Gw := gw_c tin_6 159 rfl rfl
theorem mw_1360 : (Jvm.Cond.methodLink "UnaskedName$Rows" (37 : Nat) ({ cls := "UnaskedName$Rows", name := "oneWordMore", desc := "(LUnaskedName$World;I)Z" } : Jvm.MethodName)) ∈ Gw := gw_c tin_6 160 rfl rfl
theorem mw_1362 : (Jvm.Cond.instanceMethod ({ cls := "UnaskedName$Rows", name := "oneWordMore", desc := "(LUnaskedName$World;I)Z" } : Jvm.MethodName)) ∈ Gw := gw_c tin_6 162 rfl rfl
theorem mw_1363 : (Jvm.Cond.code ({ cls := "UnaskedName$Rows", name := "oneWordMore", desc := "(LUnaskedName$World;I)Z" } : Jvm.MethodName) prog_7_method_4_code (7 : Nat) (Option.some Jvm.ClassFile.FieldType.boolean)) ∈ Gw := gw_c tin_6 163 rfl rfl
theorem mw_1364 : (Jvm.Cond.methodLink "UnaskedName$Rows" (54 : Nat) ({ cls := "UnaskedName$Rows", name := "asksFrom", desc := "(LUnaskedName$World;III)Z" } : Jvm.MethodName)) ∈ Gw := gw_c tin_6 164 rfl rfl
theorem mw_1366 : (Jvm.Cond.instanceMethod ({ cls := "UnaskedName$Rows", name := "asksFrom", desc := "(LUnaskedName$World;III)Z" } : Jvm.MethodName)) ∈ Gw := gw_c tin_6 166 rfl rfl
theorem mw_1367 : (Jvm.Cond.code ({ cls := "UnaskedName$Rows", name := "asksFrom", desc := "(LUnaskedName$World;III)Z" } : Jvm.MethodName) prog_7_method_5_code (7 : Nat) (Option.some Jvm.ClassFile.FieldType.boolean)) ∈ Gw := gw_c tin_6 167 rfl rfl
theorem mw_1368 : (Jvm.Cond.methodLink "UnaskedName$Rows" (68 : Nat) ({ cls := "UnaskedName$Tale", name := "narrowedByAll", desc := "(III)I" } : Jvm.MethodName)) ∈ Gw := gw_c tin_6 168 rfl rfl
theorem mw_1369 : (Jvm.Cond.methodLink "UnaskedName$Rows" (77 : Nat) ({ cls := "UnaskedName$World", name := "stingOf", desc := "(LUnaskedName$Mind;II)I" } : Jvm.MethodName)) ∈ Gw := gw_c tin_6 169 rfl rfl
theorem mw_1370 : (Jvm.Cond.methodLink "UnaskedName$Rows" (81 : Nat) ({ cls := "java/lang/Math", name := "min", desc := "(II)I" } : Jvm.MethodName)) ∈ Gw := gw_c tin_6 170 rfl rfl
theorem mw_1371 : (Jvm.Cond.methodLink "UnaskedName$Rows" (90 : Nat) ({ cls := "UnaskedName$Rows", name := "toldWith", desc := "(LUnaskedName$World;II)I" } : Jvm.MethodName)) ∈ Gw := gw_c tin_6 171 rfl rfl
theorem mw_1373 : (Jvm.Cond.instanceMethod ({ cls := "UnaskedName$Rows", name := "toldWith", desc := "(LUnaskedName$World;II)I" } : Jvm.MethodName)) ∈ Gw := gw_c tin_6 173 rfl rfl
theorem mw_1374 : (Jvm.Cond.code ({ cls := "UnaskedName$Rows", name := "toldWith", desc := "(LUnaskedName$World;II)I" } : Jvm.MethodName) prog_7_method_6_code (6 : Nat) (Option.some Jvm.ClassFile.FieldType.int)) ∈ Gw := gw_c tin_6 174 rfl rfl
theorem mw_1376 : (Jvm.Cond.methodLink "UnaskedName$Rows" (106 : Nat) ({ cls := "UnaskedName$Tale", name := "narrowed", desc := "(III)I" } : Jvm.MethodName)) ∈ Gw := gw_c tin_6 176 rfl rfl
theorem mw_1377 : (Jvm.Cond.methodLink "UnaskedName$Rows" (94 : Nat) ({ cls := "UnaskedName$Rows", name := "reach", desc := "(II)V" } : Jvm.MethodName)) ∈ Gw := gw_c tin_6 177 rfl rfl
theorem mw_1379 : (Jvm.Cond.instanceMethod ({ cls := "UnaskedName$Rows", name := "reach", desc := "(II)V" } : Jvm.MethodName)) ∈ Gw := gw_c tin_6 179 rfl rfl
theorem mw_1380 : (Jvm.Cond.code ({ cls := "UnaskedName$Rows", name := "reach", desc := "(II)V" } : Jvm.MethodName) prog_7_method_7_code (3 : Nat) (Option.none : Option Jvm.ClassFile.FieldType)) ∈ Gw := gw_c tin_6 180 rfl rfl
theorem mw_1381 : (Jvm.Cond.methodLink "UnaskedName$Rows" (41 : Nat) ({ cls := "java/lang/System", name := "arraycopy", desc := "(Ljava/lang/Object;ILjava/lang/Object;II)V" } : Jvm.MethodName)) ∈ Gw := gw_c tin_6 181 rfl rfl
theorem mw_1382 : (Jvm.Cond.methodLink "UnaskedNameLaw" (212 : Nat) ({ cls := "UnaskedNameLaw", name := "silence", desc := "(LUnaskedName;I[J)I" } : Jvm.MethodName)) ∈ Gw := gw_c tin_6 182 rfl rfl
theorem mw_1383 : (Jvm.Cond.static ({ cls := "UnaskedNameLaw", name := "silence", desc := "(LUnaskedName;I[J)I" } : Jvm.MethodName)) ∈ Gw := gw_c tin_6 183 rfl rfl
theorem mw_1385 : (Jvm.Cond.methodLink "UnaskedNameLaw" (88 : Nat) ({ cls := "UnaskedName", name := "silence", desc := "(I)I" } : Jvm.MethodName)) ∈ Gw := gw_c tin_6 185 rfl rfl
theorem mw_1386 : (Jvm.Cond.instanceMethod ({ cls := "UnaskedName", name := "silence", desc := "(I)I" } : Jvm.MethodName)) ∈ Gw := gw_c tin_6 186 rfl rfl
theorem mw_1387 : (Jvm.Cond.selects "UnaskedName" ({ cls := "UnaskedName", name := "silence", desc := "(I)I" } : Jvm.MethodName) ({ cls := "UnaskedName", name := "silence", desc := "(I)I" } : Jvm.MethodName)) ∈ Gw := gw_c tin_6 187 rfl rfl
theorem mw_1388 : (Jvm.Cond.code ({ cls := "UnaskedName", name := "silence", desc := "(I)I" } : Jvm.MethodName) prog_1_method_24_code (6 : Nat) (Option.some Jvm.ClassFile.FieldType.int)) ∈ Gw := gw_c tin_6 188 rfl rfl
theorem mw_1389 : (Jvm.Cond.methodLink "UnaskedName" (284 : Nat) ({ cls := "UnaskedName", name := "staysQuiet", desc := "(II)Z" } : Jvm.MethodName)) ∈ Gw := gw_c tin_6 189 rfl rfl
theorem mw_1391 : (Jvm.Cond.instanceMethod ({ cls := "UnaskedName", name := "staysQuiet", desc := "(II)Z" } : Jvm.MethodName)) ∈ Gw := gw_c tin_6 191 rfl rfl
theorem mw_1392 : (Jvm.Cond.code ({ cls := "UnaskedName", name := "staysQuiet", desc := "(II)Z" } : Jvm.MethodName) prog_1_method_25_code (4 : Nat) (Option.some Jvm.ClassFile.FieldType.boolean)) ∈ Gw := gw_c tin_6 192 rfl rfl
theorem mw_1393 : (Jvm.Cond.methodLink "UnaskedNameLaw" (235 : Nat) ({ cls := "UnaskedNameLaw", name := "belief", desc := "(LUnaskedName;I[J)I" } : Jvm.MethodName)) ∈ Gw := gw_c tin_6 193 rfl rfl
theorem mw_1394 : (Jvm.Cond.static ({ cls := "UnaskedNameLaw", name := "belief", desc := "(LUnaskedName;I[J)I" } : Jvm.MethodName)) ∈ Gw := gw_c tin_6 194 rfl rfl
theorem mw_1396 : (Jvm.Cond.methodLink "UnaskedNameLaw" (91 : Nat) ({ cls := "UnaskedName", name := "belief", desc := "(I)I" } : Jvm.MethodName)) ∈ Gw := gw_c tin_6 196 rfl rfl
theorem mw_1397 : (Jvm.Cond.instanceMethod ({ cls := "UnaskedName", name := "belief", desc := "(I)I" } : Jvm.MethodName)) ∈ Gw := gw_c tin_6 197 rfl rfl
theorem mw_1398 : (Jvm.Cond.selects "UnaskedName" ({ cls := "UnaskedName", name := "belief", desc := "(I)I" } : Jvm.MethodName) ({ cls := "UnaskedName", name := "belief", desc := "(I)I" } : Jvm.MethodName)) ∈ Gw := gw_c tin_6 198 rfl rfl
theorem mw_1399 : (Jvm.Cond.code ({ cls := "UnaskedName", name := "belief", desc := "(I)I" } : Jvm.MethodName) prog_1_method_42_code (2 : Nat) (Option.some Jvm.ClassFile.FieldType.int)) ∈ Gw := gw_c tin_6 199 rfl rfl
theorem mw_1400 : (Jvm.Cond.methodLink "UnaskedNameLaw" (242 : Nat) ({ cls := "UnaskedNameLaw", name := "duty", desc := "(LUnaskedName;I[J)I" } : Jvm.MethodName)) ∈ Gw := gw_c tin_6 200 rfl rfl
theorem mw_1401 : (Jvm.Cond.static ({ cls := "UnaskedNameLaw", name := "duty", desc := "(LUnaskedName;I[J)I" } : Jvm.MethodName)) ∈ Gw := gw_c tin_6 201 rfl rfl
theorem mw_1403 : (Jvm.Cond.methodLink "UnaskedNameLaw" (94 : Nat) ({ cls := "UnaskedName", name := "duty", desc := "(I)I" } : Jvm.MethodName)) ∈ Gw := gw_c tin_6 203 rfl rfl
theorem mw_1404 : (Jvm.Cond.instanceMethod ({ cls := "UnaskedName", name := "duty", desc := "(I)I" } : Jvm.MethodName)) ∈ Gw := gw_c tin_6 204 rfl rfl
theorem mw_1405 : (Jvm.Cond.selects "UnaskedName" ({ cls := "UnaskedName", name := "duty", desc := "(I)I" } : Jvm.MethodName) ({ cls := "UnaskedName", name := "duty", desc := "(I)I" } : Jvm.MethodName)) ∈ Gw := gw_c tin_6 205 rfl rfl
theorem mw_1406 : (Jvm.Cond.code ({ cls := "UnaskedName", name := "duty", desc := "(I)I" } : Jvm.MethodName) prog_1_method_47_code (2 : Nat) (Option.some Jvm.ClassFile.FieldType.int)) ∈ Gw := gw_c tin_6 206 rfl rfl
theorem mw_1408 : (Jvm.Cond.methodLink "UnaskedNameLaw" (269 : Nat) ({ cls := "UnaskedNameLaw", name := "cheapest", desc := "(LUnaskedName;IZ[J)I" } : Jvm.MethodName)) ∈ Gw := gw_c tin_6 208 rfl rfl
theorem mw_1409 : (Jvm.Cond.static ({ cls := "UnaskedNameLaw", name := "cheapest", desc := "(LUnaskedName;IZ[J)I" } : Jvm.MethodName)) ∈ Gw := gw_c tin_6 209 rfl rfl
theorem mw_1411 : (Jvm.Cond.methodLink "UnaskedNameLaw" (97 : Nat) ({ cls := "UnaskedName", name := "cheapest", desc := "(IZ)I" } : Jvm.MethodName)) ∈ Gw := gw_c tin_6 211 rfl rfl
theorem mw_1412 : (Jvm.Cond.instanceMethod ({ cls := "UnaskedName", name := "cheapest", desc := "(IZ)I" } : Jvm.MethodName)) ∈ Gw := gw_c tin_6 212 rfl rfl
theorem mw_1413 : (Jvm.Cond.selects "UnaskedName" ({ cls := "UnaskedName", name := "cheapest", desc := "(IZ)I" } : Jvm.MethodName) ({ cls := "UnaskedName", name := "cheapest", desc := "(IZ)I" } : Jvm.MethodName)) ∈ Gw := gw_c tin_6 213 rfl rfl
theorem mw_1414 : (Jvm.Cond.code ({ cls := "UnaskedName", name := "cheapest", desc := "(IZ)I" } : Jvm.MethodName) prog_1_method_35_code (7 : Nat) (Option.some Jvm.ClassFile.FieldType.int)) ∈ Gw := gw_c tin_6 214 rfl rfl
theorem mw_1415 : (Jvm.Cond.methodLink "UnaskedName" (325 : Nat) ({ cls := "UnaskedName$Tale", name := "costsOf", desc := "(I)I" } : Jvm.MethodName)) ∈ Gw := gw_c tin_6 215 rfl rfl
theorem mw_1416 : (Jvm.Cond.instanceMethod ({ cls := "UnaskedName$Tale", name := "costsOf", desc := "(I)I" } : Jvm.MethodName)) ∈ Gw := gw_c tin_6 216 rfl rfl
theorem mw_1417 : (Jvm.Cond.selects "UnaskedName$Tale" ({ cls := "UnaskedName$Tale", name := "costsOf", desc := "(I)I" } : Jvm.MethodName) ({ cls := "UnaskedName$Tale", name := "costsOf", desc := "(I)I" } : Jvm.MethodName)) ∈ Gw := gw_c tin_6 217 rfl rfl
theorem mw_1418 : (Jvm.Cond.code ({ cls := "UnaskedName$Tale", name := "costsOf", desc := "(I)I" } : Jvm.MethodName) prog_10_method_16_code (4 : Nat) (Option.some Jvm.ClassFile.FieldType.int)) ∈ Gw := gw_c tin_6 218 rfl rfl
theorem mw_1419 : (Jvm.Cond.methodLink "UnaskedName" (328 : Nat) ({ cls := "UnaskedName", name := "doubtBehind", desc := "(I)I" } : Jvm.MethodName)) ∈ Gw := gw_c tin_6 219 rfl rfl
theorem mw_1421 : (Jvm.Cond.instanceMethod ({ cls := "UnaskedName", name := "doubtBehind", desc := "(I)I" } : Jvm.MethodName)) ∈ Gw := gw_c tin_6 221 rfl rfl
theorem mw_1422 : (Jvm.Cond.code ({ cls := "UnaskedName", name := "doubtBehind", desc := "(I)I" } : Jvm.MethodName) prog_1_method_36_code (3 : Nat) (Option.some Jvm.ClassFile.FieldType.int)) ∈ Gw := gw_c tin_6 222 rfl rfl
theorem mw_1423 : (Jvm.Cond.methodLink "UnaskedNameLaw" (272 : Nat) ({ cls := "UnaskedNameLaw", name := "sharpest", desc := "(LUnaskedName;I[J)I" } : Jvm.MethodName)) ∈ Gw := gw_c tin_6 223 rfl rfl
theorem mw_1424 : (Jvm.Cond.static ({ cls := "UnaskedNameLaw", name := "sharpest", desc := "(LUnaskedName;I[J)I" } : Jvm.MethodName)) ∈ Gw := gw_c tin_6 224 rfl rfl
theorem mw_1426 : (Jvm.Cond.methodLink "UnaskedNameLaw" (100 : Nat) ({ cls := "UnaskedName", name := "sharpest", desc := "(I)I" } : Jvm.MethodName)) ∈ Gw := gw_c tin_6 226 rfl rfl
theorem mw_1427 : (Jvm.Cond.instanceMethod ({ cls := "UnaskedName", name := "sharpest", desc := "(I)I" } : Jvm.MethodName)) ∈ Gw := gw_c tin_6 227 rfl rfl
theorem mw_1428 : (Jvm.Cond.selects "UnaskedName" ({ cls := "UnaskedName", name := "sharpest", desc := "(I)I" } : Jvm.MethodName) ({ cls := "UnaskedName", name := "sharpest", desc := "(I)I" } : Jvm.MethodName)) ∈ Gw := gw_c tin_6 228 rfl rfl
theorem mw_1429 : (Jvm.Cond.code ({ cls := "UnaskedName", name := "sharpest", desc := "(I)I" } : Jvm.MethodName) prog_1_method_34_code (6 : Nat) (Option.some Jvm.ClassFile.FieldType.int)) ∈ Gw := gw_c tin_6 229 rfl rfl
theorem mw_1430 : (Jvm.Cond.methodLink "UnaskedNameLaw" (279 : Nat) ({ cls := "UnaskedNameLaw", name := "similar", desc := "(LUnaskedName;II[J)I" } : Jvm.MethodName)) ∈ Gw := gw_c tin_6 230 rfl rfl
theorem mw_1431 : (Jvm.Cond.static ({ cls := "UnaskedNameLaw", name := "similar", desc := "(LUnaskedName;II[J)I" } : Jvm.MethodName)) ∈ Gw := gw_c tin_6 231 rfl rfl
theorem mw_1433 : (Jvm.Cond.methodLink "UnaskedNameLaw" (103 : Nat) ({ cls := "UnaskedName", name := "similar", desc := "(II)I" } : Jvm.MethodName)) ∈ Gw := gw_c tin_6 233 rfl rfl
theorem mw_1434 : (Jvm.Cond.instanceMethod ({ cls := "UnaskedName", name := "similar", desc := "(II)I" } : Jvm.MethodName)) ∈ Gw := gw_c tin_6 234 rfl rfl
theorem mw_1435 : (Jvm.Cond.selects "UnaskedName" ({ cls := "UnaskedName", name := "similar", desc := "(II)I" } : Jvm.MethodName) ({ cls := "UnaskedName", name := "similar", desc := "(II)I" } : Jvm.MethodName)) ∈ Gw := gw_c tin_6 235 rfl rfl
theorem mw_1436 : (Jvm.Cond.code ({ cls := "UnaskedName", name := "similar", desc := "(II)I" } : Jvm.MethodName) prog_1_method_46_code (5 : Nat) (Option.some Jvm.ClassFile.FieldType.int)) ∈ Gw := gw_c tin_6 236 rfl rfl
theorem mw_1437 : (Jvm.Cond.methodLink "UnaskedNameLaw" (282 : Nat) ({ cls := "UnaskedNameLaw", name := "learnt", desc := "(LUnaskedName;I[J)I" } : Jvm.MethodName)) ∈ Gw := gw_c tin_6 237 rfl rfl
theorem mw_1438 : (Jvm.Cond.static ({ cls := "UnaskedNameLaw", name := "learnt", desc := "(LUnaskedName;I[J)I" } : Jvm.MethodName)) ∈ Gw := gw_c tin_6 238 rfl rfl
theorem mw_1440 : (Jvm.Cond.methodLink "UnaskedNameLaw" (106 : Nat) ({ cls := "UnaskedName", name := "learnt", desc := "(I)I" } : Jvm.MethodName)) ∈ Gw := gw_c tin_7 0 rfl rfl
theorem mw_1441 : (Jvm.Cond.instanceMethod ({ cls := "UnaskedName", name := "learnt", desc := "(I)I" } : Jvm.MethodName)) ∈ Gw := gw_c tin_7 1 rfl rfl
theorem mw_1442 : (Jvm.Cond.selects "UnaskedName" ({ cls := "UnaskedName", name := "learnt", desc := "(I)I" } : Jvm.MethodName) ({ cls := "UnaskedName", name := "learnt", desc := "(I)I" } : Jvm.MethodName)) ∈ Gw := gw_c tin_7 2 rfl rfl
theorem mw_1443 : (Jvm.Cond.code ({ cls := "UnaskedName", name := "learnt", desc := "(I)I" } : Jvm.MethodName) prog_1_method_23_code (3 : Nat) (Option.some Jvm.ClassFile.FieldType.int)) ∈ Gw := gw_c tin_7 3 rfl rfl
theorem mw_1444 : (Jvm.Cond.methodLink "UnaskedNameLaw" (285 : Nat) ({ cls := "UnaskedNameLaw", name := "trial", desc := "(LUnaskedName;IZ[J)I" } : Jvm.MethodName)) ∈ Gw := gw_c tin_7 4 rfl rfl
theorem mw_1445 : (Jvm.Cond.static ({ cls := "UnaskedNameLaw", name := "trial", desc := "(LUnaskedName;IZ[J)I" } : Jvm.MethodName)) ∈ Gw := gw_c tin_7 5 rfl rfl
theorem mw_1447 : (Jvm.Cond.methodLink "UnaskedNameLaw" (109 : Nat) ({ cls := "UnaskedName", name := "trial", desc := "(IZ)I" } : Jvm.MethodName)) ∈ Gw := gw_c tin_7 7 rfl rfl
theorem mw_1448 : (Jvm.Cond.instanceMethod ({ cls := "UnaskedName", name := "trial", desc := "(IZ)I" } : Jvm.MethodName)) ∈ Gw := gw_c tin_7 8 rfl rfl
theorem mw_1449 : (Jvm.Cond.selects "UnaskedName" ({ cls := "UnaskedName", name := "trial", desc := "(IZ)I" } : Jvm.MethodName) ({ cls := "UnaskedName", name := "trial", desc := "(IZ)I" } : Jvm.MethodName)) ∈ Gw := gw_c tin_7 9 rfl rfl
theorem mw_1450 : (Jvm.Cond.code ({ cls := "UnaskedName", name := "trial", desc := "(IZ)I" } : Jvm.MethodName) prog_1_method_26_code (3 : Nat) (Option.some Jvm.ClassFile.FieldType.int)) ∈ Gw := gw_c tin_7 10 rfl rfl
theorem mw_1451 : (Jvm.Cond.methodLink "UnaskedName" (290 : Nat) ({ cls := "UnaskedName", name := "tryNights", desc := "(II)V" } : Jvm.MethodName)) ∈ Gw := gw_c tin_7 11 rfl rfl
theorem mw_1453 : (Jvm.Cond.instanceMethod ({ cls := "UnaskedName", name := "tryNights", desc := "(II)V" } : Jvm.MethodName)) ∈ Gw := gw_c tin_7 13 rfl rfl
theorem mw_1454 : (Jvm.Cond.code ({ cls := "UnaskedName", name := "tryNights", desc := "(II)V" } : Jvm.MethodName) prog_1_method_28_code (4 : Nat) (Option.none : Option Jvm.ClassFile.FieldType)) ∈ Gw := gw_c tin_7 14 rfl rfl
theorem mw_1455 : (Jvm.Cond.methodLink "UnaskedNameLaw" (288 : Nat) ({ cls := "UnaskedNameLaw", name := "span", desc := "(LUnaskedName;I[J)I" } : Jvm.MethodName)) ∈ Gw := gw_c tin_7 15 rfl rfl
theorem mw_1456 : (Jvm.Cond.static ({ cls := "UnaskedNameLaw", name := "span", desc := "(LUnaskedName;I[J)I" } : Jvm.MethodName)) ∈ Gw := gw_c tin_7 16 rfl rfl
theorem mw_1458 : (Jvm.Cond.methodLink "UnaskedNameLaw" (112 : Nat) ({ cls := "UnaskedName", name := "span", desc := "(I)I" } : Jvm.MethodName)) ∈ Gw := gw_c tin_7 18 rfl rfl
theorem mw_1459 : (Jvm.Cond.instanceMethod ({ cls := "UnaskedName", name := "span", desc := "(I)I" } : Jvm.MethodName)) ∈ Gw := gw_c tin_7 19 rfl rfl
theorem mw_1460 : (Jvm.Cond.selects "UnaskedName" ({ cls := "UnaskedName", name := "span", desc := "(I)I" } : Jvm.MethodName) ({ cls := "UnaskedName", name := "span", desc := "(I)I" } : Jvm.MethodName)) ∈ Gw := gw_c tin_7 20 rfl rfl
theorem mw_1461 : (Jvm.Cond.code ({ cls := "UnaskedName", name := "span", desc := "(I)I" } : Jvm.MethodName) prog_1_method_27_code (4 : Nat) (Option.some Jvm.ClassFile.FieldType.int)) ∈ Gw := gw_c tin_7 21 rfl rfl
theorem mw_1462 : (Jvm.Cond.methodLink "UnaskedNameLaw" (291 : Nat) ({ cls := "UnaskedNameLaw", name := "led", desc := "(LUnaskedName;II[J)I" } : Jvm.MethodName)) ∈ Gw := gw_c tin_7 22 rfl rfl
theorem mw_1463 : (Jvm.Cond.static ({ cls := "UnaskedNameLaw", name := "led", desc := "(LUnaskedName;II[J)I" } : Jvm.MethodName)) ∈ Gw := gw_c tin_7 23 rfl rfl
theorem mw_1465 : (Jvm.Cond.methodLink "UnaskedNameLaw" (115 : Nat) ({ cls := "UnaskedName", name := "led", desc := "(II)I" } : Jvm.MethodName)) ∈ Gw := gw_c tin_7 25 rfl rfl
theorem mw_1466 : (Jvm.Cond.instanceMethod ({ cls := "UnaskedName", name := "led", desc := "(II)I" } : Jvm.MethodName)) ∈ Gw := gw_c tin_7 26 rfl rfl
theorem mw_1467 : (Jvm.Cond.selects "UnaskedName" ({ cls := "UnaskedName", name := "led", desc := "(II)I" } : Jvm.MethodName) ({ cls := "UnaskedName", name := "led", desc := "(II)I" } : Jvm.MethodName)) ∈ Gw := gw_c tin_7 27 rfl rfl
theorem mw_1468 : (Jvm.Cond.code ({ cls := "UnaskedName", name := "led", desc := "(II)I" } : Jvm.MethodName) prog_1_method_53_code (3 : Nat) (Option.some Jvm.ClassFile.FieldType.int)) ∈ Gw := gw_c tin_7 28 rfl rfl
theorem mw_1469 : (Jvm.Cond.methodLink "UnaskedName" (378 : Nat) ({ cls := "UnaskedName$Log", name := "rowsOf", desc := "(II)I" } : Jvm.MethodName)) ∈ Gw := gw_c tin_7 29 rfl rfl
theorem mw_1470 : (Jvm.Cond.instanceMethod ({ cls := "UnaskedName$Log", name := "rowsOf", desc := "(II)I" } : Jvm.MethodName)) ∈ Gw := gw_c tin_7 30 rfl rfl
theorem mw_1471 : (Jvm.Cond.selects "UnaskedName$Log" ({ cls := "UnaskedName$Log", name := "rowsOf", desc := "(II)I" } : Jvm.MethodName) ({ cls := "UnaskedName$Log", name := "rowsOf", desc := "(II)I" } : Jvm.MethodName)) ∈ Gw := gw_c tin_7 31 rfl rfl
theorem mw_1472 : (Jvm.Cond.code ({ cls := "UnaskedName$Log", name := "rowsOf", desc := "(II)I" } : Jvm.MethodName) prog_4_method_7_code (6 : Nat) (Option.some Jvm.ClassFile.FieldType.int)) ∈ Gw := gw_c tin_7 32 rfl rfl
theorem mw_1473 : (Jvm.Cond.methodLink "UnaskedNameLaw" (294 : Nat) ({ cls := "UnaskedNameLaw", name := "log", desc := "(LUnaskedName;II[J)I" } : Jvm.MethodName)) ∈ Gw := gw_c tin_7 33 rfl rfl
theorem mw_1474 : (Jvm.Cond.static ({ cls := "UnaskedNameLaw", name := "log", desc := "(LUnaskedName;II[J)I" } : Jvm.MethodName)) ∈ Gw := gw_c tin_7 34 rfl rfl
theorem mw_1476 : (Jvm.Cond.methodLink "UnaskedNameLaw" (118 : Nat) ({ cls := "UnaskedName", name := "log", desc := "(II)I" } : Jvm.MethodName)) ∈ Gw := gw_c tin_7 36 rfl rfl
theorem mw_1477 : (Jvm.Cond.instanceMethod ({ cls := "UnaskedName", name := "log", desc := "(II)I" } : Jvm.MethodName)) ∈ Gw := gw_c tin_7 37 rfl rfl
theorem mw_1478 : (Jvm.Cond.selects "UnaskedName" ({ cls := "UnaskedName", name := "log", desc := "(II)I" } : Jvm.MethodName) ({ cls := "UnaskedName", name := "log", desc := "(II)I" } : Jvm.MethodName)) ∈ Gw := gw_c tin_7 38 rfl rfl
theorem mw_1479 : (Jvm.Cond.code ({ cls := "UnaskedName", name := "log", desc := "(II)I" } : Jvm.MethodName) prog_1_method_54_code (3 : Nat) (Option.some Jvm.ClassFile.FieldType.int)) ∈ Gw := gw_c tin_7 39 rfl rfl
theorem mw_1481 : (Jvm.Cond.methodLink "UnaskedName" (383 : Nat) ({ cls := "UnaskedName$Log", name := "part", desc := "(II)I" } : Jvm.MethodName)) ∈ Gw := gw_c tin_7 41 rfl rfl
theorem mw_1482 : (Jvm.Cond.methodLink "UnaskedNameLaw" (141 : Nat) ({ cls := "UnaskedNameModel", name := "thrown", desc := "()I" } : Jvm.MethodName)) ∈ Gw := gw_c tin_7 42 rfl rfl
theorem mw_1483 : (Jvm.Cond.instanceMethod ({ cls := "UnaskedNameModel", name := "thrown", desc := "()I" } : Jvm.MethodName)) ∈ Gw := gw_c tin_7 43 rfl rfl
theorem mw_1484 : (Jvm.Cond.selects "UnaskedNameModel" ({ cls := "UnaskedNameModel", name := "thrown", desc := "()I" } : Jvm.MethodName) ({ cls := "UnaskedNameModel", name := "thrown", desc := "()I" } : Jvm.MethodName)) ∈ Gw := gw_c tin_7 44 rfl rfl
theorem mw_1485 : (Jvm.Cond.code ({ cls := "UnaskedNameModel", name := "thrown", desc := "()I" } : Jvm.MethodName) prog_14_method_1_code (1 : Nat) (Option.some Jvm.ClassFile.FieldType.int)) ∈ Gw := gw_c tin_7 45 rfl rfl
theorem mw_1486 : (Jvm.Cond.classLink "UnaskedNameLaw" (122 : Nat) "UnaskedNameModel") ∈ Gw := gw_c tin_7 46 rfl rfl
theorem mw_1487 : (Jvm.Cond.instantiable "UnaskedNameModel" (29 : Nat)) ∈ Gw := gw_c tin_7 47 rfl rfl
theorem mw_1488 : (Jvm.Cond.methodLink "UnaskedNameLaw" (124 : Nat) ({ cls := "UnaskedNameModel", name := "<init>", desc := "()V" } : Jvm.MethodName)) ∈ Gw := gw_c tin_7 48 rfl rfl
theorem mw_1489 : (Jvm.Cond.instanceMethod ({ cls := "UnaskedNameModel", name := "<init>", desc := "()V" } : Jvm.MethodName)) ∈ Gw := gw_c tin_7 49 rfl rfl
theorem mw_1490 : (Jvm.Cond.code ({ cls := "UnaskedNameModel", name := "<init>", desc := "()V" } : Jvm.MethodName) prog_14_method_5_code (1 : Nat) (Option.none : Option Jvm.ClassFile.FieldType)) ∈ Gw := gw_c tin_7 50 rfl rfl
theorem mw_1491 : (Jvm.Cond.methodLink "UnaskedNameModel" (7 : Nat) ({ cls := "java/lang/Object", name := "<init>", desc := "()V" } : Jvm.MethodName)) ∈ Gw := gw_c tin_7 51 rfl rfl
theorem mw_1492 : (Jvm.Cond.fieldLink "UnaskedNameModel" (3 : Nat) "UnaskedNameModel" "thrown" "I") ∈ Gw := gw_c tin_7 52 rfl rfl
theorem mw_1493 : (Jvm.Cond.fieldLink "UnaskedNameModel" (13 : Nat) "UnaskedNameModel" "world" "[I") ∈ Gw := gw_c tin_7 53 rfl rfl
theorem mw_1494 : (Jvm.Cond.fieldLink "UnaskedNameModel" (17 : Nat) "UnaskedNameModel" "image" "[I") ∈ Gw := gw_c tin_7 54 rfl rfl
theorem mw_1495 : (Jvm.Cond.fieldLink "UnaskedNameModel" (20 : Nat) "UnaskedNameModel" "before" "[I") ∈ Gw := gw_c tin_7 55 rfl rfl
theorem mw_1496 : (Jvm.Cond.fieldLink "UnaskedNameModel" (23 : Nat) "UnaskedNameModel" "trial" "[I") ∈ Gw := gw_c tin_7 56 rfl rfl
theorem mw_1497 : (Jvm.Cond.fieldLink "UnaskedNameModel" (26 : Nat) "UnaskedNameModel" "acts" "[I") ∈ Gw := gw_c tin_7 57 rfl rfl
theorem mw_1498 : (Jvm.Cond.fieldLink "UnaskedNameModel" (55 : Nat) "UnaskedNameModel" "hasImage" "Z") ∈ Gw := gw_c tin_7 58 rfl rfl
theorem mw_1499 : (Jvm.Cond.fieldLink "UnaskedNameModel" (59 : Nat) "UnaskedNameModel" "remembered" "I") ∈ Gw := gw_c tin_7 59 rfl rfl
theorem mw_1500 : (Jvm.Cond.fieldLink "UnaskedNameModel" (29 : Nat) "UnaskedNameModel" "tape" "[B") ∈ Gw := gw_c tin_7 60 rfl rfl
theorem mw_1501 : (Jvm.Cond.fieldLink "UnaskedNameModel" (84 : Nat) "UnaskedNameModel" "taped" "I") ∈ Gw := gw_c tin_7 61 rfl rfl
theorem mw_1502 : (Jvm.Cond.fieldLink "UnaskedNameModel" (87 : Nat) "UnaskedNameModel" "point" "I") ∈ Gw := gw_c tin_7 62 rfl rfl
theorem mw_1503 : (Jvm.Cond.fieldLink "UnaskedNameModel" (90 : Nat) "UnaskedNameModel" "end" "I") ∈ Gw := gw_c tin_7 63 rfl rfl
theorem mw_1504 : (Jvm.Cond.fieldLink "UnaskedNameModel" (97 : Nat) "UnaskedNameModel" "begin" "I") ∈ Gw := gw_c tin_7 64 rfl rfl
theorem mw_1505 : (Jvm.Cond.fieldLink "UnaskedNameModel" (225 : Nat) "UnaskedNameModel" "deep" "I") ∈ Gw := gw_c tin_7 65 rfl rfl
theorem mw_1506 : (Jvm.Cond.fieldLink "UnaskedNameModel" (33 : Nat) "UnaskedNameModel" "faultAt" "I") ∈ Gw := gw_c tin_7 66 rfl rfl
theorem mw_1507 : (Jvm.Cond.fieldLink "UnaskedNameModel" (36 : Nat) "UnaskedNameModel" "five" "[I") ∈ Gw := gw_c tin_7 67 rfl rfl
theorem mw_1508 : (Jvm.Cond.fieldLink "UnaskedNameModel" (202 : Nat) "UnaskedNameModel" "steps" "I") ∈ Gw := gw_c tin_7 68 rfl rfl
theorem mw_1509 : (Jvm.Cond.fieldLink "UnaskedNameModel" (39 : Nat) "UnaskedNameModel" "value" "[I") ∈ Gw := gw_c tin_7 69 rfl rfl
theorem mw_1510 : (Jvm.Cond.fieldLink "UnaskedNameModel" (280 : Nat) "UnaskedNameModel" "itsWord" "I") ∈ Gw := gw_c tin_7 70 rfl rfl
theorem mw_1511 : (Jvm.Cond.fieldLink "UnaskedNameModel" (283 : Nat) "UnaskedNameModel" "itsDeed" "I") ∈ Gw := gw_c tin_7 71 rfl rfl
theorem mw_1512 : (Jvm.Cond.fieldLink "UnaskedNameModel" (295 : Nat) "UnaskedNameModel" "itsWho" "I") ∈ Gw := gw_c tin_7 72 rfl rfl
theorem mw_1513 : (Jvm.Cond.fieldLink "UnaskedNameModel" (286 : Nat) "UnaskedNameModel" "itsDoubt" "I") ∈ Gw := gw_c tin_7 73 rfl rfl
theorem mw_1514 : (Jvm.Cond.fieldLink "UnaskedNameModel" (289 : Nat) "UnaskedNameModel" "itsNight" "I") ∈ Gw := gw_c tin_7 74 rfl rfl
theorem mw_1515 : (Jvm.Cond.fieldLink "UnaskedNameModel" (292 : Nat) "UnaskedNameModel" "itsLeft" "I") ∈ Gw := gw_c tin_7 75 rfl rfl
theorem mw_1516 : (Jvm.Cond.fieldLink "UnaskedNameModel" (298 : Nat) "UnaskedNameModel" "itsTrue" "Z") ∈ Gw := gw_c tin_7 76 rfl rfl
theorem mw_1517 : (Jvm.Cond.fieldLink "UnaskedNameModel" (42 : Nat) "UnaskedNameModel" "till" "[I") ∈ Gw := gw_c tin_7 77 rfl rfl
theorem mw_1518 : (Jvm.Cond.fieldLink "UnaskedNameModel" (45 : Nat) "UnaskedNameModel" "now" "[Z") ∈ Gw := gw_c tin_7 78 rfl rfl
theorem mw_1519 : (Jvm.Cond.fieldLink "UnaskedNameModel" (49 : Nat) "UnaskedNameModel" "next" "[Z") ∈ Gw := gw_c tin_7 79 rfl rfl
theorem mw_1520 : (Jvm.Cond.fieldLink "UnaskedNameModel" (52 : Nat) "UnaskedNameModel" "crumbs" "[I") ∈ Gw := gw_c tin_7 80 rfl rfl
theorem mw_1580 : (Jvm.Cond.arrayClass Jvm.ClassFile.FieldType.boolean) ∈ Gw := gw_c tin_7 140 rfl rfl
theorem mw_1581 : (Jvm.Cond.methodLink "UnaskedNameLaw" (309 : Nat) ({ cls := "UnaskedNameModel", name := "image", desc := "()V" } : Jvm.MethodName)) ∈ Gw := gw_c tin_7 141 rfl rfl
theorem mw_1582 : (Jvm.Cond.instanceMethod ({ cls := "UnaskedNameModel", name := "image", desc := "()V" } : Jvm.MethodName)) ∈ Gw := gw_c tin_7 142 rfl rfl
theorem mw_1583 : (Jvm.Cond.selects "UnaskedNameModel" ({ cls := "UnaskedNameModel", name := "image", desc := "()V" } : Jvm.MethodName) ({ cls := "UnaskedNameModel", name := "image", desc := "()V" } : Jvm.MethodName)) ∈ Gw := gw_c tin_7 143 rfl rfl
theorem mw_1584 : (Jvm.Cond.code ({ cls := "UnaskedNameModel", name := "image", desc := "()V" } : Jvm.MethodName) prog_14_method_6_code (2 : Nat) (Option.none : Option Jvm.ClassFile.FieldType)) ∈ Gw := gw_c tin_7 144 rfl rfl
theorem mw_1585 : (Jvm.Cond.methodLink "UnaskedNameLaw" (313 : Nat) ({ cls := "UnaskedNameModel", name := "back", desc := "()Z" } : Jvm.MethodName)) ∈ Gw := gw_c tin_7 145 rfl rfl
theorem mw_1586 : (Jvm.Cond.instanceMethod ({ cls := "UnaskedNameModel", name := "back", desc := "()Z" } : Jvm.MethodName)) ∈ Gw := gw_c tin_7 146 rfl rfl
theorem mw_1587 : (Jvm.Cond.selects "UnaskedNameModel" ({ cls := "UnaskedNameModel", name := "back", desc := "()Z" } : Jvm.MethodName) ({ cls := "UnaskedNameModel", name := "back", desc := "()Z" } : Jvm.MethodName)) ∈ Gw := gw_c tin_7 147 rfl rfl
theorem mw_1588 : (Jvm.Cond.code ({ cls := "UnaskedNameModel", name := "back", desc := "()Z" } : Jvm.MethodName) prog_14_method_7_code (2 : Nat) (Option.some Jvm.ClassFile.FieldType.boolean)) ∈ Gw := gw_c tin_7 148 rfl rfl
theorem mw_1589 : (Jvm.Cond.methodLink "UnaskedNameLaw" (305 : Nat) ({ cls := "UnaskedNameModel", name := "undo", desc := "()Z" } : Jvm.MethodName)) ∈ Gw := gw_c tin_7 149 rfl rfl
theorem mw_1590 : (Jvm.Cond.instanceMethod ({ cls := "UnaskedNameModel", name := "undo", desc := "()Z" } : Jvm.MethodName)) ∈ Gw := gw_c tin_7 150 rfl rfl
theorem mw_1591 : (Jvm.Cond.selects "UnaskedNameModel" ({ cls := "UnaskedNameModel", name := "undo", desc := "()Z" } : Jvm.MethodName) ({ cls := "UnaskedNameModel", name := "undo", desc := "()Z" } : Jvm.MethodName)) ∈ Gw := gw_c tin_7 151 rfl rfl
theorem mw_1592 : (Jvm.Cond.code ({ cls := "UnaskedNameModel", name := "undo", desc := "()Z" } : Jvm.MethodName) prog_14_method_9_code (2 : Nat) (Option.some Jvm.ClassFile.FieldType.boolean)) ∈ Gw := gw_c tin_7 152 rfl rfl
theorem mw_1593 : (Jvm.Cond.methodLink "UnaskedNameLaw" (129 : Nat) ({ cls := "UnaskedNameModel", name := "feed", desc := "(IIIII)I" } : Jvm.MethodName)) ∈ Gw := gw_c tin_7 153 rfl rfl
theorem mw_1594 : (Jvm.Cond.instanceMethod ({ cls := "UnaskedNameModel", name := "feed", desc := "(IIIII)I" } : Jvm.MethodName)) ∈ Gw := gw_c tin_7 154 rfl rfl
theorem mw_1595 : (Jvm.Cond.selects "UnaskedNameModel" ({ cls := "UnaskedNameModel", name := "feed", desc := "(IIIII)I" } : Jvm.MethodName) ({ cls := "UnaskedNameModel", name := "feed", desc := "(IIIII)I" } : Jvm.MethodName)) ∈ Gw := gw_c tin_7 155 rfl rfl
theorem mw_1596 : (Jvm.Cond.code ({ cls := "UnaskedNameModel", name := "feed", desc := "(IIIII)I" } : Jvm.MethodName) prog_14_method_27_code (7 : Nat) (Option.some Jvm.ClassFile.FieldType.int)) ∈ Gw := gw_c tin_7 156 rfl rfl
theorem mw_1597 : (Jvm.Cond.methodLink "UnaskedNameLaw" (134 : Nat) ({ cls := "UnaskedNameModel", name := "end", desc := "(I)Z" } : Jvm.MethodName)) ∈ Gw := gw_c tin_7 157 rfl rfl
theorem mw_1598 : (Jvm.Cond.instanceMethod ({ cls := "UnaskedNameModel", name := "end", desc := "(I)Z" } : Jvm.MethodName)) ∈ Gw := gw_c tin_7 158 rfl rfl
theorem mw_1599 : (Jvm.Cond.selects "UnaskedNameModel" ({ cls := "UnaskedNameModel", name := "end", desc := "(I)Z" } : Jvm.MethodName) ({ cls := "UnaskedNameModel", name := "end", desc := "(I)Z" } : Jvm.MethodName)) ∈ Gw := gw_c tin_7 159 rfl rfl
theorem mw_1600 : (Jvm.Cond.code ({ cls := "UnaskedNameModel", name := "end", desc := "(I)Z" } : Jvm.MethodName) prog_14_method_28_code (2 : Nat) (Option.some Jvm.ClassFile.FieldType.boolean)) ∈ Gw := gw_c tin_7 160 rfl rfl
theorem mw_1601 : (Jvm.Cond.methodLink "UnaskedNameLaw" (150 : Nat) ({ cls := "UnaskedNameModel", name := "fault", desc := "()I" } : Jvm.MethodName)) ∈ Gw := gw_c tin_7 161 rfl rfl
theorem mw_1602 : (Jvm.Cond.instanceMethod ({ cls := "UnaskedNameModel", name := "fault", desc := "()I" } : Jvm.MethodName)) ∈ Gw := gw_c tin_7 162 rfl rfl
theorem mw_1603 : (Jvm.Cond.selects "UnaskedNameModel" ({ cls := "UnaskedNameModel", name := "fault", desc := "()I" } : Jvm.MethodName) ({ cls := "UnaskedNameModel", name := "fault", desc := "()I" } : Jvm.MethodName)) ∈ Gw := gw_c tin_7 163 rfl rfl
theorem mw_1604 : (Jvm.Cond.code ({ cls := "UnaskedNameModel", name := "fault", desc := "()I" } : Jvm.MethodName) prog_14_method_37_code (1 : Nat) (Option.some Jvm.ClassFile.FieldType.int)) ∈ Gw := gw_c tin_7 164 rfl rfl
theorem mw_1605 : (Jvm.Cond.methodLink "UnaskedNameLaw" (140 : Nat) ({ cls := "UnaskedNameModel", name := "story", desc := "()I" } : Jvm.MethodName)) ∈ Gw := gw_c tin_7 165 rfl rfl
theorem mw_1606 : (Jvm.Cond.instanceMethod ({ cls := "UnaskedNameModel", name := "story", desc := "()I" } : Jvm.MethodName)) ∈ Gw := gw_c tin_7 166 rfl rfl
theorem mw_1607 : (Jvm.Cond.selects "UnaskedNameModel" ({ cls := "UnaskedNameModel", name := "story", desc := "()I" } : Jvm.MethodName) ({ cls := "UnaskedNameModel", name := "story", desc := "()I" } : Jvm.MethodName)) ∈ Gw := gw_c tin_7 167 rfl rfl
theorem mw_1608 : (Jvm.Cond.code ({ cls := "UnaskedNameModel", name := "story", desc := "()I" } : Jvm.MethodName) prog_14_method_59_code (3 : Nat) (Option.some Jvm.ClassFile.FieldType.int)) ∈ Gw := gw_c tin_7 168 rfl rfl
theorem mw_1609 : (Jvm.Cond.methodLink "UnaskedNameModel" (270 : Nat) ({ cls := "UnaskedNameModel", name := "readAll", desc := "(Z)I" } : Jvm.MethodName)) ∈ Gw := gw_c tin_7 169 rfl rfl
theorem mw_1611 : (Jvm.Cond.instanceMethod ({ cls := "UnaskedNameModel", name := "readAll", desc := "(Z)I" } : Jvm.MethodName)) ∈ Gw := gw_c tin_7 171 rfl rfl
theorem mw_1612 : (Jvm.Cond.code ({ cls := "UnaskedNameModel", name := "readAll", desc := "(Z)I" } : Jvm.MethodName) prog_14_method_58_code (3 : Nat) (Option.some Jvm.ClassFile.FieldType.int)) ∈ Gw := gw_c tin_7 172 rfl rfl
theorem mw_1613 : (Jvm.Cond.methodLink "UnaskedNameModel" (263 : Nat) ({ cls := "UnaskedNameModel", name := "uses", desc := "()V" } : Jvm.MethodName)) ∈ Gw := gw_c tin_7 173 rfl rfl
theorem mw_1615 : (Jvm.Cond.instanceMethod ({ cls := "UnaskedNameModel", name := "uses", desc := "()V" } : Jvm.MethodName)) ∈ Gw := gw_c tin_7 175 rfl rfl
theorem mw_1616 : (Jvm.Cond.code ({ cls := "UnaskedNameModel", name := "uses", desc := "()V" } : Jvm.MethodName) prog_14_method_38_code (1 : Nat) (Option.none : Option Jvm.ClassFile.FieldType)) ∈ Gw := gw_c tin_7 176 rfl rfl
theorem mw_1617 : (Jvm.Cond.methodLink "UnaskedNameModel" (100 : Nat) ({ cls := "UnaskedNameModel", name := "blanks", desc := "()V" } : Jvm.MethodName)) ∈ Gw := gw_c tin_7 177 rfl rfl
theorem mw_1619 : (Jvm.Cond.instanceMethod ({ cls := "UnaskedNameModel", name := "blanks", desc := "()V" } : Jvm.MethodName)) ∈ Gw := gw_c tin_7 179 rfl rfl
theorem mw_1620 : (Jvm.Cond.code ({ cls := "UnaskedNameModel", name := "blanks", desc := "()V" } : Jvm.MethodName) prog_14_method_30_code (1 : Nat) (Option.none : Option Jvm.ClassFile.FieldType)) ∈ Gw := gw_c tin_7 180 rfl rfl
theorem mw_1621 : (Jvm.Cond.methodLink "UnaskedNameModel" (93 : Nat) ({ cls := "UnaskedNameModel", name := "isAt", desc := "(II)Z" } : Jvm.MethodName)) ∈ Gw := gw_c tin_7 181 rfl rfl
theorem mw_1623 : (Jvm.Cond.instanceMethod ({ cls := "UnaskedNameModel", name := "isAt", desc := "(II)Z" } : Jvm.MethodName)) ∈ Gw := gw_c tin_7 183 rfl rfl
theorem mw_1624 : (Jvm.Cond.code ({ cls := "UnaskedNameModel", name := "isAt", desc := "(II)Z" } : Jvm.MethodName) prog_14_method_29_code (3 : Nat) (Option.some Jvm.ClassFile.FieldType.boolean)) ∈ Gw := gw_c tin_7 184 rfl rfl
theorem mw_1625 : (Jvm.Cond.methodLink "UnaskedNameModel" (266 : Nat) ({ cls := "UnaskedNameModel", name := "readLine", desc := "(ZI)Z" } : Jvm.MethodName)) ∈ Gw := gw_c tin_7 185 rfl rfl
theorem mw_1627 : (Jvm.Cond.instanceMethod ({ cls := "UnaskedNameModel", name := "readLine", desc := "(ZI)Z" } : Jvm.MethodName)) ∈ Gw := gw_c tin_7 187 rfl rfl
theorem mw_1628 : (Jvm.Cond.code ({ cls := "UnaskedNameModel", name := "readLine", desc := "(ZI)Z" } : Jvm.MethodName) prog_14_method_57_code (3 : Nat) (Option.some Jvm.ClassFile.FieldType.boolean)) ∈ Gw := gw_c tin_7 188 rfl rfl
theorem mw_1629 : (Jvm.Cond.methodLink "UnaskedNameModel" (112 : Nat) ({ cls := "UnaskedNameModel", name := "letters", desc := "()V" } : Jvm.MethodName)) ∈ Gw := gw_c tin_7 189 rfl rfl
theorem mw_1631 : (Jvm.Cond.instanceMethod ({ cls := "UnaskedNameModel", name := "letters", desc := "()V" } : Jvm.MethodName)) ∈ Gw := gw_c tin_7 191 rfl rfl
theorem mw_1632 : (Jvm.Cond.code ({ cls := "UnaskedNameModel", name := "letters", desc := "()V" } : Jvm.MethodName) prog_14_method_31_code (1 : Nat) (Option.none : Option Jvm.ClassFile.FieldType)) ∈ Gw := gw_c tin_7 192 rfl rfl
theorem mw_1633 : (Jvm.Cond.methodLink "UnaskedNameModel" (257 : Nat) ({ cls := "UnaskedNameModel", name := "readStoryLine", desc := "()Z" } : Jvm.MethodName)) ∈ Gw := gw_c tin_7 193 rfl rfl
theorem mw_1635 : (Jvm.Cond.instanceMethod ({ cls := "UnaskedNameModel", name := "readStoryLine", desc := "()Z" } : Jvm.MethodName)) ∈ Gw := gw_c tin_7 195 rfl rfl
theorem mw_1636 : (Jvm.Cond.code ({ cls := "UnaskedNameModel", name := "readStoryLine", desc := "()Z" } : Jvm.MethodName) prog_14_method_48_code (1 : Nat) (Option.some Jvm.ClassFile.FieldType.boolean)) ∈ Gw := gw_c tin_7 196 rfl rfl
theorem mw_1638 : (Jvm.Cond.methodLink "UnaskedNameModel" (115 : Nat) ({ cls := "UnaskedNameModel", name := "isWord", desc := "(Ljava/lang/String;)Z" } : Jvm.MethodName)) ∈ Gw := gw_c tin_7 198 rfl rfl
theorem mw_1640 : (Jvm.Cond.instanceMethod ({ cls := "UnaskedNameModel", name := "isWord", desc := "(Ljava/lang/String;)Z" } : Jvm.MethodName)) ∈ Gw := gw_c tin_7 200 rfl rfl
theorem mw_1641 : (Jvm.Cond.code ({ cls := "UnaskedNameModel", name := "isWord", desc := "(Ljava/lang/String;)Z" } : Jvm.MethodName) prog_14_method_32_code (4 : Nat) (Option.some Jvm.ClassFile.FieldType.boolean)) ∈ Gw := gw_c tin_7 201 rfl rfl
theorem mw_1642 : (Jvm.Cond.methodLink "UnaskedNameModel" (103 : Nat) ({ cls := "java/lang/String", name := "length", desc := "()I" } : Jvm.MethodName)) ∈ Gw := gw_c tin_7 202 rfl rfl
theorem mw_1643 : (Jvm.Cond.methodLink "UnaskedNameModel" (108 : Nat) ({ cls := "java/lang/String", name := "charAt", desc := "(I)C" } : Jvm.MethodName)) ∈ Gw := gw_c tin_7 203 rfl rfl
theorem mw_1644 : (Jvm.Cond.methodLink "UnaskedNameModel" (159 : Nat) ({ cls := "UnaskedNameModel", name := "readName", desc := "()Z" } : Jvm.MethodName)) ∈ Gw := gw_c tin_7 204 rfl rfl
theorem mw_1646 : (Jvm.Cond.instanceMethod ({ cls := "UnaskedNameModel", name := "readName", desc := "()Z" } : Jvm.MethodName)) ∈ Gw := gw_c tin_7 206 rfl rfl
theorem mw_1647 : (Jvm.Cond.code ({ cls := "UnaskedNameModel", name := "readName", desc := "()Z" } : Jvm.MethodName) prog_14_method_40_code (4 : Nat) (Option.some Jvm.ClassFile.FieldType.boolean)) ∈ Gw := gw_c tin_7 207 rfl rfl
theorem mw_1648 : (Jvm.Cond.methodLink "UnaskedNameModel" (66 : Nat) ({ cls := "UnaskedNameModel", name := "names", desc := "()I" } : Jvm.MethodName)) ∈ Gw := gw_c tin_7 208 rfl rfl
theorem mw_1650 : (Jvm.Cond.instanceMethod ({ cls := "UnaskedNameModel", name := "names", desc := "()I" } : Jvm.MethodName)) ∈ Gw := gw_c tin_7 210 rfl rfl
theorem mw_1651 : (Jvm.Cond.code ({ cls := "UnaskedNameModel", name := "names", desc := "()I" } : Jvm.MethodName) prog_14_method_10_code (1 : Nat) (Option.some Jvm.ClassFile.FieldType.int)) ∈ Gw := gw_c tin_7 211 rfl rfl
theorem mw_1652 : (Jvm.Cond.methodLink "UnaskedNameModel" (125 : Nat) ({ cls := "UnaskedNameModel", name := "lettersTold", desc := "()I" } : Jvm.MethodName)) ∈ Gw := gw_c tin_7 212 rfl rfl
theorem mw_1654 : (Jvm.Cond.instanceMethod ({ cls := "UnaskedNameModel", name := "lettersTold", desc := "()I" } : Jvm.MethodName)) ∈ Gw := gw_c tin_7 214 rfl rfl
theorem mw_1655 : (Jvm.Cond.code ({ cls := "UnaskedNameModel", name := "lettersTold", desc := "()I" } : Jvm.MethodName) prog_14_method_39_code (5 : Nat) (Option.some Jvm.ClassFile.FieldType.int)) ∈ Gw := gw_c tin_7 215 rfl rfl
theorem mw_1656 : (Jvm.Cond.methodLink "UnaskedNameModel" (70 : Nat) ({ cls := "UnaskedNameModel", name := "in", desc := "(III)Z" } : Jvm.MethodName)) ∈ Gw := gw_c tin_7 216 rfl rfl
theorem mw_1657 : (Jvm.Cond.static ({ cls := "UnaskedNameModel", name := "in", desc := "(III)Z" } : Jvm.MethodName)) ∈ Gw := gw_c tin_7 217 rfl rfl
theorem mw_1658 : (Jvm.Cond.code ({ cls := "UnaskedNameModel", name := "in", desc := "(III)Z" } : Jvm.MethodName) prog_14_method_3_code (3 : Nat) (Option.some Jvm.ClassFile.FieldType.boolean)) ∈ Gw := gw_c tin_7 218 rfl rfl
theorem mw_1659 : (Jvm.Cond.methodLink "UnaskedNameModel" (122 : Nat) ({ cls := "UnaskedNameModel", name := "has", desc := "(II)Z" } : Jvm.MethodName)) ∈ Gw := gw_c tin_7 219 rfl rfl
theorem mw_1660 : (Jvm.Cond.static ({ cls := "UnaskedNameModel", name := "has", desc := "(II)Z" } : Jvm.MethodName)) ∈ Gw := gw_c tin_7 220 rfl rfl
theorem mw_1661 : (Jvm.Cond.code ({ cls := "UnaskedNameModel", name := "has", desc := "(II)Z" } : Jvm.MethodName) prog_14_method_4_code (2 : Nat) (Option.some Jvm.ClassFile.FieldType.boolean)) ∈ Gw := gw_c tin_7 221 rfl rfl
theorem mw_1663 : (Jvm.Cond.methodLink "UnaskedNameModel" (130 : Nat) ({ cls := "UnaskedNameModel", name := "after", desc := "(Ljava/lang/String;II)I" } : Jvm.MethodName)) ∈ Gw := gw_c tin_7 223 rfl rfl
theorem mw_1665 : (Jvm.Cond.instanceMethod ({ cls := "UnaskedNameModel", name := "after", desc := "(Ljava/lang/String;II)I" } : Jvm.MethodName)) ∈ Gw := gw_c tin_7 225 rfl rfl
theorem mw_1666 : (Jvm.Cond.code ({ cls := "UnaskedNameModel", name := "after", desc := "(Ljava/lang/String;II)I" } : Jvm.MethodName) prog_14_method_36_code (4 : Nat) (Option.some Jvm.ClassFile.FieldType.int)) ∈ Gw := gw_c tin_7 226 rfl rfl
theorem mw_1667 : (Jvm.Cond.methodLink "UnaskedNameModel" (119 : Nat) ({ cls := "UnaskedNameModel", name := "number", desc := "(II)I" } : Jvm.MethodName)) ∈ Gw := gw_c tin_7 227 rfl rfl
theorem mw_1669 : (Jvm.Cond.instanceMethod ({ cls := "UnaskedNameModel", name := "number", desc := "(II)I" } : Jvm.MethodName)) ∈ Gw := gw_c tin_7 229 rfl rfl
theorem mw_1670 : (Jvm.Cond.code ({ cls := "UnaskedNameModel", name := "number", desc := "(II)I" } : Jvm.MethodName) prog_14_method_35_code (4 : Nat) (Option.some Jvm.ClassFile.FieldType.int)) ∈ Gw := gw_c tin_7 230 rfl rfl
theorem mw_1672 : (Jvm.Cond.methodLink "UnaskedNameModel" (165 : Nat) ({ cls := "UnaskedNameModel", name := "readWord", desc := "()Z" } : Jvm.MethodName)) ∈ Gw := gw_c tin_7 232 rfl rfl
theorem mw_1674 : (Jvm.Cond.instanceMethod ({ cls := "UnaskedNameModel", name := "readWord", desc := "()Z" } : Jvm.MethodName)) ∈ Gw := gw_c tin_7 234 rfl rfl
theorem mw_1675 : (Jvm.Cond.code ({ cls := "UnaskedNameModel", name := "readWord", desc := "()Z" } : Jvm.MethodName) prog_14_method_41_code (5 : Nat) (Option.some Jvm.ClassFile.FieldType.boolean)) ∈ Gw := gw_c tin_7 235 rfl rfl
theorem mw_1676 : (Jvm.Cond.methodLink "UnaskedNameModel" (77 : Nat) ({ cls := "UnaskedNameModel", name := "words", desc := "()I" } : Jvm.MethodName)) ∈ Gw := gw_c tin_7 236 rfl rfl
theorem mw_1678 : (Jvm.Cond.instanceMethod ({ cls := "UnaskedNameModel", name := "words", desc := "()I" } : Jvm.MethodName)) ∈ Gw := gw_c tin_7 238 rfl rfl
theorem mw_1679 : (Jvm.Cond.code ({ cls := "UnaskedNameModel", name := "words", desc := "()I" } : Jvm.MethodName) prog_14_method_12_code (1 : Nat) (Option.some Jvm.ClassFile.FieldType.int)) ∈ Gw := gw_c tin_7 239 rfl rfl
theorem mw_1681 : (Jvm.Cond.methodLink "UnaskedNameModel" (136 : Nat) ({ cls := "UnaskedNameModel", name := "passes", desc := "(Ljava/lang/String;)Z" } : Jvm.MethodName)) ∈ Gw := gw_c tin_8 1 rfl rfl
theorem mw_1683 : (Jvm.Cond.instanceMethod ({ cls := "UnaskedNameModel", name := "passes", desc := "(Ljava/lang/String;)Z" } : Jvm.MethodName)) ∈ Gw := gw_c tin_8 3 rfl rfl
theorem mw_1684 : (Jvm.Cond.code ({ cls := "UnaskedNameModel", name := "passes", desc := "(Ljava/lang/String;)Z" } : Jvm.MethodName) prog_14_method_33_code (2 : Nat) (Option.some Jvm.ClassFile.FieldType.boolean)) ∈ Gw := gw_c tin_8 4 rfl rfl
theorem mw_1685 : (Jvm.Cond.methodLink "UnaskedNameModel" (139 : Nat) ({ cls := "java/lang/Integer", name := "bitCount", desc := "(I)I" } : Jvm.MethodName)) ∈ Gw := gw_c tin_8 5 rfl rfl
theorem mw_1686 : (Jvm.Cond.methodLink "UnaskedNameModel" (145 : Nat) ({ cls := "java/lang/Integer", name := "numberOfTrailingZeros", desc := "(I)I" } : Jvm.MethodName)) ∈ Gw := gw_c tin_8 6 rfl rfl
theorem mw_1687 : (Jvm.Cond.static ({ cls := "java/lang/Integer", name := "numberOfTrailingZeros", desc := "(I)I" } : Jvm.MethodName)) ∈ Gw := gw_c tin_8 7 rfl rfl
theorem mw_1688 : (Jvm.Cond.code ({ cls := "java/lang/Integer", name := "numberOfTrailingZeros", desc := "(I)I" } : Jvm.MethodName) prog_22_method_48_code (2 : Nat) (Option.some Jvm.ClassFile.FieldType.int)) ∈ Gw := gw_c tin_8 8 rfl rfl
theorem mw_1689 : (Jvm.Cond.constant "java/lang/Integer" (264 : Nat) (65536 : Int32)) ∈ Gw := gw_c tin_8 9 rfl rfl
theorem mw_1691 : (Jvm.Cond.methodLink "UnaskedNameModel" (170 : Nat) ({ cls := "UnaskedNameModel", name := "readDeed", desc := "()Z" } : Jvm.MethodName)) ∈ Gw := gw_c tin_8 11 rfl rfl
theorem mw_1693 : (Jvm.Cond.instanceMethod ({ cls := "UnaskedNameModel", name := "readDeed", desc := "()Z" } : Jvm.MethodName)) ∈ Gw := gw_c tin_8 13 rfl rfl
theorem mw_1694 : (Jvm.Cond.code ({ cls := "UnaskedNameModel", name := "readDeed", desc := "()Z" } : Jvm.MethodName) prog_14_method_42_code (4 : Nat) (Option.some Jvm.ClassFile.FieldType.boolean)) ∈ Gw := gw_c tin_8 14 rfl rfl
theorem mw_1695 : (Jvm.Cond.methodLink "UnaskedNameModel" (80 : Nat) ({ cls := "UnaskedNameModel", name := "deeds", desc := "()I" } : Jvm.MethodName)) ∈ Gw := gw_c tin_8 15 rfl rfl
theorem mw_1697 : (Jvm.Cond.instanceMethod ({ cls := "UnaskedNameModel", name := "deeds", desc := "()I" } : Jvm.MethodName)) ∈ Gw := gw_c tin_8 17 rfl rfl
theorem mw_1698 : (Jvm.Cond.code ({ cls := "UnaskedNameModel", name := "deeds", desc := "()I" } : Jvm.MethodName) prog_14_method_13_code (1 : Nat) (Option.some Jvm.ClassFile.FieldType.int)) ∈ Gw := gw_c tin_8 18 rfl rfl
theorem mw_1701 : (Jvm.Cond.methodLink "UnaskedNameModel" (175 : Nat) ({ cls := "UnaskedNameModel", name := "readWho", desc := "(I)Z" } : Jvm.MethodName)) ∈ Gw := gw_c tin_8 21 rfl rfl
theorem mw_1703 : (Jvm.Cond.instanceMethod ({ cls := "UnaskedNameModel", name := "readWho", desc := "(I)Z" } : Jvm.MethodName)) ∈ Gw := gw_c tin_8 23 rfl rfl
theorem mw_1704 : (Jvm.Cond.code ({ cls := "UnaskedNameModel", name := "readWho", desc := "(I)Z" } : Jvm.MethodName) prog_14_method_43_code (4 : Nat) (Option.some Jvm.ClassFile.FieldType.boolean)) ∈ Gw := gw_c tin_8 24 rfl rfl
theorem mw_1705 : (Jvm.Cond.methodLink "UnaskedNameModel" (74 : Nat) ({ cls := "UnaskedNameModel", name := "courtiers", desc := "()I" } : Jvm.MethodName)) ∈ Gw := gw_c tin_8 25 rfl rfl
theorem mw_1707 : (Jvm.Cond.instanceMethod ({ cls := "UnaskedNameModel", name := "courtiers", desc := "()I" } : Jvm.MethodName)) ∈ Gw := gw_c tin_8 27 rfl rfl
theorem mw_1708 : (Jvm.Cond.code ({ cls := "UnaskedNameModel", name := "courtiers", desc := "()I" } : Jvm.MethodName) prog_14_method_11_code (1 : Nat) (Option.some Jvm.ClassFile.FieldType.int)) ∈ Gw := gw_c tin_8 28 rfl rfl
theorem mw_1711 : (Jvm.Cond.methodLink "UnaskedNameModel" (183 : Nat) ({ cls := "UnaskedNameModel", name := "readDuty", desc := "()Z" } : Jvm.MethodName)) ∈ Gw := gw_c tin_8 31 rfl rfl
theorem mw_1713 : (Jvm.Cond.instanceMethod ({ cls := "UnaskedNameModel", name := "readDuty", desc := "()Z" } : Jvm.MethodName)) ∈ Gw := gw_c tin_8 33 rfl rfl
theorem mw_1714 : (Jvm.Cond.code ({ cls := "UnaskedNameModel", name := "readDuty", desc := "()Z" } : Jvm.MethodName) prog_14_method_44_code (2 : Nat) (Option.some Jvm.ClassFile.FieldType.boolean)) ∈ Gw := gw_c tin_8 34 rfl rfl
theorem mw_1715 : (Jvm.Cond.methodLink "UnaskedNameModel" (150 : Nat) ({ cls := "UnaskedNameModel", name := "duties", desc := "()I" } : Jvm.MethodName)) ∈ Gw := gw_c tin_8 35 rfl rfl
theorem mw_1717 : (Jvm.Cond.instanceMethod ({ cls := "UnaskedNameModel", name := "duties", desc := "()I" } : Jvm.MethodName)) ∈ Gw := gw_c tin_8 37 rfl rfl
theorem mw_1718 : (Jvm.Cond.code ({ cls := "UnaskedNameModel", name := "duties", desc := "()I" } : Jvm.MethodName) prog_14_method_14_code (1 : Nat) (Option.some Jvm.ClassFile.FieldType.int)) ∈ Gw := gw_c tin_8 38 rfl rfl
theorem mw_1720 : (Jvm.Cond.methodLink "UnaskedNameModel" (188 : Nat) ({ cls := "UnaskedNameModel", name := "readNumber", desc := "(III)Z" } : Jvm.MethodName)) ∈ Gw := gw_c tin_8 40 rfl rfl
theorem mw_1722 : (Jvm.Cond.instanceMethod ({ cls := "UnaskedNameModel", name := "readNumber", desc := "(III)Z" } : Jvm.MethodName)) ∈ Gw := gw_c tin_8 42 rfl rfl
theorem mw_1723 : (Jvm.Cond.code ({ cls := "UnaskedNameModel", name := "readNumber", desc := "(III)Z" } : Jvm.MethodName) prog_14_method_45_code (5 : Nat) (Option.some Jvm.ClassFile.FieldType.boolean)) ∈ Gw := gw_c tin_8 43 rfl rfl
theorem mw_1726 : (Jvm.Cond.methodLink "UnaskedNameModel" (195 : Nat) ({ cls := "UnaskedNameModel", name := "readHis", desc := "()Z" } : Jvm.MethodName)) ∈ Gw := gw_c tin_8 46 rfl rfl
theorem mw_1728 : (Jvm.Cond.instanceMethod ({ cls := "UnaskedNameModel", name := "readHis", desc := "()Z" } : Jvm.MethodName)) ∈ Gw := gw_c tin_8 48 rfl rfl
theorem mw_1729 : (Jvm.Cond.code ({ cls := "UnaskedNameModel", name := "readHis", desc := "()Z" } : Jvm.MethodName) prog_14_method_47_code (2 : Nat) (Option.some Jvm.ClassFile.FieldType.boolean)) ∈ Gw := gw_c tin_8 49 rfl rfl
theorem mw_1730 : (Jvm.Cond.methodLink "UnaskedNameModel" (153 : Nat) ({ cls := "UnaskedNameModel", name := "isNow", desc := "(I)V" } : Jvm.MethodName)) ∈ Gw := gw_c tin_8 50 rfl rfl
theorem mw_1732 : (Jvm.Cond.instanceMethod ({ cls := "UnaskedNameModel", name := "isNow", desc := "(I)V" } : Jvm.MethodName)) ∈ Gw := gw_c tin_8 52 rfl rfl
theorem mw_1733 : (Jvm.Cond.code ({ cls := "UnaskedNameModel", name := "isNow", desc := "(I)V" } : Jvm.MethodName) prog_14_method_46_code (2 : Nat) (Option.none : Option Jvm.ClassFile.FieldType)) ∈ Gw := gw_c tin_8 53 rfl rfl
theorem mw_1736 : (Jvm.Cond.methodLink "UnaskedNameModel" (260 : Nat) ({ cls := "UnaskedNameModel", name := "readLawLine", desc := "(I)Z" } : Jvm.MethodName)) ∈ Gw := gw_c tin_8 56 rfl rfl
theorem mw_1738 : (Jvm.Cond.instanceMethod ({ cls := "UnaskedNameModel", name := "readLawLine", desc := "(I)Z" } : Jvm.MethodName)) ∈ Gw := gw_c tin_8 58 rfl rfl
theorem mw_1739 : (Jvm.Cond.code ({ cls := "UnaskedNameModel", name := "readLawLine", desc := "(I)Z" } : Jvm.MethodName) prog_14_method_56_code (3 : Nat) (Option.some Jvm.ClassFile.FieldType.boolean)) ∈ Gw := gw_c tin_8 59 rfl rfl
theorem mw_1744 : (Jvm.Cond.methodLink "UnaskedNameModel" (228 : Nat) ({ cls := "UnaskedNameModel", name := "readCond", desc := "()Z" } : Jvm.MethodName)) ∈ Gw := gw_c tin_8 64 rfl rfl
theorem mw_1746 : (Jvm.Cond.instanceMethod ({ cls := "UnaskedNameModel", name := "readCond", desc := "()Z" } : Jvm.MethodName)) ∈ Gw := gw_c tin_8 66 rfl rfl
theorem mw_1747 : (Jvm.Cond.code ({ cls := "UnaskedNameModel", name := "readCond", desc := "()Z" } : Jvm.MethodName) prog_14_method_55_code (1 : Nat) (Option.some Jvm.ClassFile.FieldType.boolean)) ∈ Gw := gw_c tin_8 67 rfl rfl
theorem mw_1748 : (Jvm.Cond.methodLink "UnaskedNameModel" (244 : Nat) ({ cls := "UnaskedNameModel", name := "readAllOf", desc := "()Z" } : Jvm.MethodName)) ∈ Gw := gw_c tin_8 68 rfl rfl
theorem mw_1750 : (Jvm.Cond.instanceMethod ({ cls := "UnaskedNameModel", name := "readAllOf", desc := "()Z" } : Jvm.MethodName)) ∈ Gw := gw_c tin_8 70 rfl rfl
theorem mw_1751 : (Jvm.Cond.code ({ cls := "UnaskedNameModel", name := "readAllOf", desc := "()Z" } : Jvm.MethodName) prog_14_method_54_code (1 : Nat) (Option.some Jvm.ClassFile.FieldType.boolean)) ∈ Gw := gw_c tin_8 71 rfl rfl
theorem mw_1752 : (Jvm.Cond.methodLink "UnaskedNameModel" (233 : Nat) ({ cls := "UnaskedNameModel", name := "readAtom", desc := "()Z" } : Jvm.MethodName)) ∈ Gw := gw_c tin_8 72 rfl rfl
theorem mw_1754 : (Jvm.Cond.instanceMethod ({ cls := "UnaskedNameModel", name := "readAtom", desc := "()Z" } : Jvm.MethodName)) ∈ Gw := gw_c tin_8 74 rfl rfl
theorem mw_1755 : (Jvm.Cond.code ({ cls := "UnaskedNameModel", name := "readAtom", desc := "()Z" } : Jvm.MethodName) prog_14_method_53_code (2 : Nat) (Option.some Jvm.ClassFile.FieldType.boolean)) ∈ Gw := gw_c tin_8 75 rfl rfl
theorem mw_1756 : (Jvm.Cond.methodLink "UnaskedNameModel" (218 : Nat) ({ cls := "UnaskedNameModel", name := "sign", desc := "(I)Z" } : Jvm.MethodName)) ∈ Gw := gw_c tin_8 76 rfl rfl
theorem mw_1758 : (Jvm.Cond.instanceMethod ({ cls := "UnaskedNameModel", name := "sign", desc := "(I)Z" } : Jvm.MethodName)) ∈ Gw := gw_c tin_8 78 rfl rfl
theorem mw_1759 : (Jvm.Cond.code ({ cls := "UnaskedNameModel", name := "sign", desc := "(I)Z" } : Jvm.MethodName) prog_14_method_34_code (2 : Nat) (Option.some Jvm.ClassFile.FieldType.boolean)) ∈ Gw := gw_c tin_8 79 rfl rfl
theorem mw_1761 : (Jvm.Cond.methodLink "UnaskedNameModel" (205 : Nat) ({ cls := "UnaskedNameModel", name := "emits", desc := "(II)V" } : Jvm.MethodName)) ∈ Gw := gw_c tin_8 81 rfl rfl
theorem mw_1763 : (Jvm.Cond.instanceMethod ({ cls := "UnaskedNameModel", name := "emits", desc := "(II)V" } : Jvm.MethodName)) ∈ Gw := gw_c tin_8 83 rfl rfl
theorem mw_1764 : (Jvm.Cond.code ({ cls := "UnaskedNameModel", name := "emits", desc := "(II)V" } : Jvm.MethodName) prog_14_method_49_code (3 : Nat) (Option.none : Option Jvm.ClassFile.FieldType)) ∈ Gw := gw_c tin_8 84 rfl rfl
theorem mw_1765 : (Jvm.Cond.methodLink "UnaskedNameModel" (236 : Nat) ({ cls := "UnaskedNameModel", name := "readTag", desc := "()Z" } : Jvm.MethodName)) ∈ Gw := gw_c tin_8 85 rfl rfl
theorem mw_1767 : (Jvm.Cond.instanceMethod ({ cls := "UnaskedNameModel", name := "readTag", desc := "()Z" } : Jvm.MethodName)) ∈ Gw := gw_c tin_8 87 rfl rfl
theorem mw_1768 : (Jvm.Cond.code ({ cls := "UnaskedNameModel", name := "readTag", desc := "()Z" } : Jvm.MethodName) prog_14_method_52_code (2 : Nat) (Option.some Jvm.ClassFile.FieldType.boolean)) ∈ Gw := gw_c tin_8 88 rfl rfl
theorem mw_1771 : (Jvm.Cond.methodLink "UnaskedNameModel" (239 : Nat) ({ cls := "UnaskedNameModel", name := "readSum", desc := "()Z" } : Jvm.MethodName)) ∈ Gw := gw_c tin_8 91 rfl rfl
theorem mw_1773 : (Jvm.Cond.instanceMethod ({ cls := "UnaskedNameModel", name := "readSum", desc := "()Z" } : Jvm.MethodName)) ∈ Gw := gw_c tin_8 93 rfl rfl
theorem mw_1774 : (Jvm.Cond.code ({ cls := "UnaskedNameModel", name := "readSum", desc := "()Z" } : Jvm.MethodName) prog_14_method_51_code (1 : Nat) (Option.some Jvm.ClassFile.FieldType.boolean)) ∈ Gw := gw_c tin_8 94 rfl rfl
theorem mw_1775 : (Jvm.Cond.methodLink "UnaskedNameModel" (215 : Nat) ({ cls := "UnaskedNameModel", name := "readPart", desc := "()Z" } : Jvm.MethodName)) ∈ Gw := gw_c tin_8 95 rfl rfl
theorem mw_1777 : (Jvm.Cond.instanceMethod ({ cls := "UnaskedNameModel", name := "readPart", desc := "()Z" } : Jvm.MethodName)) ∈ Gw := gw_c tin_8 97 rfl rfl
theorem mw_1778 : (Jvm.Cond.code ({ cls := "UnaskedNameModel", name := "readPart", desc := "()Z" } : Jvm.MethodName) prog_14_method_50_code (2 : Nat) (Option.some Jvm.ClassFile.FieldType.boolean)) ∈ Gw := gw_c tin_8 98 rfl rfl
theorem mw_1784 : (Jvm.Cond.methodLink "UnaskedNameModel" (274 : Nat) ({ cls := "UnaskedNameModel", name := "throwsIf", desc := "(ZI)Z" } : Jvm.MethodName)) ∈ Gw := gw_c tin_8 104 rfl rfl
theorem mw_1786 : (Jvm.Cond.instanceMethod ({ cls := "UnaskedNameModel", name := "throwsIf", desc := "(ZI)Z" } : Jvm.MethodName)) ∈ Gw := gw_c tin_8 106 rfl rfl
theorem mw_1787 : (Jvm.Cond.code ({ cls := "UnaskedNameModel", name := "throwsIf", desc := "(ZI)Z" } : Jvm.MethodName) prog_14_method_2_code (3 : Nat) (Option.some Jvm.ClassFile.FieldType.boolean)) ∈ Gw := gw_c tin_8 107 rfl rfl
theorem mw_1788 : (Jvm.Cond.methodLink "UnaskedNameLaw" (146 : Nat) ({ cls := "UnaskedNameModel", name := "law", desc := "()I" } : Jvm.MethodName)) ∈ Gw := gw_c tin_8 108 rfl rfl
theorem mw_1789 : (Jvm.Cond.instanceMethod ({ cls := "UnaskedNameModel", name := "law", desc := "()I" } : Jvm.MethodName)) ∈ Gw := gw_c tin_8 109 rfl rfl
theorem mw_1790 : (Jvm.Cond.selects "UnaskedNameModel" ({ cls := "UnaskedNameModel", name := "law", desc := "()I" } : Jvm.MethodName) ({ cls := "UnaskedNameModel", name := "law", desc := "()I" } : Jvm.MethodName)) ∈ Gw := gw_c tin_8 110 rfl rfl
theorem mw_1791 : (Jvm.Cond.code ({ cls := "UnaskedNameModel", name := "law", desc := "()I" } : Jvm.MethodName) prog_14_method_60_code (3 : Nat) (Option.some Jvm.ClassFile.FieldType.int)) ∈ Gw := gw_c tin_8 111 rfl rfl
theorem mw_1792 : (Jvm.Cond.methodLink "UnaskedNameLaw" (167 : Nat) ({ cls := "UnaskedNameModel", name := "stings", desc := "(II)I" } : Jvm.MethodName)) ∈ Gw := gw_c tin_8 112 rfl rfl
theorem mw_1793 : (Jvm.Cond.instanceMethod ({ cls := "UnaskedNameModel", name := "stings", desc := "(II)I" } : Jvm.MethodName)) ∈ Gw := gw_c tin_8 113 rfl rfl
theorem mw_1794 : (Jvm.Cond.selects "UnaskedNameModel" ({ cls := "UnaskedNameModel", name := "stings", desc := "(II)I" } : Jvm.MethodName) ({ cls := "UnaskedNameModel", name := "stings", desc := "(II)I" } : Jvm.MethodName)) ∈ Gw := gw_c tin_8 114 rfl rfl
theorem mw_1795 : (Jvm.Cond.code ({ cls := "UnaskedNameModel", name := "stings", desc := "(II)I" } : Jvm.MethodName) prog_14_method_74_code (3 : Nat) (Option.some Jvm.ClassFile.FieldType.int)) ∈ Gw := gw_c tin_8 115 rfl rfl
theorem mw_1796 : (Jvm.Cond.methodLink "UnaskedNameModel" (343 : Nat) ({ cls := "UnaskedNameModel", name := "noWho", desc := "(I)Z" } : Jvm.MethodName)) ∈ Gw := gw_c tin_8 116 rfl rfl
theorem mw_1798 : (Jvm.Cond.instanceMethod ({ cls := "UnaskedNameModel", name := "noWho", desc := "(I)Z" } : Jvm.MethodName)) ∈ Gw := gw_c tin_8 118 rfl rfl
theorem mw_1799 : (Jvm.Cond.code ({ cls := "UnaskedNameModel", name := "noWho", desc := "(I)Z" } : Jvm.MethodName) prog_14_method_22_code (2 : Nat) (Option.some Jvm.ClassFile.FieldType.boolean)) ∈ Gw := gw_c tin_8 119 rfl rfl
theorem mw_1800 : (Jvm.Cond.methodLink "UnaskedNameModel" (346 : Nat) ({ cls := "UnaskedNameModel", name := "noWord", desc := "(I)Z" } : Jvm.MethodName)) ∈ Gw := gw_c tin_8 120 rfl rfl
theorem mw_1802 : (Jvm.Cond.instanceMethod ({ cls := "UnaskedNameModel", name := "noWord", desc := "(I)Z" } : Jvm.MethodName)) ∈ Gw := gw_c tin_8 122 rfl rfl
theorem mw_1803 : (Jvm.Cond.code ({ cls := "UnaskedNameModel", name := "noWord", desc := "(I)Z" } : Jvm.MethodName) prog_14_method_23_code (2 : Nat) (Option.some Jvm.ClassFile.FieldType.boolean)) ∈ Gw := gw_c tin_8 123 rfl rfl
theorem mw_1804 : (Jvm.Cond.methodLink "UnaskedNameModel" (349 : Nat) ({ cls := "UnaskedNameModel", name := "looksNow", desc := "()V" } : Jvm.MethodName)) ∈ Gw := gw_c tin_8 124 rfl rfl
theorem mw_1806 : (Jvm.Cond.instanceMethod ({ cls := "UnaskedNameModel", name := "looksNow", desc := "()V" } : Jvm.MethodName)) ∈ Gw := gw_c tin_8 126 rfl rfl
theorem mw_1807 : (Jvm.Cond.code ({ cls := "UnaskedNameModel", name := "looksNow", desc := "()V" } : Jvm.MethodName) prog_14_method_67_code (1 : Nat) (Option.none : Option Jvm.ClassFile.FieldType)) ∈ Gw := gw_c tin_8 127 rfl rfl
theorem mw_1808 : (Jvm.Cond.methodLink "UnaskedNameModel" (307 : Nat) ({ cls := "UnaskedNameModel", name := "howMany", desc := "()I" } : Jvm.MethodName)) ∈ Gw := gw_c tin_8 128 rfl rfl
theorem mw_1810 : (Jvm.Cond.instanceMethod ({ cls := "UnaskedNameModel", name := "howMany", desc := "()I" } : Jvm.MethodName)) ∈ Gw := gw_c tin_8 130 rfl rfl
theorem mw_1811 : (Jvm.Cond.code ({ cls := "UnaskedNameModel", name := "howMany", desc := "()I" } : Jvm.MethodName) prog_14_method_62_code (1 : Nat) (Option.some Jvm.ClassFile.FieldType.int)) ∈ Gw := gw_c tin_8 131 rfl rfl
theorem mw_1812 : (Jvm.Cond.methodLink "UnaskedNameModel" (310 : Nat) ({ cls := "UnaskedNameModel", name := "looks", desc := "(III)V" } : Jvm.MethodName)) ∈ Gw := gw_c tin_8 132 rfl rfl
theorem mw_1814 : (Jvm.Cond.instanceMethod ({ cls := "UnaskedNameModel", name := "looks", desc := "(III)V" } : Jvm.MethodName)) ∈ Gw := gw_c tin_8 134 rfl rfl
theorem mw_1815 : (Jvm.Cond.code ({ cls := "UnaskedNameModel", name := "looks", desc := "(III)V" } : Jvm.MethodName) prog_14_method_66_code (4 : Nat) (Option.none : Option Jvm.ClassFile.FieldType)) ∈ Gw := gw_c tin_8 135 rfl rfl
theorem mw_1816 : (Jvm.Cond.methodLink "UnaskedNameModel" (331 : Nat) ({ cls := "UnaskedNameModel", name := "stingsBy", desc := "(II)I" } : Jvm.MethodName)) ∈ Gw := gw_c tin_8 136 rfl rfl
theorem mw_1818 : (Jvm.Cond.instanceMethod ({ cls := "UnaskedNameModel", name := "stingsBy", desc := "(II)I" } : Jvm.MethodName)) ∈ Gw := gw_c tin_8 138 rfl rfl
theorem mw_1819 : (Jvm.Cond.code ({ cls := "UnaskedNameModel", name := "stingsBy", desc := "(II)I" } : Jvm.MethodName) prog_14_method_68_code (4 : Nat) (Option.some Jvm.ClassFile.FieldType.int)) ∈ Gw := gw_c tin_8 139 rfl rfl
theorem mw_1820 : (Jvm.Cond.methodLink "UnaskedNameModel" (314 : Nat) ({ cls := "UnaskedNameModel", name := "ofWord", desc := "(II)I" } : Jvm.MethodName)) ∈ Gw := gw_c tin_8 140 rfl rfl
theorem mw_1822 : (Jvm.Cond.instanceMethod ({ cls := "UnaskedNameModel", name := "ofWord", desc := "(II)I" } : Jvm.MethodName)) ∈ Gw := gw_c tin_8 142 rfl rfl
theorem mw_1823 : (Jvm.Cond.code ({ cls := "UnaskedNameModel", name := "ofWord", desc := "(II)I" } : Jvm.MethodName) prog_14_method_17_code (3 : Nat) (Option.some Jvm.ClassFile.FieldType.int)) ∈ Gw := gw_c tin_8 143 rfl rfl
theorem mw_1824 : (Jvm.Cond.methodLink "UnaskedNameModel" (317 : Nat) ({ cls := "UnaskedNameModel", name := "traitsOfHis", desc := "()I" } : Jvm.MethodName)) ∈ Gw := gw_c tin_8 144 rfl rfl
theorem mw_1826 : (Jvm.Cond.instanceMethod ({ cls := "UnaskedNameModel", name := "traitsOfHis", desc := "()I" } : Jvm.MethodName)) ∈ Gw := gw_c tin_8 146 rfl rfl
theorem mw_1827 : (Jvm.Cond.code ({ cls := "UnaskedNameModel", name := "traitsOfHis", desc := "()I" } : Jvm.MethodName) prog_14_method_61_code (1 : Nat) (Option.some Jvm.ClassFile.FieldType.int)) ∈ Gw := gw_c tin_8 147 rfl rfl
theorem mw_1828 : (Jvm.Cond.methodLink "UnaskedNameModel" (277 : Nat) ({ cls := "UnaskedNameModel", name := "ofName", desc := "(II)I" } : Jvm.MethodName)) ∈ Gw := gw_c tin_8 148 rfl rfl
theorem mw_1830 : (Jvm.Cond.instanceMethod ({ cls := "UnaskedNameModel", name := "ofName", desc := "(II)I" } : Jvm.MethodName)) ∈ Gw := gw_c tin_8 150 rfl rfl
theorem mw_1831 : (Jvm.Cond.code ({ cls := "UnaskedNameModel", name := "ofName", desc := "(II)I" } : Jvm.MethodName) prog_14_method_15_code (3 : Nat) (Option.some Jvm.ClassFile.FieldType.int)) ∈ Gw := gw_c tin_8 151 rfl rfl
theorem mw_1832 : (Jvm.Cond.methodLink "UnaskedNameModel" (320 : Nat) ({ cls := "UnaskedNameModel", name := "sumOf", desc := "(I)I" } : Jvm.MethodName)) ∈ Gw := gw_c tin_8 152 rfl rfl
theorem mw_1834 : (Jvm.Cond.instanceMethod ({ cls := "UnaskedNameModel", name := "sumOf", desc := "(I)I" } : Jvm.MethodName)) ∈ Gw := gw_c tin_8 154 rfl rfl
theorem mw_1835 : (Jvm.Cond.code ({ cls := "UnaskedNameModel", name := "sumOf", desc := "(I)I" } : Jvm.MethodName) prog_14_method_65_code (4 : Nat) (Option.some Jvm.ClassFile.FieldType.int)) ∈ Gw := gw_c tin_8 155 rfl rfl
theorem mw_1836 : (Jvm.Cond.methodLink "UnaskedNameModel" (304 : Nat) ({ cls := "UnaskedNameModel", name := "holdsLine", desc := "(I)Z" } : Jvm.MethodName)) ∈ Gw := gw_c tin_8 156 rfl rfl
theorem mw_1838 : (Jvm.Cond.instanceMethod ({ cls := "UnaskedNameModel", name := "holdsLine", desc := "(I)Z" } : Jvm.MethodName)) ∈ Gw := gw_c tin_8 158 rfl rfl
theorem mw_1839 : (Jvm.Cond.code ({ cls := "UnaskedNameModel", name := "holdsLine", desc := "(I)Z" } : Jvm.MethodName) prog_14_method_64_code (9 : Nat) (Option.some Jvm.ClassFile.FieldType.boolean)) ∈ Gw := gw_c tin_8 159 rfl rfl
theorem mw_1840 : (Jvm.Cond.methodLink "UnaskedNameModel" (301 : Nat) ({ cls := "UnaskedNameModel", name := "factOf", desc := "(II)I" } : Jvm.MethodName)) ∈ Gw := gw_c tin_8 160 rfl rfl
theorem mw_1842 : (Jvm.Cond.instanceMethod ({ cls := "UnaskedNameModel", name := "factOf", desc := "(II)I" } : Jvm.MethodName)) ∈ Gw := gw_c tin_8 162 rfl rfl
theorem mw_1843 : (Jvm.Cond.code ({ cls := "UnaskedNameModel", name := "factOf", desc := "(II)I" } : Jvm.MethodName) prog_14_method_63_code (3 : Nat) (Option.some Jvm.ClassFile.FieldType.int)) ∈ Gw := gw_c tin_8 163 rfl rfl
theorem mw_1844 : (Jvm.Cond.methodLink "UnaskedNameModel" (323 : Nat) ({ cls := "java/lang/Math", name := "max", desc := "(II)I" } : Jvm.MethodName)) ∈ Gw := gw_c tin_8 164 rfl rfl
theorem mw_1845 : (Jvm.Cond.methodLink "UnaskedNameLaw" (193 : Nat) ({ cls := "UnaskedNameModel", name := "would", desc := "(IIZ)I" } : Jvm.MethodName)) ∈ Gw := gw_c tin_8 165 rfl rfl
theorem mw_1846 : (Jvm.Cond.instanceMethod ({ cls := "UnaskedNameModel", name := "would", desc := "(IIZ)I" } : Jvm.MethodName)) ∈ Gw := gw_c tin_8 166 rfl rfl
theorem mw_1847 : (Jvm.Cond.selects "UnaskedNameModel" ({ cls := "UnaskedNameModel", name := "would", desc := "(IIZ)I" } : Jvm.MethodName) ({ cls := "UnaskedNameModel", name := "would", desc := "(IIZ)I" } : Jvm.MethodName)) ∈ Gw := gw_c tin_8 167 rfl rfl
theorem mw_1848 : (Jvm.Cond.code ({ cls := "UnaskedNameModel", name := "would", desc := "(IIZ)I" } : Jvm.MethodName) prog_14_method_75_code (4 : Nat) (Option.some Jvm.ClassFile.FieldType.int)) ∈ Gw := gw_c tin_8 168 rfl rfl
theorem mw_1849 : (Jvm.Cond.methodLink "UnaskedNameModel" (352 : Nat) ({ cls := "UnaskedNameModel", name := "possibleBehind", desc := "(II)I" } : Jvm.MethodName)) ∈ Gw := gw_c tin_8 169 rfl rfl
theorem mw_1851 : (Jvm.Cond.instanceMethod ({ cls := "UnaskedNameModel", name := "possibleBehind", desc := "(II)I" } : Jvm.MethodName)) ∈ Gw := gw_c tin_8 171 rfl rfl
theorem mw_1852 : (Jvm.Cond.code ({ cls := "UnaskedNameModel", name := "possibleBehind", desc := "(II)I" } : Jvm.MethodName) prog_14_method_73_code (4 : Nat) (Option.some Jvm.ClassFile.FieldType.int)) ∈ Gw := gw_c tin_8 172 rfl rfl
theorem mw_1853 : (Jvm.Cond.methodLink "UnaskedNameModel" (340 : Nat) ({ cls := "UnaskedNameModel", name := "staysOf", desc := "(II)I" } : Jvm.MethodName)) ∈ Gw := gw_c tin_8 173 rfl rfl
theorem mw_1855 : (Jvm.Cond.instanceMethod ({ cls := "UnaskedNameModel", name := "staysOf", desc := "(II)I" } : Jvm.MethodName)) ∈ Gw := gw_c tin_8 175 rfl rfl
theorem mw_1856 : (Jvm.Cond.code ({ cls := "UnaskedNameModel", name := "staysOf", desc := "(II)I" } : Jvm.MethodName) prog_14_method_72_code (5 : Nat) (Option.some Jvm.ClassFile.FieldType.int)) ∈ Gw := gw_c tin_8 176 rfl rfl
theorem mw_1857 : (Jvm.Cond.methodLink "UnaskedNameModel" (355 : Nat) ({ cls := "UnaskedNameModel", name := "behindWord", desc := "(II)I" } : Jvm.MethodName)) ∈ Gw := gw_c tin_8 177 rfl rfl
theorem mw_1859 : (Jvm.Cond.instanceMethod ({ cls := "UnaskedNameModel", name := "behindWord", desc := "(II)I" } : Jvm.MethodName)) ∈ Gw := gw_c tin_8 179 rfl rfl
theorem mw_1860 : (Jvm.Cond.code ({ cls := "UnaskedNameModel", name := "behindWord", desc := "(II)I" } : Jvm.MethodName) prog_14_method_70_code (3 : Nat) (Option.some Jvm.ClassFile.FieldType.int)) ∈ Gw := gw_c tin_8 180 rfl rfl
theorem mw_1861 : (Jvm.Cond.methodLink "UnaskedNameModel" (334 : Nat) ({ cls := "java/lang/Math", name := "min", desc := "(II)I" } : Jvm.MethodName)) ∈ Gw := gw_c tin_8 181 rfl rfl
theorem mw_1862 : (Jvm.Cond.methodLink "UnaskedNameLaw" (164 : Nat) ({ cls := "UnaskedNameModel", name := "deed", desc := "(II)I" } : Jvm.MethodName)) ∈ Gw := gw_c tin_8 182 rfl rfl
theorem mw_1863 : (Jvm.Cond.instanceMethod ({ cls := "UnaskedNameModel", name := "deed", desc := "(II)I" } : Jvm.MethodName)) ∈ Gw := gw_c tin_8 183 rfl rfl
theorem mw_1864 : (Jvm.Cond.selects "UnaskedNameModel" ({ cls := "UnaskedNameModel", name := "deed", desc := "(II)I" } : Jvm.MethodName) ({ cls := "UnaskedNameModel", name := "deed", desc := "(II)I" } : Jvm.MethodName)) ∈ Gw := gw_c tin_8 184 rfl rfl
theorem mw_1865 : (Jvm.Cond.code ({ cls := "UnaskedNameModel", name := "deed", desc := "(II)I" } : Jvm.MethodName) prog_14_method_76_code (3 : Nat) (Option.some Jvm.ClassFile.FieldType.int)) ∈ Gw := gw_c tin_8 185 rfl rfl
theorem mw_1866 : (Jvm.Cond.methodLink "UnaskedNameModel" (358 : Nat) ({ cls := "UnaskedNameModel", name := "noDeed", desc := "(I)Z" } : Jvm.MethodName)) ∈ Gw := gw_c tin_8 186 rfl rfl
theorem mw_1868 : (Jvm.Cond.instanceMethod ({ cls := "UnaskedNameModel", name := "noDeed", desc := "(I)Z" } : Jvm.MethodName)) ∈ Gw := gw_c tin_8 188 rfl rfl
theorem mw_1869 : (Jvm.Cond.code ({ cls := "UnaskedNameModel", name := "noDeed", desc := "(I)Z" } : Jvm.MethodName) prog_14_method_24_code (2 : Nat) (Option.some Jvm.ClassFile.FieldType.boolean)) ∈ Gw := gw_c tin_8 189 rfl rfl
theorem mw_1870 : (Jvm.Cond.methodLink "UnaskedNameModel" (337 : Nat) ({ cls := "UnaskedNameModel", name := "easesBy", desc := "(I)I" } : Jvm.MethodName)) ∈ Gw := gw_c tin_8 190 rfl rfl
theorem mw_1872 : (Jvm.Cond.instanceMethod ({ cls := "UnaskedNameModel", name := "easesBy", desc := "(I)I" } : Jvm.MethodName)) ∈ Gw := gw_c tin_8 192 rfl rfl
theorem mw_1873 : (Jvm.Cond.code ({ cls := "UnaskedNameModel", name := "easesBy", desc := "(I)I" } : Jvm.MethodName) prog_14_method_69_code (2 : Nat) (Option.some Jvm.ClassFile.FieldType.int)) ∈ Gw := gw_c tin_8 193 rfl rfl
theorem mw_1874 : (Jvm.Cond.methodLink "UnaskedNameModel" (328 : Nat) ({ cls := "UnaskedNameModel", name := "ofDeed", desc := "(II)I" } : Jvm.MethodName)) ∈ Gw := gw_c tin_8 194 rfl rfl
theorem mw_1876 : (Jvm.Cond.instanceMethod ({ cls := "UnaskedNameModel", name := "ofDeed", desc := "(II)I" } : Jvm.MethodName)) ∈ Gw := gw_c tin_8 196 rfl rfl
theorem mw_1877 : (Jvm.Cond.code ({ cls := "UnaskedNameModel", name := "ofDeed", desc := "(II)I" } : Jvm.MethodName) prog_14_method_18_code (3 : Nat) (Option.some Jvm.ClassFile.FieldType.int)) ∈ Gw := gw_c tin_8 197 rfl rfl
theorem mw_1878 : (Jvm.Cond.methodLink "UnaskedNameLaw" (161 : Nat) ({ cls := "UnaskedNameModel", name := "word", desc := "(IZ)I" } : Jvm.MethodName)) ∈ Gw := gw_c tin_8 198 rfl rfl
theorem mw_1879 : (Jvm.Cond.instanceMethod ({ cls := "UnaskedNameModel", name := "word", desc := "(IZ)I" } : Jvm.MethodName)) ∈ Gw := gw_c tin_8 199 rfl rfl
theorem mw_1880 : (Jvm.Cond.selects "UnaskedNameModel" ({ cls := "UnaskedNameModel", name := "word", desc := "(IZ)I" } : Jvm.MethodName) ({ cls := "UnaskedNameModel", name := "word", desc := "(IZ)I" } : Jvm.MethodName)) ∈ Gw := gw_c tin_8 200 rfl rfl
theorem mw_1881 : (Jvm.Cond.code ({ cls := "UnaskedNameModel", name := "word", desc := "(IZ)I" } : Jvm.MethodName) prog_14_method_77_code (3 : Nat) (Option.some Jvm.ClassFile.FieldType.int)) ∈ Gw := gw_c tin_8 201 rfl rfl
theorem mw_1882 : (Jvm.Cond.methodLink "UnaskedNameLaw" (157 : Nat) ({ cls := "UnaskedNameModel", name := "court", desc := "(II)I" } : Jvm.MethodName)) ∈ Gw := gw_c tin_8 202 rfl rfl
theorem mw_1883 : (Jvm.Cond.instanceMethod ({ cls := "UnaskedNameModel", name := "court", desc := "(II)I" } : Jvm.MethodName)) ∈ Gw := gw_c tin_8 203 rfl rfl
theorem mw_1884 : (Jvm.Cond.selects "UnaskedNameModel" ({ cls := "UnaskedNameModel", name := "court", desc := "(II)I" } : Jvm.MethodName) ({ cls := "UnaskedNameModel", name := "court", desc := "(II)I" } : Jvm.MethodName)) ∈ Gw := gw_c tin_8 204 rfl rfl
theorem mw_1885 : (Jvm.Cond.code ({ cls := "UnaskedNameModel", name := "court", desc := "(II)I" } : Jvm.MethodName) prog_14_method_78_code (3 : Nat) (Option.some Jvm.ClassFile.FieldType.int)) ∈ Gw := gw_c tin_8 205 rfl rfl
theorem mw_1886 : (Jvm.Cond.methodLink "UnaskedNameModel" (62 : Nat) ({ cls := "UnaskedNameModel", name := "ofWho", desc := "(II)I" } : Jvm.MethodName)) ∈ Gw := gw_c tin_8 206 rfl rfl
theorem mw_1888 : (Jvm.Cond.instanceMethod ({ cls := "UnaskedNameModel", name := "ofWho", desc := "(II)I" } : Jvm.MethodName)) ∈ Gw := gw_c tin_8 208 rfl rfl
theorem mw_1889 : (Jvm.Cond.code ({ cls := "UnaskedNameModel", name := "ofWho", desc := "(II)I" } : Jvm.MethodName) prog_14_method_16_code (3 : Nat) (Option.some Jvm.ClassFile.FieldType.int)) ∈ Gw := gw_c tin_8 209 rfl rfl
theorem mw_1890 : (Jvm.Cond.methodLink "UnaskedNameLaw" (274 : Nat) ({ cls := "UnaskedNameModel", name := "sharpest", desc := "(I)I" } : Jvm.MethodName)) ∈ Gw := gw_c tin_8 210 rfl rfl
theorem mw_1891 : (Jvm.Cond.instanceMethod ({ cls := "UnaskedNameModel", name := "sharpest", desc := "(I)I" } : Jvm.MethodName)) ∈ Gw := gw_c tin_8 211 rfl rfl
theorem mw_1892 : (Jvm.Cond.selects "UnaskedNameModel" ({ cls := "UnaskedNameModel", name := "sharpest", desc := "(I)I" } : Jvm.MethodName) ({ cls := "UnaskedNameModel", name := "sharpest", desc := "(I)I" } : Jvm.MethodName)) ∈ Gw := gw_c tin_8 212 rfl rfl
theorem mw_1893 : (Jvm.Cond.code ({ cls := "UnaskedNameModel", name := "sharpest", desc := "(I)I" } : Jvm.MethodName) prog_14_method_79_code (6 : Nat) (Option.some Jvm.ClassFile.FieldType.int)) ∈ Gw := gw_c tin_8 213 rfl rfl
theorem mw_1894 : (Jvm.Cond.methodLink "UnaskedNameLaw" (268 : Nat) ({ cls := "UnaskedNameModel", name := "fits", desc := "(I)I" } : Jvm.MethodName)) ∈ Gw := gw_c tin_8 214 rfl rfl
theorem mw_1895 : (Jvm.Cond.instanceMethod ({ cls := "UnaskedNameModel", name := "fits", desc := "(I)I" } : Jvm.MethodName)) ∈ Gw := gw_c tin_8 215 rfl rfl
theorem mw_1896 : (Jvm.Cond.selects "UnaskedNameModel" ({ cls := "UnaskedNameModel", name := "fits", desc := "(I)I" } : Jvm.MethodName) ({ cls := "UnaskedNameModel", name := "fits", desc := "(I)I" } : Jvm.MethodName)) ∈ Gw := gw_c tin_8 216 rfl rfl
theorem mw_1897 : (Jvm.Cond.code ({ cls := "UnaskedNameModel", name := "fits", desc := "(I)I" } : Jvm.MethodName) prog_14_method_80_code (5 : Nat) (Option.some Jvm.ClassFile.FieldType.int)) ∈ Gw := gw_c tin_8 217 rfl rfl
theorem mw_1898 : (Jvm.Cond.methodLink "UnaskedNameLaw" (170 : Nat) ({ cls := "UnaskedNameModel", name := "say", desc := "(II)I" } : Jvm.MethodName)) ∈ Gw := gw_c tin_8 218 rfl rfl
theorem mw_1899 : (Jvm.Cond.instanceMethod ({ cls := "UnaskedNameModel", name := "say", desc := "(II)I" } : Jvm.MethodName)) ∈ Gw := gw_c tin_8 219 rfl rfl
theorem mw_1900 : (Jvm.Cond.selects "UnaskedNameModel" ({ cls := "UnaskedNameModel", name := "say", desc := "(II)I" } : Jvm.MethodName) ({ cls := "UnaskedNameModel", name := "say", desc := "(II)I" } : Jvm.MethodName)) ∈ Gw := gw_c tin_8 220 rfl rfl
theorem mw_1901 : (Jvm.Cond.code ({ cls := "UnaskedNameModel", name := "say", desc := "(II)I" } : Jvm.MethodName) prog_14_method_84_code (3 : Nat) (Option.some Jvm.ClassFile.FieldType.int)) ∈ Gw := gw_c tin_8 221 rfl rfl
theorem mw_1902 : (Jvm.Cond.methodLink "UnaskedNameModel" (367 : Nat) ({ cls := "UnaskedNameModel", name := "isGone", desc := "()Z" } : Jvm.MethodName)) ∈ Gw := gw_c tin_8 222 rfl rfl
theorem mw_1904 : (Jvm.Cond.instanceMethod ({ cls := "UnaskedNameModel", name := "isGone", desc := "()Z" } : Jvm.MethodName)) ∈ Gw := gw_c tin_8 224 rfl rfl
theorem mw_1905 : (Jvm.Cond.code ({ cls := "UnaskedNameModel", name := "isGone", desc := "()Z" } : Jvm.MethodName) prog_14_method_20_code (1 : Nat) (Option.some Jvm.ClassFile.FieldType.boolean)) ∈ Gw := gw_c tin_8 225 rfl rfl
theorem mw_1906 : (Jvm.Cond.methodLink "UnaskedNameModel" (370 : Nat) ({ cls := "UnaskedNameModel", name := "isNear", desc := "(I)Z" } : Jvm.MethodName)) ∈ Gw := gw_c tin_8 226 rfl rfl
theorem mw_1908 : (Jvm.Cond.instanceMethod ({ cls := "UnaskedNameModel", name := "isNear", desc := "(I)Z" } : Jvm.MethodName)) ∈ Gw := gw_c tin_8 228 rfl rfl
theorem mw_1909 : (Jvm.Cond.code ({ cls := "UnaskedNameModel", name := "isNear", desc := "(I)Z" } : Jvm.MethodName) prog_14_method_19_code (2 : Nat) (Option.some Jvm.ClassFile.FieldType.boolean)) ∈ Gw := gw_c tin_8 229 rfl rfl
theorem mw_1910 : (Jvm.Cond.methodLink "UnaskedNameModel" (373 : Nat) ({ cls := "UnaskedNameModel", name := "remembers", desc := "()V" } : Jvm.MethodName)) ∈ Gw := gw_c tin_8 230 rfl rfl
theorem mw_1912 : (Jvm.Cond.instanceMethod ({ cls := "UnaskedNameModel", name := "remembers", desc := "()V" } : Jvm.MethodName)) ∈ Gw := gw_c tin_8 232 rfl rfl
theorem mw_1913 : (Jvm.Cond.code ({ cls := "UnaskedNameModel", name := "remembers", desc := "()V" } : Jvm.MethodName) prog_14_method_8_code (2 : Nat) (Option.none : Option Jvm.ClassFile.FieldType)) ∈ Gw := gw_c tin_8 233 rfl rfl
theorem mw_1914 : (Jvm.Cond.methodLink "UnaskedNameModel" (376 : Nat) ({ cls := "UnaskedNameModel", name := "says", desc := "(II)V" } : Jvm.MethodName)) ∈ Gw := gw_c tin_8 234 rfl rfl
theorem mw_1916 : (Jvm.Cond.instanceMethod ({ cls := "UnaskedNameModel", name := "says", desc := "(II)V" } : Jvm.MethodName)) ∈ Gw := gw_c tin_8 236 rfl rfl
theorem mw_1917 : (Jvm.Cond.code ({ cls := "UnaskedNameModel", name := "says", desc := "(II)V" } : Jvm.MethodName) prog_14_method_82_code (3 : Nat) (Option.none : Option Jvm.ClassFile.FieldType)) ∈ Gw := gw_c tin_8 237 rfl rfl
theorem mw_1918 : (Jvm.Cond.methodLink "UnaskedNameModel" (361 : Nat) ({ cls := "UnaskedNameModel", name := "tells", desc := "(II)V" } : Jvm.MethodName)) ∈ Gw := gw_c tin_8 238 rfl rfl
theorem mw_1920 : (Jvm.Cond.instanceMethod ({ cls := "UnaskedNameModel", name := "tells", desc := "(II)V" } : Jvm.MethodName)) ∈ Gw := gw_c tin_9 0 rfl rfl
theorem mw_1921 : (Jvm.Cond.code ({ cls := "UnaskedNameModel", name := "tells", desc := "(II)V" } : Jvm.MethodName) prog_14_method_81_code (4 : Nat) (Option.none : Option Jvm.ClassFile.FieldType)) ∈ Gw := gw_c tin_9 1 rfl rfl
theorem mw_1922 : (Jvm.Cond.methodLink "UnaskedNameLaw" (174 : Nat) ({ cls := "UnaskedNameModel", name := "does", desc := "(I)I" } : Jvm.MethodName)) ∈ Gw := gw_c tin_9 2 rfl rfl
theorem mw_1923 : (Jvm.Cond.instanceMethod ({ cls := "UnaskedNameModel", name := "does", desc := "(I)I" } : Jvm.MethodName)) ∈ Gw := gw_c tin_9 3 rfl rfl
theorem mw_1924 : (Jvm.Cond.selects "UnaskedNameModel" ({ cls := "UnaskedNameModel", name := "does", desc := "(I)I" } : Jvm.MethodName) ({ cls := "UnaskedNameModel", name := "does", desc := "(I)I" } : Jvm.MethodName)) ∈ Gw := gw_c tin_9 4 rfl rfl
theorem mw_1925 : (Jvm.Cond.code ({ cls := "UnaskedNameModel", name := "does", desc := "(I)I" } : Jvm.MethodName) prog_14_method_85_code (2 : Nat) (Option.some Jvm.ClassFile.FieldType.int)) ∈ Gw := gw_c tin_9 5 rfl rfl
theorem mw_1926 : (Jvm.Cond.methodLink "UnaskedNameModel" (379 : Nat) ({ cls := "UnaskedNameModel", name := "isDone", desc := "(I)V" } : Jvm.MethodName)) ∈ Gw := gw_c tin_9 6 rfl rfl
theorem mw_1928 : (Jvm.Cond.instanceMethod ({ cls := "UnaskedNameModel", name := "isDone", desc := "(I)V" } : Jvm.MethodName)) ∈ Gw := gw_c tin_9 8 rfl rfl
theorem mw_1929 : (Jvm.Cond.code ({ cls := "UnaskedNameModel", name := "isDone", desc := "(I)V" } : Jvm.MethodName) prog_14_method_83_code (2 : Nat) (Option.none : Option Jvm.ClassFile.FieldType)) ∈ Gw := gw_c tin_9 9 rfl rfl
theorem mw_1930 : (Jvm.Cond.methodLink "UnaskedNameModel" (364 : Nat) ({ cls := "UnaskedNameModel", name := "behindDeed", desc := "(I)I" } : Jvm.MethodName)) ∈ Gw := gw_c tin_9 10 rfl rfl
theorem mw_1932 : (Jvm.Cond.instanceMethod ({ cls := "UnaskedNameModel", name := "behindDeed", desc := "(I)I" } : Jvm.MethodName)) ∈ Gw := gw_c tin_9 12 rfl rfl
theorem mw_1933 : (Jvm.Cond.code ({ cls := "UnaskedNameModel", name := "behindDeed", desc := "(I)I" } : Jvm.MethodName) prog_14_method_71_code (2 : Nat) (Option.some Jvm.ClassFile.FieldType.int)) ∈ Gw := gw_c tin_9 13 rfl rfl
theorem mw_1934 : (Jvm.Cond.methodLink "UnaskedNameLaw" (177 : Nat) ({ cls := "UnaskedNameModel", name := "keep", desc := "(IZ)Z" } : Jvm.MethodName)) ∈ Gw := gw_c tin_9 14 rfl rfl
theorem mw_1935 : (Jvm.Cond.instanceMethod ({ cls := "UnaskedNameModel", name := "keep", desc := "(IZ)Z" } : Jvm.MethodName)) ∈ Gw := gw_c tin_9 15 rfl rfl
theorem mw_1936 : (Jvm.Cond.selects "UnaskedNameModel" ({ cls := "UnaskedNameModel", name := "keep", desc := "(IZ)Z" } : Jvm.MethodName) ({ cls := "UnaskedNameModel", name := "keep", desc := "(IZ)Z" } : Jvm.MethodName)) ∈ Gw := gw_c tin_9 16 rfl rfl
theorem mw_1937 : (Jvm.Cond.code ({ cls := "UnaskedNameModel", name := "keep", desc := "(IZ)Z" } : Jvm.MethodName) prog_14_method_86_code (4 : Nat) (Option.some Jvm.ClassFile.FieldType.boolean)) ∈ Gw := gw_c tin_9 17 rfl rfl
theorem mw_1938 : (Jvm.Cond.methodLink "UnaskedNameLaw" (180 : Nat) ({ cls := "UnaskedNameModel", name := "habit", desc := "(II)I" } : Jvm.MethodName)) ∈ Gw := gw_c tin_9 18 rfl rfl
theorem mw_1939 : (Jvm.Cond.instanceMethod ({ cls := "UnaskedNameModel", name := "habit", desc := "(II)I" } : Jvm.MethodName)) ∈ Gw := gw_c tin_9 19 rfl rfl
theorem mw_1940 : (Jvm.Cond.selects "UnaskedNameModel" ({ cls := "UnaskedNameModel", name := "habit", desc := "(II)I" } : Jvm.MethodName) ({ cls := "UnaskedNameModel", name := "habit", desc := "(II)I" } : Jvm.MethodName)) ∈ Gw := gw_c tin_9 20 rfl rfl
theorem mw_1941 : (Jvm.Cond.code ({ cls := "UnaskedNameModel", name := "habit", desc := "(II)I" } : Jvm.MethodName) prog_14_method_87_code (4 : Nat) (Option.some Jvm.ClassFile.FieldType.int)) ∈ Gw := gw_c tin_9 21 rfl rfl
theorem mw_1942 : (Jvm.Cond.methodLink "UnaskedNameLaw" (183 : Nat) ({ cls := "UnaskedNameModel", name := "his", desc := "(I)I" } : Jvm.MethodName)) ∈ Gw := gw_c tin_9 22 rfl rfl
theorem mw_1943 : (Jvm.Cond.instanceMethod ({ cls := "UnaskedNameModel", name := "his", desc := "(I)I" } : Jvm.MethodName)) ∈ Gw := gw_c tin_9 23 rfl rfl
theorem mw_1944 : (Jvm.Cond.selects "UnaskedNameModel" ({ cls := "UnaskedNameModel", name := "his", desc := "(I)I" } : Jvm.MethodName) ({ cls := "UnaskedNameModel", name := "his", desc := "(I)I" } : Jvm.MethodName)) ∈ Gw := gw_c tin_9 24 rfl rfl
theorem mw_1945 : (Jvm.Cond.code ({ cls := "UnaskedNameModel", name := "his", desc := "(I)I" } : Jvm.MethodName) prog_14_method_88_code (3 : Nat) (Option.some Jvm.ClassFile.FieldType.int)) ∈ Gw := gw_c tin_9 25 rfl rfl
theorem mw_1946 : (Jvm.Cond.methodLink "UnaskedNameModel" (382 : Nat) ({ cls := "UnaskedNameModel", name := "noName", desc := "(I)Z" } : Jvm.MethodName)) ∈ Gw := gw_c tin_9 26 rfl rfl
theorem mw_1948 : (Jvm.Cond.instanceMethod ({ cls := "UnaskedNameModel", name := "noName", desc := "(I)Z" } : Jvm.MethodName)) ∈ Gw := gw_c tin_9 28 rfl rfl
theorem mw_1949 : (Jvm.Cond.code ({ cls := "UnaskedNameModel", name := "noName", desc := "(I)Z" } : Jvm.MethodName) prog_14_method_21_code (2 : Nat) (Option.some Jvm.ClassFile.FieldType.boolean)) ∈ Gw := gw_c tin_9 29 rfl rfl
theorem mw_1950 : (Jvm.Cond.methodLink "UnaskedNameLaw" (186 : Nat) ({ cls := "UnaskedNameModel", name := "crumb", desc := "(I)I" } : Jvm.MethodName)) ∈ Gw := gw_c tin_9 30 rfl rfl
theorem mw_1951 : (Jvm.Cond.instanceMethod ({ cls := "UnaskedNameModel", name := "crumb", desc := "(I)I" } : Jvm.MethodName)) ∈ Gw := gw_c tin_9 31 rfl rfl
theorem mw_1952 : (Jvm.Cond.selects "UnaskedNameModel" ({ cls := "UnaskedNameModel", name := "crumb", desc := "(I)I" } : Jvm.MethodName) ({ cls := "UnaskedNameModel", name := "crumb", desc := "(I)I" } : Jvm.MethodName)) ∈ Gw := gw_c tin_9 32 rfl rfl
theorem mw_1953 : (Jvm.Cond.code ({ cls := "UnaskedNameModel", name := "crumb", desc := "(I)I" } : Jvm.MethodName) prog_14_method_89_code (2 : Nat) (Option.some Jvm.ClassFile.FieldType.int)) ∈ Gw := gw_c tin_9 33 rfl rfl
theorem mw_1954 : (Jvm.Cond.methodLink "UnaskedNameModel" (385 : Nat) ({ cls := "UnaskedNameModel", name := "noTrait", desc := "(I)Z" } : Jvm.MethodName)) ∈ Gw := gw_c tin_9 34 rfl rfl
theorem mw_1955 : (Jvm.Cond.static ({ cls := "UnaskedNameModel", name := "noTrait", desc := "(I)Z" } : Jvm.MethodName)) ∈ Gw := gw_c tin_9 35 rfl rfl
theorem mw_1956 : (Jvm.Cond.code ({ cls := "UnaskedNameModel", name := "noTrait", desc := "(I)Z" } : Jvm.MethodName) prog_14_method_25_code (1 : Nat) (Option.some Jvm.ClassFile.FieldType.boolean)) ∈ Gw := gw_c tin_9 36 rfl rfl
theorem mw_1957 : (Jvm.Cond.methodLink "UnaskedNameLaw" (189 : Nat) ({ cls := "UnaskedNameModel", name := "nights", desc := "(I)I" } : Jvm.MethodName)) ∈ Gw := gw_c tin_9 37 rfl rfl
theorem mw_1958 : (Jvm.Cond.instanceMethod ({ cls := "UnaskedNameModel", name := "nights", desc := "(I)I" } : Jvm.MethodName)) ∈ Gw := gw_c tin_9 38 rfl rfl
theorem mw_1959 : (Jvm.Cond.selects "UnaskedNameModel" ({ cls := "UnaskedNameModel", name := "nights", desc := "(I)I" } : Jvm.MethodName) ({ cls := "UnaskedNameModel", name := "nights", desc := "(I)I" } : Jvm.MethodName)) ∈ Gw := gw_c tin_9 39 rfl rfl
theorem mw_1960 : (Jvm.Cond.code ({ cls := "UnaskedNameModel", name := "nights", desc := "(I)I" } : Jvm.MethodName) prog_14_method_96_code (2 : Nat) (Option.some Jvm.ClassFile.FieldType.int)) ∈ Gw := gw_c tin_9 40 rfl rfl
theorem mw_1961 : (Jvm.Cond.methodLink "UnaskedNameModel" (397 : Nat) ({ cls := "UnaskedNameModel", name := "goesBy", desc := "(I)I" } : Jvm.MethodName)) ∈ Gw := gw_c tin_9 41 rfl rfl
theorem mw_1963 : (Jvm.Cond.instanceMethod ({ cls := "UnaskedNameModel", name := "goesBy", desc := "(I)I" } : Jvm.MethodName)) ∈ Gw := gw_c tin_9 43 rfl rfl
theorem mw_1964 : (Jvm.Cond.code ({ cls := "UnaskedNameModel", name := "goesBy", desc := "(I)I" } : Jvm.MethodName) prog_14_method_93_code (3 : Nat) (Option.some Jvm.ClassFile.FieldType.int)) ∈ Gw := gw_c tin_9 44 rfl rfl
theorem mw_1965 : (Jvm.Cond.methodLink "UnaskedNameModel" (391 : Nat) ({ cls := "UnaskedNameModel", name := "isOver", desc := "()Z" } : Jvm.MethodName)) ∈ Gw := gw_c tin_9 45 rfl rfl
theorem mw_1967 : (Jvm.Cond.instanceMethod ({ cls := "UnaskedNameModel", name := "isOver", desc := "()Z" } : Jvm.MethodName)) ∈ Gw := gw_c tin_9 47 rfl rfl
theorem mw_1968 : (Jvm.Cond.code ({ cls := "UnaskedNameModel", name := "isOver", desc := "()Z" } : Jvm.MethodName) prog_14_method_90_code (1 : Nat) (Option.some Jvm.ClassFile.FieldType.boolean)) ∈ Gw := gw_c tin_9 48 rfl rfl
theorem mw_1969 : (Jvm.Cond.methodLink "UnaskedNameModel" (394 : Nat) ({ cls := "UnaskedNameModel", name := "oneNight", desc := "()V" } : Jvm.MethodName)) ∈ Gw := gw_c tin_9 49 rfl rfl
theorem mw_1971 : (Jvm.Cond.instanceMethod ({ cls := "UnaskedNameModel", name := "oneNight", desc := "()V" } : Jvm.MethodName)) ∈ Gw := gw_c tin_9 51 rfl rfl
theorem mw_1972 : (Jvm.Cond.code ({ cls := "UnaskedNameModel", name := "oneNight", desc := "()V" } : Jvm.MethodName) prog_14_method_91_code (2 : Nat) (Option.none : Option Jvm.ClassFile.FieldType)) ∈ Gw := gw_c tin_9 52 rfl rfl
theorem mw_1973 : (Jvm.Cond.methodLink "UnaskedNameModel" (388 : Nat) ({ cls := "UnaskedNameModel", name := "drawn", desc := "(I)I" } : Jvm.MethodName)) ∈ Gw := gw_c tin_9 53 rfl rfl
theorem mw_1975 : (Jvm.Cond.instanceMethod ({ cls := "UnaskedNameModel", name := "drawn", desc := "(I)I" } : Jvm.MethodName)) ∈ Gw := gw_c tin_9 55 rfl rfl
theorem mw_1976 : (Jvm.Cond.code ({ cls := "UnaskedNameModel", name := "drawn", desc := "(I)I" } : Jvm.MethodName) prog_14_method_26_code (2 : Nat) (Option.some Jvm.ClassFile.FieldType.int)) ∈ Gw := gw_c tin_9 56 rfl rfl
theorem mw_1977 : (Jvm.Cond.constant "UnaskedNameModel" (83 : Nat) (1103515245 : Int32)) ∈ Gw := gw_c tin_9 57 rfl rfl
theorem mw_1978 : (Jvm.Cond.methodLink "UnaskedNameLaw" (196 : Nat) ({ cls := "UnaskedNameModel", name := "ahead", desc := "(II)I" } : Jvm.MethodName)) ∈ Gw := gw_c tin_9 58 rfl rfl
theorem mw_1979 : (Jvm.Cond.instanceMethod ({ cls := "UnaskedNameModel", name := "ahead", desc := "(II)I" } : Jvm.MethodName)) ∈ Gw := gw_c tin_9 59 rfl rfl
theorem mw_1980 : (Jvm.Cond.selects "UnaskedNameModel" ({ cls := "UnaskedNameModel", name := "ahead", desc := "(II)I" } : Jvm.MethodName) ({ cls := "UnaskedNameModel", name := "ahead", desc := "(II)I" } : Jvm.MethodName)) ∈ Gw := gw_c tin_9 60 rfl rfl
theorem mw_1981 : (Jvm.Cond.code ({ cls := "UnaskedNameModel", name := "ahead", desc := "(II)I" } : Jvm.MethodName) prog_14_method_98_code (4 : Nat) (Option.some Jvm.ClassFile.FieldType.int)) ∈ Gw := gw_c tin_9 61 rfl rfl
theorem mw_1982 : (Jvm.Cond.methodLink "UnaskedNameModel" (400 : Nat) ({ cls := "UnaskedNameModel", name := "noDeedTold", desc := "(I)Z" } : Jvm.MethodName)) ∈ Gw := gw_c tin_9 62 rfl rfl
theorem mw_1984 : (Jvm.Cond.instanceMethod ({ cls := "UnaskedNameModel", name := "noDeedTold", desc := "(I)Z" } : Jvm.MethodName)) ∈ Gw := gw_c tin_9 64 rfl rfl
theorem mw_1985 : (Jvm.Cond.code ({ cls := "UnaskedNameModel", name := "noDeedTold", desc := "(I)Z" } : Jvm.MethodName) prog_14_method_97_code (2 : Nat) (Option.some Jvm.ClassFile.FieldType.boolean)) ∈ Gw := gw_c tin_9 65 rfl rfl
theorem mw_1986 : (Jvm.Cond.methodLink "UnaskedNameModel" (403 : Nat) ({ cls := "UnaskedNameModel", name := "keepsAll", desc := "()V" } : Jvm.MethodName)) ∈ Gw := gw_c tin_9 66 rfl rfl
theorem mw_1988 : (Jvm.Cond.instanceMethod ({ cls := "UnaskedNameModel", name := "keepsAll", desc := "()V" } : Jvm.MethodName)) ∈ Gw := gw_c tin_9 68 rfl rfl
theorem mw_1989 : (Jvm.Cond.code ({ cls := "UnaskedNameModel", name := "keepsAll", desc := "()V" } : Jvm.MethodName) prog_14_method_94_code (2 : Nat) (Option.none : Option Jvm.ClassFile.FieldType)) ∈ Gw := gw_c tin_9 69 rfl rfl
theorem mw_1990 : (Jvm.Cond.methodLink "UnaskedNameModel" (406 : Nat) ({ cls := "UnaskedNameModel", name := "calmNight", desc := "(I)V" } : Jvm.MethodName)) ∈ Gw := gw_c tin_9 70 rfl rfl
theorem mw_1992 : (Jvm.Cond.instanceMethod ({ cls := "UnaskedNameModel", name := "calmNight", desc := "(I)V" } : Jvm.MethodName)) ∈ Gw := gw_c tin_9 72 rfl rfl
theorem mw_1993 : (Jvm.Cond.code ({ cls := "UnaskedNameModel", name := "calmNight", desc := "(I)V" } : Jvm.MethodName) prog_14_method_92_code (3 : Nat) (Option.none : Option Jvm.ClassFile.FieldType)) ∈ Gw := gw_c tin_9 73 rfl rfl
theorem mw_1994 : (Jvm.Cond.methodLink "UnaskedNameModel" (409 : Nat) ({ cls := "UnaskedNameModel", name := "bringsBack", desc := "()V" } : Jvm.MethodName)) ∈ Gw := gw_c tin_9 74 rfl rfl
theorem mw_1996 : (Jvm.Cond.instanceMethod ({ cls := "UnaskedNameModel", name := "bringsBack", desc := "()V" } : Jvm.MethodName)) ∈ Gw := gw_c tin_9 76 rfl rfl
theorem mw_1997 : (Jvm.Cond.code ({ cls := "UnaskedNameModel", name := "bringsBack", desc := "()V" } : Jvm.MethodName) prog_14_method_95_code (2 : Nat) (Option.none : Option Jvm.ClassFile.FieldType)) ∈ Gw := gw_c tin_9 77 rfl rfl
theorem mw_1998 : (Jvm.Cond.methodLink "UnaskedNameLaw" (199 : Nat) ({ cls := "UnaskedNameModel", name := "first", desc := "(I)I" } : Jvm.MethodName)) ∈ Gw := gw_c tin_9 78 rfl rfl
theorem mw_1999 : (Jvm.Cond.instanceMethod ({ cls := "UnaskedNameModel", name := "first", desc := "(I)I" } : Jvm.MethodName)) ∈ Gw := gw_c tin_9 79 rfl rfl
theorem mw_2000 : (Jvm.Cond.selects "UnaskedNameModel" ({ cls := "UnaskedNameModel", name := "first", desc := "(I)I" } : Jvm.MethodName) ({ cls := "UnaskedNameModel", name := "first", desc := "(I)I" } : Jvm.MethodName)) ∈ Gw := gw_c tin_9 80 rfl rfl
theorem mw_2001 : (Jvm.Cond.code ({ cls := "UnaskedNameModel", name := "first", desc := "(I)I" } : Jvm.MethodName) prog_14_method_99_code (4 : Nat) (Option.some Jvm.ClassFile.FieldType.int)) ∈ Gw := gw_c tin_9 81 rfl rfl
theorem mw_2002 : (Jvm.Cond.methodLink "UnaskedNameLaw" (284 : Nat) ({ cls := "UnaskedNameModel", name := "learnt", desc := "(I)I" } : Jvm.MethodName)) ∈ Gw := gw_c tin_9 82 rfl rfl
theorem mw_2003 : (Jvm.Cond.instanceMethod ({ cls := "UnaskedNameModel", name := "learnt", desc := "(I)I" } : Jvm.MethodName)) ∈ Gw := gw_c tin_9 83 rfl rfl
theorem mw_2004 : (Jvm.Cond.selects "UnaskedNameModel" ({ cls := "UnaskedNameModel", name := "learnt", desc := "(I)I" } : Jvm.MethodName) ({ cls := "UnaskedNameModel", name := "learnt", desc := "(I)I" } : Jvm.MethodName)) ∈ Gw := gw_c tin_9 84 rfl rfl
theorem mw_2005 : (Jvm.Cond.code ({ cls := "UnaskedNameModel", name := "learnt", desc := "(I)I" } : Jvm.MethodName) prog_14_method_100_code (4 : Nat) (Option.some Jvm.ClassFile.FieldType.int)) ∈ Gw := gw_c tin_9 85 rfl rfl
theorem mw_2006 : (Jvm.Cond.methodLink "UnaskedNameLaw" (214 : Nat) ({ cls := "UnaskedNameModel", name := "silence", desc := "(I)I" } : Jvm.MethodName)) ∈ Gw := gw_c tin_9 86 rfl rfl
theorem mw_2007 : (Jvm.Cond.instanceMethod ({ cls := "UnaskedNameModel", name := "silence", desc := "(I)I" } : Jvm.MethodName)) ∈ Gw := gw_c tin_9 87 rfl rfl
theorem mw_2008 : (Jvm.Cond.selects "UnaskedNameModel" ({ cls := "UnaskedNameModel", name := "silence", desc := "(I)I" } : Jvm.MethodName) ({ cls := "UnaskedNameModel", name := "silence", desc := "(I)I" } : Jvm.MethodName)) ∈ Gw := gw_c tin_9 88 rfl rfl
theorem mw_2009 : (Jvm.Cond.code ({ cls := "UnaskedNameModel", name := "silence", desc := "(I)I" } : Jvm.MethodName) prog_14_method_101_code (6 : Nat) (Option.some Jvm.ClassFile.FieldType.int)) ∈ Gw := gw_c tin_9 89 rfl rfl
theorem mw_2010 : (Jvm.Cond.methodLink "UnaskedNameModel" (412 : Nat) ({ cls := "UnaskedNameModel", name := "nearOnes", desc := "()I" } : Jvm.MethodName)) ∈ Gw := gw_c tin_9 90 rfl rfl
theorem mw_2012 : (Jvm.Cond.instanceMethod ({ cls := "UnaskedNameModel", name := "nearOnes", desc := "()I" } : Jvm.MethodName)) ∈ Gw := gw_c tin_9 92 rfl rfl
theorem mw_2013 : (Jvm.Cond.code ({ cls := "UnaskedNameModel", name := "nearOnes", desc := "()I" } : Jvm.MethodName) prog_14_method_147_code (3 : Nat) (Option.some Jvm.ClassFile.FieldType.int)) ∈ Gw := gw_c tin_9 93 rfl rfl
theorem mw_2014 : (Jvm.Cond.methodLink "UnaskedNameLaw" (202 : Nat) ({ cls := "UnaskedNameModel", name := "siege", desc := "(I)I" } : Jvm.MethodName)) ∈ Gw := gw_c tin_9 94 rfl rfl
theorem mw_2015 : (Jvm.Cond.instanceMethod ({ cls := "UnaskedNameModel", name := "siege", desc := "(I)I" } : Jvm.MethodName)) ∈ Gw := gw_c tin_9 95 rfl rfl
theorem mw_2016 : (Jvm.Cond.selects "UnaskedNameModel" ({ cls := "UnaskedNameModel", name := "siege", desc := "(I)I" } : Jvm.MethodName) ({ cls := "UnaskedNameModel", name := "siege", desc := "(I)I" } : Jvm.MethodName)) ∈ Gw := gw_c tin_9 96 rfl rfl
theorem mw_2017 : (Jvm.Cond.code ({ cls := "UnaskedNameModel", name := "siege", desc := "(I)I" } : Jvm.MethodName) prog_14_method_111_code (3 : Nat) (Option.some Jvm.ClassFile.FieldType.int)) ∈ Gw := gw_c tin_9 97 rfl rfl
theorem mw_2018 : (Jvm.Cond.methodLink "UnaskedNameModel" (435 : Nat) ({ cls := "UnaskedNameModel", name := "noSiege", desc := "(I)Z" } : Jvm.MethodName)) ∈ Gw := gw_c tin_9 98 rfl rfl
theorem mw_2019 : (Jvm.Cond.static ({ cls := "UnaskedNameModel", name := "noSiege", desc := "(I)Z" } : Jvm.MethodName)) ∈ Gw := gw_c tin_9 99 rfl rfl
theorem mw_2020 : (Jvm.Cond.code ({ cls := "UnaskedNameModel", name := "noSiege", desc := "(I)Z" } : Jvm.MethodName) prog_14_method_109_code (1 : Nat) (Option.some Jvm.ClassFile.FieldType.boolean)) ∈ Gw := gw_c tin_9 100 rfl rfl
theorem mw_2021 : (Jvm.Cond.methodLink "UnaskedNameModel" (438 : Nat) ({ cls := "UnaskedNameModel", name := "siegeOf", desc := "(I)I" } : Jvm.MethodName)) ∈ Gw := gw_c tin_9 101 rfl rfl
theorem mw_2023 : (Jvm.Cond.instanceMethod ({ cls := "UnaskedNameModel", name := "siegeOf", desc := "(I)I" } : Jvm.MethodName)) ∈ Gw := gw_c tin_9 103 rfl rfl
theorem mw_2024 : (Jvm.Cond.code ({ cls := "UnaskedNameModel", name := "siegeOf", desc := "(I)I" } : Jvm.MethodName) prog_14_method_110_code (2 : Nat) (Option.some Jvm.ClassFile.FieldType.int)) ∈ Gw := gw_c tin_9 104 rfl rfl
theorem mw_2025 : (Jvm.Cond.constant "UnaskedNameModel" (418 : Nat) (1000000 : Int32)) ∈ Gw := gw_c tin_9 105 rfl rfl
theorem mw_2026 : (Jvm.Cond.methodLink "UnaskedNameModel" (432 : Nat) ({ cls := "UnaskedNameModel", name := "laysTill", desc := "(II)V" } : Jvm.MethodName)) ∈ Gw := gw_c tin_9 106 rfl rfl
theorem mw_2028 : (Jvm.Cond.instanceMethod ({ cls := "UnaskedNameModel", name := "laysTill", desc := "(II)V" } : Jvm.MethodName)) ∈ Gw := gw_c tin_9 108 rfl rfl
theorem mw_2029 : (Jvm.Cond.code ({ cls := "UnaskedNameModel", name := "laysTill", desc := "(II)V" } : Jvm.MethodName) prog_14_method_108_code (5 : Nat) (Option.none : Option Jvm.ClassFile.FieldType)) ∈ Gw := gw_c tin_9 109 rfl rfl
theorem mw_2030 : (Jvm.Cond.methodLink "UnaskedNameModel" (429 : Nat) ({ cls := "UnaskedNameModel", name := "leastTill", desc := "(II)I" } : Jvm.MethodName)) ∈ Gw := gw_c tin_9 110 rfl rfl
theorem mw_2032 : (Jvm.Cond.instanceMethod ({ cls := "UnaskedNameModel", name := "leastTill", desc := "(II)I" } : Jvm.MethodName)) ∈ Gw := gw_c tin_9 112 rfl rfl
theorem mw_2033 : (Jvm.Cond.code ({ cls := "UnaskedNameModel", name := "leastTill", desc := "(II)I" } : Jvm.MethodName) prog_14_method_107_code (6 : Nat) (Option.some Jvm.ClassFile.FieldType.int)) ∈ Gw := gw_c tin_9 113 rfl rfl
theorem mw_2034 : (Jvm.Cond.methodLink "UnaskedNameModel" (419 : Nat) ({ cls := "UnaskedNameModel", name := "behindDeeds", desc := "(II)I" } : Jvm.MethodName)) ∈ Gw := gw_c tin_9 114 rfl rfl
theorem mw_2036 : (Jvm.Cond.instanceMethod ({ cls := "UnaskedNameModel", name := "behindDeeds", desc := "(II)I" } : Jvm.MethodName)) ∈ Gw := gw_c tin_9 116 rfl rfl
theorem mw_2037 : (Jvm.Cond.code ({ cls := "UnaskedNameModel", name := "behindDeeds", desc := "(II)I" } : Jvm.MethodName) prog_14_method_104_code (5 : Nat) (Option.some Jvm.ClassFile.FieldType.int)) ∈ Gw := gw_c tin_9 117 rfl rfl
theorem mw_2038 : (Jvm.Cond.methodLink "UnaskedNameModel" (415 : Nat) ({ cls := "UnaskedNameModel", name := "tillOf", desc := "(II)I" } : Jvm.MethodName)) ∈ Gw := gw_c tin_9 118 rfl rfl
theorem mw_2040 : (Jvm.Cond.instanceMethod ({ cls := "UnaskedNameModel", name := "tillOf", desc := "(II)I" } : Jvm.MethodName)) ∈ Gw := gw_c tin_9 120 rfl rfl
theorem mw_2041 : (Jvm.Cond.code ({ cls := "UnaskedNameModel", name := "tillOf", desc := "(II)I" } : Jvm.MethodName) prog_14_method_102_code (3 : Nat) (Option.some Jvm.ClassFile.FieldType.int)) ∈ Gw := gw_c tin_9 121 rfl rfl
theorem mw_2042 : (Jvm.Cond.methodLink "UnaskedNameModel" (422 : Nat) ({ cls := "UnaskedNameModel", name := "isEnemy", desc := "(I)Z" } : Jvm.MethodName)) ∈ Gw := gw_c tin_9 122 rfl rfl
theorem mw_2044 : (Jvm.Cond.instanceMethod ({ cls := "UnaskedNameModel", name := "isEnemy", desc := "(I)Z" } : Jvm.MethodName)) ∈ Gw := gw_c tin_9 124 rfl rfl
theorem mw_2045 : (Jvm.Cond.code ({ cls := "UnaskedNameModel", name := "isEnemy", desc := "(I)Z" } : Jvm.MethodName) prog_14_method_105_code (2 : Nat) (Option.some Jvm.ClassFile.FieldType.boolean)) ∈ Gw := gw_c tin_9 125 rfl rfl
theorem mw_2046 : (Jvm.Cond.methodLink "UnaskedNameModel" (425 : Nat) ({ cls := "UnaskedNameModel", name := "tillBy", desc := "(IIII)I" } : Jvm.MethodName)) ∈ Gw := gw_c tin_9 126 rfl rfl
theorem mw_2048 : (Jvm.Cond.instanceMethod ({ cls := "UnaskedNameModel", name := "tillBy", desc := "(IIII)I" } : Jvm.MethodName)) ∈ Gw := gw_c tin_9 128 rfl rfl
theorem mw_2049 : (Jvm.Cond.code ({ cls := "UnaskedNameModel", name := "tillBy", desc := "(IIII)I" } : Jvm.MethodName) prog_14_method_106_code (6 : Nat) (Option.some Jvm.ClassFile.FieldType.int)) ∈ Gw := gw_c tin_9 129 rfl rfl
theorem mw_2050 : (Jvm.Cond.methodLink "UnaskedNameLaw" (205 : Nat) ({ cls := "UnaskedNameModel", name := "plan", desc := "(I)I" } : Jvm.MethodName)) ∈ Gw := gw_c tin_9 130 rfl rfl
theorem mw_2051 : (Jvm.Cond.instanceMethod ({ cls := "UnaskedNameModel", name := "plan", desc := "(I)I" } : Jvm.MethodName)) ∈ Gw := gw_c tin_9 131 rfl rfl
theorem mw_2052 : (Jvm.Cond.selects "UnaskedNameModel" ({ cls := "UnaskedNameModel", name := "plan", desc := "(I)I" } : Jvm.MethodName) ({ cls := "UnaskedNameModel", name := "plan", desc := "(I)I" } : Jvm.MethodName)) ∈ Gw := gw_c tin_9 132 rfl rfl
theorem mw_2053 : (Jvm.Cond.code ({ cls := "UnaskedNameModel", name := "plan", desc := "(I)I" } : Jvm.MethodName) prog_14_method_112_code (5 : Nat) (Option.some Jvm.ClassFile.FieldType.int)) ∈ Gw := gw_c tin_9 133 rfl rfl
theorem mw_2054 : (Jvm.Cond.methodLink "UnaskedNameLaw" (208 : Nat) ({ cls := "UnaskedNameModel", name := "keeps", desc := "(II)I" } : Jvm.MethodName)) ∈ Gw := gw_c tin_9 134 rfl rfl
theorem mw_2055 : (Jvm.Cond.instanceMethod ({ cls := "UnaskedNameModel", name := "keeps", desc := "(II)I" } : Jvm.MethodName)) ∈ Gw := gw_c tin_9 135 rfl rfl
theorem mw_2056 : (Jvm.Cond.selects "UnaskedNameModel" ({ cls := "UnaskedNameModel", name := "keeps", desc := "(II)I" } : Jvm.MethodName) ({ cls := "UnaskedNameModel", name := "keeps", desc := "(II)I" } : Jvm.MethodName)) ∈ Gw := gw_c tin_9 136 rfl rfl
theorem mw_2057 : (Jvm.Cond.code ({ cls := "UnaskedNameModel", name := "keeps", desc := "(II)I" } : Jvm.MethodName) prog_14_method_113_code (3 : Nat) (Option.some Jvm.ClassFile.FieldType.int)) ∈ Gw := gw_c tin_9 137 rfl rfl
theorem mw_2058 : (Jvm.Cond.methodLink "UnaskedNameModel" (441 : Nat) ({ cls := "UnaskedNameModel", name := "bestDeed", desc := "(II)I" } : Jvm.MethodName)) ∈ Gw := gw_c tin_9 138 rfl rfl
theorem mw_2060 : (Jvm.Cond.instanceMethod ({ cls := "UnaskedNameModel", name := "bestDeed", desc := "(II)I" } : Jvm.MethodName)) ∈ Gw := gw_c tin_9 140 rfl rfl
theorem mw_2061 : (Jvm.Cond.code ({ cls := "UnaskedNameModel", name := "bestDeed", desc := "(II)I" } : Jvm.MethodName) prog_14_method_103_code (7 : Nat) (Option.some Jvm.ClassFile.FieldType.int)) ∈ Gw := gw_c tin_9 141 rfl rfl
theorem mw_2062 : (Jvm.Cond.methodLink "UnaskedNameLaw" (211 : Nat) ({ cls := "UnaskedNameModel", name := "fewest", desc := "(I)I" } : Jvm.MethodName)) ∈ Gw := gw_c tin_9 142 rfl rfl
theorem mw_2063 : (Jvm.Cond.instanceMethod ({ cls := "UnaskedNameModel", name := "fewest", desc := "(I)I" } : Jvm.MethodName)) ∈ Gw := gw_c tin_9 143 rfl rfl
theorem mw_2064 : (Jvm.Cond.selects "UnaskedNameModel" ({ cls := "UnaskedNameModel", name := "fewest", desc := "(I)I" } : Jvm.MethodName) ({ cls := "UnaskedNameModel", name := "fewest", desc := "(I)I" } : Jvm.MethodName)) ∈ Gw := gw_c tin_9 144 rfl rfl
theorem mw_2065 : (Jvm.Cond.code ({ cls := "UnaskedNameModel", name := "fewest", desc := "(I)I" } : Jvm.MethodName) prog_14_method_116_code (5 : Nat) (Option.some Jvm.ClassFile.FieldType.int)) ∈ Gw := gw_c tin_9 145 rfl rfl
theorem mw_2066 : (Jvm.Cond.methodLink "UnaskedNameModel" (447 : Nat) ({ cls := "UnaskedNameModel", name := "asksBy", desc := "(III)Z" } : Jvm.MethodName)) ∈ Gw := gw_c tin_9 146 rfl rfl
theorem mw_2068 : (Jvm.Cond.instanceMethod ({ cls := "UnaskedNameModel", name := "asksBy", desc := "(III)Z" } : Jvm.MethodName)) ∈ Gw := gw_c tin_9 148 rfl rfl
theorem mw_2069 : (Jvm.Cond.code ({ cls := "UnaskedNameModel", name := "asksBy", desc := "(III)Z" } : Jvm.MethodName) prog_14_method_115_code (9 : Nat) (Option.some Jvm.ClassFile.FieldType.boolean)) ∈ Gw := gw_c tin_9 149 rfl rfl
theorem mw_2070 : (Jvm.Cond.methodLink "UnaskedNameModel" (444 : Nat) ({ cls := "UnaskedNameModel", name := "possibleBy", desc := "(I)I" } : Jvm.MethodName)) ∈ Gw := gw_c tin_9 150 rfl rfl
theorem mw_2072 : (Jvm.Cond.instanceMethod ({ cls := "UnaskedNameModel", name := "possibleBy", desc := "(I)I" } : Jvm.MethodName)) ∈ Gw := gw_c tin_9 152 rfl rfl
theorem mw_2073 : (Jvm.Cond.code ({ cls := "UnaskedNameModel", name := "possibleBy", desc := "(I)I" } : Jvm.MethodName) prog_14_method_114_code (4 : Nat) (Option.some Jvm.ClassFile.FieldType.int)) ∈ Gw := gw_c tin_9 153 rfl rfl
theorem mw_2074 : (Jvm.Cond.methodLink "UnaskedNameLaw" (154 : Nat) ({ cls := "UnaskedNameModel", name := "name", desc := "(II)I" } : Jvm.MethodName)) ∈ Gw := gw_c tin_9 154 rfl rfl
theorem mw_2075 : (Jvm.Cond.instanceMethod ({ cls := "UnaskedNameModel", name := "name", desc := "(II)I" } : Jvm.MethodName)) ∈ Gw := gw_c tin_9 155 rfl rfl
theorem mw_2076 : (Jvm.Cond.selects "UnaskedNameModel" ({ cls := "UnaskedNameModel", name := "name", desc := "(II)I" } : Jvm.MethodName) ({ cls := "UnaskedNameModel", name := "name", desc := "(II)I" } : Jvm.MethodName)) ∈ Gw := gw_c tin_9 156 rfl rfl
theorem mw_2077 : (Jvm.Cond.code ({ cls := "UnaskedNameModel", name := "name", desc := "(II)I" } : Jvm.MethodName) prog_14_method_120_code (3 : Nat) (Option.some Jvm.ClassFile.FieldType.int)) ∈ Gw := gw_c tin_9 157 rfl rfl
theorem mw_2078 : (Jvm.Cond.methodLink "UnaskedNameModel" (453 : Nat) ({ cls := "UnaskedNameModel", name := "beliefOf", desc := "(I)I" } : Jvm.MethodName)) ∈ Gw := gw_c tin_9 158 rfl rfl
theorem mw_2080 : (Jvm.Cond.instanceMethod ({ cls := "UnaskedNameModel", name := "beliefOf", desc := "(I)I" } : Jvm.MethodName)) ∈ Gw := gw_c tin_9 160 rfl rfl
theorem mw_2081 : (Jvm.Cond.code ({ cls := "UnaskedNameModel", name := "beliefOf", desc := "(I)I" } : Jvm.MethodName) prog_14_method_118_code (3 : Nat) (Option.some Jvm.ClassFile.FieldType.int)) ∈ Gw := gw_c tin_9 161 rfl rfl
theorem mw_2082 : (Jvm.Cond.methodLink "UnaskedNameModel" (450 : Nat) ({ cls := "UnaskedNameModel", name := "creditOf", desc := "(I)I" } : Jvm.MethodName)) ∈ Gw := gw_c tin_9 162 rfl rfl
theorem mw_2084 : (Jvm.Cond.instanceMethod ({ cls := "UnaskedNameModel", name := "creditOf", desc := "(I)I" } : Jvm.MethodName)) ∈ Gw := gw_c tin_9 164 rfl rfl
theorem mw_2085 : (Jvm.Cond.code ({ cls := "UnaskedNameModel", name := "creditOf", desc := "(I)I" } : Jvm.MethodName) prog_14_method_117_code (4 : Nat) (Option.some Jvm.ClassFile.FieldType.int)) ∈ Gw := gw_c tin_9 165 rfl rfl
theorem mw_2086 : (Jvm.Cond.methodLink "UnaskedNameLaw" (237 : Nat) ({ cls := "UnaskedNameModel", name := "belief", desc := "(I)I" } : Jvm.MethodName)) ∈ Gw := gw_c tin_9 166 rfl rfl
theorem mw_2087 : (Jvm.Cond.instanceMethod ({ cls := "UnaskedNameModel", name := "belief", desc := "(I)I" } : Jvm.MethodName)) ∈ Gw := gw_c tin_9 167 rfl rfl
theorem mw_2088 : (Jvm.Cond.selects "UnaskedNameModel" ({ cls := "UnaskedNameModel", name := "belief", desc := "(I)I" } : Jvm.MethodName) ({ cls := "UnaskedNameModel", name := "belief", desc := "(I)I" } : Jvm.MethodName)) ∈ Gw := gw_c tin_9 168 rfl rfl
theorem mw_2089 : (Jvm.Cond.code ({ cls := "UnaskedNameModel", name := "belief", desc := "(I)I" } : Jvm.MethodName) prog_14_method_121_code (2 : Nat) (Option.some Jvm.ClassFile.FieldType.int)) ∈ Gw := gw_c tin_9 169 rfl rfl
theorem mw_2090 : (Jvm.Cond.methodLink "UnaskedNameModel" (456 : Nat) ({ cls := "UnaskedNameModel", name := "whoHave", desc := "(I)I" } : Jvm.MethodName)) ∈ Gw := gw_c tin_9 170 rfl rfl
theorem mw_2092 : (Jvm.Cond.instanceMethod ({ cls := "UnaskedNameModel", name := "whoHave", desc := "(I)I" } : Jvm.MethodName)) ∈ Gw := gw_c tin_9 172 rfl rfl
theorem mw_2093 : (Jvm.Cond.code ({ cls := "UnaskedNameModel", name := "whoHave", desc := "(I)I" } : Jvm.MethodName) prog_14_method_119_code (4 : Nat) (Option.some Jvm.ClassFile.FieldType.int)) ∈ Gw := gw_c tin_9 173 rfl rfl
theorem mw_2094 : (Jvm.Cond.methodLink "UnaskedNameLaw" (241 : Nat) ({ cls := "UnaskedNameModel", name := "likeliest", desc := "()I" } : Jvm.MethodName)) ∈ Gw := gw_c tin_9 174 rfl rfl
theorem mw_2095 : (Jvm.Cond.instanceMethod ({ cls := "UnaskedNameModel", name := "likeliest", desc := "()I" } : Jvm.MethodName)) ∈ Gw := gw_c tin_9 175 rfl rfl
theorem mw_2096 : (Jvm.Cond.selects "UnaskedNameModel" ({ cls := "UnaskedNameModel", name := "likeliest", desc := "()I" } : Jvm.MethodName) ({ cls := "UnaskedNameModel", name := "likeliest", desc := "()I" } : Jvm.MethodName)) ∈ Gw := gw_c tin_9 176 rfl rfl
theorem mw_2097 : (Jvm.Cond.code ({ cls := "UnaskedNameModel", name := "likeliest", desc := "()I" } : Jvm.MethodName) prog_14_method_122_code (3 : Nat) (Option.some Jvm.ClassFile.FieldType.int)) ∈ Gw := gw_c tin_9 177 rfl rfl
theorem mw_2098 : (Jvm.Cond.methodLink "UnaskedNameLaw" (218 : Nat) ({ cls := "UnaskedNameModel", name := "best", desc := "()I" } : Jvm.MethodName)) ∈ Gw := gw_c tin_9 178 rfl rfl
theorem mw_2099 : (Jvm.Cond.instanceMethod ({ cls := "UnaskedNameModel", name := "best", desc := "()I" } : Jvm.MethodName)) ∈ Gw := gw_c tin_9 179 rfl rfl
theorem mw_2100 : (Jvm.Cond.selects "UnaskedNameModel" ({ cls := "UnaskedNameModel", name := "best", desc := "()I" } : Jvm.MethodName) ({ cls := "UnaskedNameModel", name := "best", desc := "()I" } : Jvm.MethodName)) ∈ Gw := gw_c tin_9 180 rfl rfl
theorem mw_2101 : (Jvm.Cond.code ({ cls := "UnaskedNameModel", name := "best", desc := "()I" } : Jvm.MethodName) prog_14_method_123_code (6 : Nat) (Option.some Jvm.ClassFile.FieldType.int)) ∈ Gw := gw_c tin_9 181 rfl rfl
theorem mw_2102 : (Jvm.Cond.methodLink "UnaskedNameLaw" (222 : Nat) ({ cls := "UnaskedNameModel", name := "learns", desc := "()I" } : Jvm.MethodName)) ∈ Gw := gw_c tin_9 182 rfl rfl
theorem mw_2103 : (Jvm.Cond.instanceMethod ({ cls := "UnaskedNameModel", name := "learns", desc := "()I" } : Jvm.MethodName)) ∈ Gw := gw_c tin_9 183 rfl rfl
theorem mw_2104 : (Jvm.Cond.selects "UnaskedNameModel" ({ cls := "UnaskedNameModel", name := "learns", desc := "()I" } : Jvm.MethodName) ({ cls := "UnaskedNameModel", name := "learns", desc := "()I" } : Jvm.MethodName)) ∈ Gw := gw_c tin_9 184 rfl rfl
theorem mw_2105 : (Jvm.Cond.code ({ cls := "UnaskedNameModel", name := "learns", desc := "()I" } : Jvm.MethodName) prog_14_method_124_code (3 : Nat) (Option.some Jvm.ClassFile.FieldType.int)) ∈ Gw := gw_c tin_9 185 rfl rfl
theorem mw_2106 : (Jvm.Cond.methodLink "UnaskedNameLaw" (226 : Nat) ({ cls := "UnaskedNameModel", name := "worst", desc := "()I" } : Jvm.MethodName)) ∈ Gw := gw_c tin_9 186 rfl rfl
theorem mw_2107 : (Jvm.Cond.instanceMethod ({ cls := "UnaskedNameModel", name := "worst", desc := "()I" } : Jvm.MethodName)) ∈ Gw := gw_c tin_9 187 rfl rfl
theorem mw_2108 : (Jvm.Cond.selects "UnaskedNameModel" ({ cls := "UnaskedNameModel", name := "worst", desc := "()I" } : Jvm.MethodName) ({ cls := "UnaskedNameModel", name := "worst", desc := "()I" } : Jvm.MethodName)) ∈ Gw := gw_c tin_9 188 rfl rfl
theorem mw_2109 : (Jvm.Cond.code ({ cls := "UnaskedNameModel", name := "worst", desc := "()I" } : Jvm.MethodName) prog_14_method_126_code (3 : Nat) (Option.some Jvm.ClassFile.FieldType.int)) ∈ Gw := gw_c tin_9 189 rfl rfl
theorem mw_2110 : (Jvm.Cond.methodLink "UnaskedNameModel" (459 : Nat) ({ cls := "UnaskedNameModel", name := "crumbsOf", desc := "(I)I" } : Jvm.MethodName)) ∈ Gw := gw_c tin_9 190 rfl rfl
theorem mw_2112 : (Jvm.Cond.instanceMethod ({ cls := "UnaskedNameModel", name := "crumbsOf", desc := "(I)I" } : Jvm.MethodName)) ∈ Gw := gw_c tin_9 192 rfl rfl
theorem mw_2113 : (Jvm.Cond.code ({ cls := "UnaskedNameModel", name := "crumbsOf", desc := "(I)I" } : Jvm.MethodName) prog_14_method_125_code (6 : Nat) (Option.some Jvm.ClassFile.FieldType.int)) ∈ Gw := gw_c tin_9 193 rfl rfl
theorem mw_2114 : (Jvm.Cond.methodLink "UnaskedNameLaw" (230 : Nat) ({ cls := "UnaskedNameModel", name := "hides", desc := "()I" } : Jvm.MethodName)) ∈ Gw := gw_c tin_9 194 rfl rfl
theorem mw_2115 : (Jvm.Cond.instanceMethod ({ cls := "UnaskedNameModel", name := "hides", desc := "()I" } : Jvm.MethodName)) ∈ Gw := gw_c tin_9 195 rfl rfl
theorem mw_2116 : (Jvm.Cond.selects "UnaskedNameModel" ({ cls := "UnaskedNameModel", name := "hides", desc := "()I" } : Jvm.MethodName) ({ cls := "UnaskedNameModel", name := "hides", desc := "()I" } : Jvm.MethodName)) ∈ Gw := gw_c tin_9 196 rfl rfl
theorem mw_2117 : (Jvm.Cond.code ({ cls := "UnaskedNameModel", name := "hides", desc := "()I" } : Jvm.MethodName) prog_14_method_127_code (3 : Nat) (Option.some Jvm.ClassFile.FieldType.int)) ∈ Gw := gw_c tin_9 197 rfl rfl
theorem mw_2118 : (Jvm.Cond.methodLink "UnaskedNameLaw" (234 : Nat) ({ cls := "UnaskedNameModel", name := "alike", desc := "()I" } : Jvm.MethodName)) ∈ Gw := gw_c tin_9 198 rfl rfl
theorem mw_2119 : (Jvm.Cond.instanceMethod ({ cls := "UnaskedNameModel", name := "alike", desc := "()I" } : Jvm.MethodName)) ∈ Gw := gw_c tin_9 199 rfl rfl
theorem mw_2120 : (Jvm.Cond.selects "UnaskedNameModel" ({ cls := "UnaskedNameModel", name := "alike", desc := "()I" } : Jvm.MethodName) ({ cls := "UnaskedNameModel", name := "alike", desc := "()I" } : Jvm.MethodName)) ∈ Gw := gw_c tin_9 200 rfl rfl
theorem mw_2121 : (Jvm.Cond.code ({ cls := "UnaskedNameModel", name := "alike", desc := "()I" } : Jvm.MethodName) prog_14_method_128_code (4 : Nat) (Option.some Jvm.ClassFile.FieldType.int)) ∈ Gw := gw_c tin_9 201 rfl rfl
theorem mw_2122 : (Jvm.Cond.methodLink "UnaskedNameLaw" (278 : Nat) ({ cls := "UnaskedNameModel", name := "shared", desc := "()I" } : Jvm.MethodName)) ∈ Gw := gw_c tin_9 202 rfl rfl
theorem mw_2123 : (Jvm.Cond.instanceMethod ({ cls := "UnaskedNameModel", name := "shared", desc := "()I" } : Jvm.MethodName)) ∈ Gw := gw_c tin_9 203 rfl rfl
theorem mw_2124 : (Jvm.Cond.selects "UnaskedNameModel" ({ cls := "UnaskedNameModel", name := "shared", desc := "()I" } : Jvm.MethodName) ({ cls := "UnaskedNameModel", name := "shared", desc := "()I" } : Jvm.MethodName)) ∈ Gw := gw_c tin_9 204 rfl rfl
theorem mw_2125 : (Jvm.Cond.code ({ cls := "UnaskedNameModel", name := "shared", desc := "()I" } : Jvm.MethodName) prog_14_method_129_code (3 : Nat) (Option.some Jvm.ClassFile.FieldType.int)) ∈ Gw := gw_c tin_9 205 rfl rfl
theorem mw_2126 : (Jvm.Cond.methodLink "UnaskedNameLaw" (281 : Nat) ({ cls := "UnaskedNameModel", name := "similar", desc := "(II)I" } : Jvm.MethodName)) ∈ Gw := gw_c tin_9 206 rfl rfl
theorem mw_2127 : (Jvm.Cond.instanceMethod ({ cls := "UnaskedNameModel", name := "similar", desc := "(II)I" } : Jvm.MethodName)) ∈ Gw := gw_c tin_9 207 rfl rfl
theorem mw_2128 : (Jvm.Cond.selects "UnaskedNameModel" ({ cls := "UnaskedNameModel", name := "similar", desc := "(II)I" } : Jvm.MethodName) ({ cls := "UnaskedNameModel", name := "similar", desc := "(II)I" } : Jvm.MethodName)) ∈ Gw := gw_c tin_9 208 rfl rfl
theorem mw_2129 : (Jvm.Cond.code ({ cls := "UnaskedNameModel", name := "similar", desc := "(II)I" } : Jvm.MethodName) prog_14_method_130_code (5 : Nat) (Option.some Jvm.ClassFile.FieldType.int)) ∈ Gw := gw_c tin_9 209 rfl rfl
theorem mw_2130 : (Jvm.Cond.methodLink "UnaskedNameLaw" (244 : Nat) ({ cls := "UnaskedNameModel", name := "duty", desc := "(I)I" } : Jvm.MethodName)) ∈ Gw := gw_c tin_9 210 rfl rfl
theorem mw_2131 : (Jvm.Cond.instanceMethod ({ cls := "UnaskedNameModel", name := "duty", desc := "(I)I" } : Jvm.MethodName)) ∈ Gw := gw_c tin_9 211 rfl rfl
theorem mw_2132 : (Jvm.Cond.selects "UnaskedNameModel" ({ cls := "UnaskedNameModel", name := "duty", desc := "(I)I" } : Jvm.MethodName) ({ cls := "UnaskedNameModel", name := "duty", desc := "(I)I" } : Jvm.MethodName)) ∈ Gw := gw_c tin_9 212 rfl rfl
theorem mw_2133 : (Jvm.Cond.code ({ cls := "UnaskedNameModel", name := "duty", desc := "(I)I" } : Jvm.MethodName) prog_14_method_133_code (2 : Nat) (Option.some Jvm.ClassFile.FieldType.int)) ∈ Gw := gw_c tin_9 213 rfl rfl
theorem mw_2134 : (Jvm.Cond.methodLink "UnaskedNameLaw" (256 : Nat) ({ cls := "UnaskedNameModel", name := "seals", desc := "(I)I" } : Jvm.MethodName)) ∈ Gw := gw_c tin_9 214 rfl rfl
theorem mw_2135 : (Jvm.Cond.instanceMethod ({ cls := "UnaskedNameModel", name := "seals", desc := "(I)I" } : Jvm.MethodName)) ∈ Gw := gw_c tin_9 215 rfl rfl
theorem mw_2136 : (Jvm.Cond.selects "UnaskedNameModel" ({ cls := "UnaskedNameModel", name := "seals", desc := "(I)I" } : Jvm.MethodName) ({ cls := "UnaskedNameModel", name := "seals", desc := "(I)I" } : Jvm.MethodName)) ∈ Gw := gw_c tin_9 216 rfl rfl
theorem mw_2137 : (Jvm.Cond.code ({ cls := "UnaskedNameModel", name := "seals", desc := "(I)I" } : Jvm.MethodName) prog_14_method_134_code (2 : Nat) (Option.some Jvm.ClassFile.FieldType.int)) ∈ Gw := gw_c tin_9 217 rfl rfl
theorem mw_2138 : (Jvm.Cond.methodLink "UnaskedNameModel" (462 : Nat) ({ cls := "UnaskedNameModel", name := "doneBy", desc := "(I)I" } : Jvm.MethodName)) ∈ Gw := gw_c tin_9 218 rfl rfl
theorem mw_2140 : (Jvm.Cond.instanceMethod ({ cls := "UnaskedNameModel", name := "doneBy", desc := "(I)I" } : Jvm.MethodName)) ∈ Gw := gw_c tin_9 220 rfl rfl
theorem mw_2141 : (Jvm.Cond.code ({ cls := "UnaskedNameModel", name := "doneBy", desc := "(I)I" } : Jvm.MethodName) prog_14_method_131_code (4 : Nat) (Option.some Jvm.ClassFile.FieldType.int)) ∈ Gw := gw_c tin_9 221 rfl rfl
theorem mw_2142 : (Jvm.Cond.methodLink "UnaskedNameLaw" (248 : Nat) ({ cls := "UnaskedNameModel", name := "cover", desc := "()I" } : Jvm.MethodName)) ∈ Gw := gw_c tin_9 222 rfl rfl
theorem mw_2143 : (Jvm.Cond.instanceMethod ({ cls := "UnaskedNameModel", name := "cover", desc := "()I" } : Jvm.MethodName)) ∈ Gw := gw_c tin_9 223 rfl rfl
theorem mw_2144 : (Jvm.Cond.selects "UnaskedNameModel" ({ cls := "UnaskedNameModel", name := "cover", desc := "()I" } : Jvm.MethodName) ({ cls := "UnaskedNameModel", name := "cover", desc := "()I" } : Jvm.MethodName)) ∈ Gw := gw_c tin_9 224 rfl rfl
theorem mw_2145 : (Jvm.Cond.code ({ cls := "UnaskedNameModel", name := "cover", desc := "()I" } : Jvm.MethodName) prog_14_method_135_code (3 : Nat) (Option.some Jvm.ClassFile.FieldType.int)) ∈ Gw := gw_c tin_9 225 rfl rfl
theorem mw_2146 : (Jvm.Cond.methodLink "UnaskedNameModel" (465 : Nat) ({ cls := "UnaskedNameModel", name := "allDuties", desc := "()I" } : Jvm.MethodName)) ∈ Gw := gw_c tin_9 226 rfl rfl
theorem mw_2148 : (Jvm.Cond.instanceMethod ({ cls := "UnaskedNameModel", name := "allDuties", desc := "()I" } : Jvm.MethodName)) ∈ Gw := gw_c tin_9 228 rfl rfl
theorem mw_2149 : (Jvm.Cond.code ({ cls := "UnaskedNameModel", name := "allDuties", desc := "()I" } : Jvm.MethodName) prog_14_method_132_code (1 : Nat) (Option.some Jvm.ClassFile.FieldType.int)) ∈ Gw := gw_c tin_9 229 rfl rfl
theorem mw_2150 : (Jvm.Cond.methodLink "UnaskedNameLaw" (252 : Nat) ({ cls := "UnaskedNameModel", name := "alone", desc := "()I" } : Jvm.MethodName)) ∈ Gw := gw_c tin_9 230 rfl rfl
theorem mw_2151 : (Jvm.Cond.instanceMethod ({ cls := "UnaskedNameModel", name := "alone", desc := "()I" } : Jvm.MethodName)) ∈ Gw := gw_c tin_9 231 rfl rfl
theorem mw_2152 : (Jvm.Cond.selects "UnaskedNameModel" ({ cls := "UnaskedNameModel", name := "alone", desc := "()I" } : Jvm.MethodName) ({ cls := "UnaskedNameModel", name := "alone", desc := "()I" } : Jvm.MethodName)) ∈ Gw := gw_c tin_9 232 rfl rfl
theorem mw_2153 : (Jvm.Cond.code ({ cls := "UnaskedNameModel", name := "alone", desc := "()I" } : Jvm.MethodName) prog_14_method_136_code (3 : Nat) (Option.some Jvm.ClassFile.FieldType.int)) ∈ Gw := gw_c tin_9 233 rfl rfl
theorem mw_2154 : (Jvm.Cond.methodLink "UnaskedNameLaw" (271 : Nat) ({ cls := "UnaskedNameModel", name := "cheapest", desc := "(IZ)I" } : Jvm.MethodName)) ∈ Gw := gw_c tin_9 234 rfl rfl
theorem mw_2155 : (Jvm.Cond.instanceMethod ({ cls := "UnaskedNameModel", name := "cheapest", desc := "(IZ)I" } : Jvm.MethodName)) ∈ Gw := gw_c tin_9 235 rfl rfl
theorem mw_2156 : (Jvm.Cond.selects "UnaskedNameModel" ({ cls := "UnaskedNameModel", name := "cheapest", desc := "(IZ)I" } : Jvm.MethodName) ({ cls := "UnaskedNameModel", name := "cheapest", desc := "(IZ)I" } : Jvm.MethodName)) ∈ Gw := gw_c tin_9 236 rfl rfl
theorem mw_2157 : (Jvm.Cond.code ({ cls := "UnaskedNameModel", name := "cheapest", desc := "(IZ)I" } : Jvm.MethodName) prog_14_method_137_code (9 : Nat) (Option.some Jvm.ClassFile.FieldType.int)) ∈ Gw := gw_c tin_9 237 rfl rfl
theorem mw_2158 : (Jvm.Cond.methodLink "UnaskedNameLaw" (260 : Nat) ({ cls := "UnaskedNameModel", name := "began", desc := "()I" } : Jvm.MethodName)) ∈ Gw := gw_c tin_9 238 rfl rfl
theorem mw_2159 : (Jvm.Cond.instanceMethod ({ cls := "UnaskedNameModel", name := "began", desc := "()I" } : Jvm.MethodName)) ∈ Gw := gw_c tin_9 239 rfl rfl
theorem mw_2160 : (Jvm.Cond.selects "UnaskedNameModel" ({ cls := "UnaskedNameModel", name := "began", desc := "()I" } : Jvm.MethodName) ({ cls := "UnaskedNameModel", name := "began", desc := "()I" } : Jvm.MethodName)) ∈ Gw := gw_c tin_10 0 rfl rfl
theorem mw_2161 : (Jvm.Cond.code ({ cls := "UnaskedNameModel", name := "began", desc := "()I" } : Jvm.MethodName) prog_14_method_139_code (2 : Nat) (Option.some Jvm.ClassFile.FieldType.int)) ∈ Gw := gw_c tin_10 1 rfl rfl
theorem mw_2162 : (Jvm.Cond.methodLink "UnaskedNameModel" (468 : Nat) ({ cls := "UnaskedNameModel", name := "ofLog", desc := "(II)I" } : Jvm.MethodName)) ∈ Gw := gw_c tin_10 2 rfl rfl
theorem mw_2164 : (Jvm.Cond.instanceMethod ({ cls := "UnaskedNameModel", name := "ofLog", desc := "(II)I" } : Jvm.MethodName)) ∈ Gw := gw_c tin_10 4 rfl rfl
theorem mw_2165 : (Jvm.Cond.code ({ cls := "UnaskedNameModel", name := "ofLog", desc := "(II)I" } : Jvm.MethodName) prog_14_method_138_code (3 : Nat) (Option.some Jvm.ClassFile.FieldType.int)) ∈ Gw := gw_c tin_10 5 rfl rfl
theorem mw_2166 : (Jvm.Cond.methodLink "UnaskedNameLaw" (264 : Nat) ({ cls := "UnaskedNameModel", name := "loudest", desc := "()I" } : Jvm.MethodName)) ∈ Gw := gw_c tin_10 6 rfl rfl
theorem mw_2167 : (Jvm.Cond.instanceMethod ({ cls := "UnaskedNameModel", name := "loudest", desc := "()I" } : Jvm.MethodName)) ∈ Gw := gw_c tin_10 7 rfl rfl
theorem mw_2168 : (Jvm.Cond.selects "UnaskedNameModel" ({ cls := "UnaskedNameModel", name := "loudest", desc := "()I" } : Jvm.MethodName) ({ cls := "UnaskedNameModel", name := "loudest", desc := "()I" } : Jvm.MethodName)) ∈ Gw := gw_c tin_10 8 rfl rfl
theorem mw_2169 : (Jvm.Cond.code ({ cls := "UnaskedNameModel", name := "loudest", desc := "()I" } : Jvm.MethodName) prog_14_method_141_code (3 : Nat) (Option.some Jvm.ClassFile.FieldType.int)) ∈ Gw := gw_c tin_10 9 rfl rfl
theorem mw_2170 : (Jvm.Cond.methodLink "UnaskedNameModel" (471 : Nat) ({ cls := "UnaskedNameModel", name := "recordsOf", desc := "(I)I" } : Jvm.MethodName)) ∈ Gw := gw_c tin_10 10 rfl rfl
theorem mw_2172 : (Jvm.Cond.instanceMethod ({ cls := "UnaskedNameModel", name := "recordsOf", desc := "(I)I" } : Jvm.MethodName)) ∈ Gw := gw_c tin_10 12 rfl rfl
theorem mw_2173 : (Jvm.Cond.code ({ cls := "UnaskedNameModel", name := "recordsOf", desc := "(I)I" } : Jvm.MethodName) prog_14_method_140_code (6 : Nat) (Option.some Jvm.ClassFile.FieldType.int)) ∈ Gw := gw_c tin_10 13 rfl rfl
theorem mw_2174 : (Jvm.Cond.methodLink "UnaskedNameLaw" (293 : Nat) ({ cls := "UnaskedNameModel", name := "led", desc := "(II)I" } : Jvm.MethodName)) ∈ Gw := gw_c tin_10 14 rfl rfl
theorem mw_2175 : (Jvm.Cond.instanceMethod ({ cls := "UnaskedNameModel", name := "led", desc := "(II)I" } : Jvm.MethodName)) ∈ Gw := gw_c tin_10 15 rfl rfl
theorem mw_2176 : (Jvm.Cond.selects "UnaskedNameModel" ({ cls := "UnaskedNameModel", name := "led", desc := "(II)I" } : Jvm.MethodName) ({ cls := "UnaskedNameModel", name := "led", desc := "(II)I" } : Jvm.MethodName)) ∈ Gw := gw_c tin_10 16 rfl rfl
theorem mw_2177 : (Jvm.Cond.code ({ cls := "UnaskedNameModel", name := "led", desc := "(II)I" } : Jvm.MethodName) prog_14_method_142_code (5 : Nat) (Option.some Jvm.ClassFile.FieldType.int)) ∈ Gw := gw_c tin_10 17 rfl rfl
theorem mw_2178 : (Jvm.Cond.methodLink "UnaskedNameLaw" (296 : Nat) ({ cls := "UnaskedNameModel", name := "log", desc := "(II)I" } : Jvm.MethodName)) ∈ Gw := gw_c tin_10 18 rfl rfl
theorem mw_2179 : (Jvm.Cond.instanceMethod ({ cls := "UnaskedNameModel", name := "log", desc := "(II)I" } : Jvm.MethodName)) ∈ Gw := gw_c tin_10 19 rfl rfl
theorem mw_2180 : (Jvm.Cond.selects "UnaskedNameModel" ({ cls := "UnaskedNameModel", name := "log", desc := "(II)I" } : Jvm.MethodName) ({ cls := "UnaskedNameModel", name := "log", desc := "(II)I" } : Jvm.MethodName)) ∈ Gw := gw_c tin_10 20 rfl rfl
theorem mw_2181 : (Jvm.Cond.code ({ cls := "UnaskedNameModel", name := "log", desc := "(II)I" } : Jvm.MethodName) prog_14_method_143_code (3 : Nat) (Option.some Jvm.ClassFile.FieldType.int)) ∈ Gw := gw_c tin_10 21 rfl rfl
theorem mw_2182 : (Jvm.Cond.methodLink "UnaskedNameLaw" (287 : Nat) ({ cls := "UnaskedNameModel", name := "trial", desc := "(IZ)I" } : Jvm.MethodName)) ∈ Gw := gw_c tin_10 22 rfl rfl
theorem mw_2183 : (Jvm.Cond.instanceMethod ({ cls := "UnaskedNameModel", name := "trial", desc := "(IZ)I" } : Jvm.MethodName)) ∈ Gw := gw_c tin_10 23 rfl rfl
theorem mw_2184 : (Jvm.Cond.selects "UnaskedNameModel" ({ cls := "UnaskedNameModel", name := "trial", desc := "(IZ)I" } : Jvm.MethodName) ({ cls := "UnaskedNameModel", name := "trial", desc := "(IZ)I" } : Jvm.MethodName)) ∈ Gw := gw_c tin_10 24 rfl rfl
theorem mw_2185 : (Jvm.Cond.code ({ cls := "UnaskedNameModel", name := "trial", desc := "(IZ)I" } : Jvm.MethodName) prog_14_method_144_code (4 : Nat) (Option.some Jvm.ClassFile.FieldType.int)) ∈ Gw := gw_c tin_10 25 rfl rfl
theorem mw_2186 : (Jvm.Cond.methodLink "UnaskedNameLaw" (290 : Nat) ({ cls := "UnaskedNameModel", name := "span", desc := "(I)I" } : Jvm.MethodName)) ∈ Gw := gw_c tin_10 26 rfl rfl
theorem mw_2187 : (Jvm.Cond.instanceMethod ({ cls := "UnaskedNameModel", name := "span", desc := "(I)I" } : Jvm.MethodName)) ∈ Gw := gw_c tin_10 27 rfl rfl
theorem mw_2188 : (Jvm.Cond.selects "UnaskedNameModel" ({ cls := "UnaskedNameModel", name := "span", desc := "(I)I" } : Jvm.MethodName) ({ cls := "UnaskedNameModel", name := "span", desc := "(I)I" } : Jvm.MethodName)) ∈ Gw := gw_c tin_10 28 rfl rfl
theorem mw_2189 : (Jvm.Cond.code ({ cls := "UnaskedNameModel", name := "span", desc := "(I)I" } : Jvm.MethodName) prog_14_method_145_code (4 : Nat) (Option.some Jvm.ClassFile.FieldType.int)) ∈ Gw := gw_c tin_10 29 rfl rfl
theorem mw_2190 : (Jvm.Cond.methodLink "UnaskedNameLaw" (300 : Nat) ({ cls := "UnaskedNameModel", name := "seed", desc := "(I)I" } : Jvm.MethodName)) ∈ Gw := gw_c tin_10 30 rfl rfl
theorem mw_2191 : (Jvm.Cond.instanceMethod ({ cls := "UnaskedNameModel", name := "seed", desc := "(I)I" } : Jvm.MethodName)) ∈ Gw := gw_c tin_10 31 rfl rfl
theorem mw_2192 : (Jvm.Cond.selects "UnaskedNameModel" ({ cls := "UnaskedNameModel", name := "seed", desc := "(I)I" } : Jvm.MethodName) ({ cls := "UnaskedNameModel", name := "seed", desc := "(I)I" } : Jvm.MethodName)) ∈ Gw := gw_c tin_10 32 rfl rfl
theorem mw_2193 : (Jvm.Cond.code ({ cls := "UnaskedNameModel", name := "seed", desc := "(I)I" } : Jvm.MethodName) prog_14_method_146_code (3 : Nat) (Option.some Jvm.ClassFile.FieldType.int)) ∈ Gw := gw_c tin_10 33 rfl rfl
theorem mw_2194 : (Jvm.Cond.methodLink "UnaskedNameLaw" (317 : Nat) ({ cls := "UnaskedNameModel", name := "count", desc := "(I)I" } : Jvm.MethodName)) ∈ Gw := gw_c tin_10 34 rfl rfl
theorem mw_2195 : (Jvm.Cond.instanceMethod ({ cls := "UnaskedNameModel", name := "count", desc := "(I)I" } : Jvm.MethodName)) ∈ Gw := gw_c tin_10 35 rfl rfl
theorem mw_2196 : (Jvm.Cond.selects "UnaskedNameModel" ({ cls := "UnaskedNameModel", name := "count", desc := "(I)I" } : Jvm.MethodName) ({ cls := "UnaskedNameModel", name := "count", desc := "(I)I" } : Jvm.MethodName)) ∈ Gw := gw_c tin_10 36 rfl rfl
theorem mw_2197 : (Jvm.Cond.code ({ cls := "UnaskedNameModel", name := "count", desc := "(I)I" } : Jvm.MethodName) prog_14_method_148_code (2 : Nat) (Option.some Jvm.ClassFile.FieldType.int)) ∈ Gw := gw_c tin_10 37 rfl rfl
theorem mw_2218 : (Jvm.Cond.fieldLink "java/lang/String" (9 : Nat) "java/lang/String" "value" "[B") ∈ Gw := gw_c tin_10 58 rfl rfl
theorem mw_2219 : (Jvm.Cond.fieldLink "java/lang/String" (15 : Nat) "java/lang/String" "coder" "B") ∈ Gw := gw_c tin_10 59 rfl rfl
