section
-- ===== PART A: goes FIRST, ahead of the names: the tables' words, and 'selects' of the private methods out of them =====
/-- a private method of a class that the tables say can be made, by its rows of tables_1 -/
def lw_okq (q : MethodName × Nat) : Prop := (q.1.cls ≠ "java/lang/invoke/MethodHandle" ∧ q.1.cls ≠ "java/lang/invoke/VarHandle") ∧ Cond.instantiable q.1.cls q.2 ∈ tables_1 ∧ Cond.privateMethod q.1 ∈ tables_1 ∧ Cond.instanceMethod q.1 ∈ tables_1
theorem lw_p0 : lw_okq (⟨"java/lang/Throwable", "fillInStackTrace", "(I)Ljava/lang/Throwable;"⟩, 6) := ⟨⟨by decide +kernel, by decide +kernel⟩, List.mem_of_getElem? (i := 957) (by decide +kernel), List.mem_of_getElem? (i := 955) (by decide +kernel), List.mem_of_getElem? (i := 956) (by decide +kernel)⟩
theorem lw_p1 : lw_okq (⟨"PathProver", "write", "(I)V"⟩, 14) := ⟨⟨by decide +kernel, by decide +kernel⟩, List.mem_of_getElem? (i := 42) (by decide +kernel), List.mem_of_getElem? (i := 992) (by decide +kernel), List.mem_of_getElem? (i := 993) (by decide +kernel)⟩
theorem lw_p2 : lw_okq (⟨"PathProver$Lexer", "forgetWords", "()V"⟩, 12) := ⟨⟨by decide +kernel, by decide +kernel⟩, List.mem_of_getElem? (i := 195) (by decide +kernel), List.mem_of_getElem? (i := 1045) (by decide +kernel), List.mem_of_getElem? (i := 1046) (by decide +kernel)⟩
theorem lw_p3 : lw_okq (⟨"PathProver$Lexer", "numberOf", "([BII)I"⟩, 12) := ⟨⟨by decide +kernel, by decide +kernel⟩, List.mem_of_getElem? (i := 195) (by decide +kernel), List.mem_of_getElem? (i := 1052) (by decide +kernel), List.mem_of_getElem? (i := 1053) (by decide +kernel)⟩
theorem lw_p4 : lw_okq (⟨"PathProver$Lexer", "isWord", "(I[BII)Z"⟩, 12) := ⟨⟨by decide +kernel, by decide +kernel⟩, List.mem_of_getElem? (i := 195) (by decide +kernel), List.mem_of_getElem? (i := 1056) (by decide +kernel), List.mem_of_getElem? (i := 1057) (by decide +kernel)⟩
theorem lw_p5 : lw_okq (⟨"PathProver$Lexer", "keepWord", "([BIII)I"⟩, 12) := ⟨⟨by decide +kernel, by decide +kernel⟩, List.mem_of_getElem? (i := 195) (by decide +kernel), List.mem_of_getElem? (i := 1064) (by decide +kernel), List.mem_of_getElem? (i := 1065) (by decide +kernel)⟩
theorem lw_p6 : lw_okq (⟨"PathProver$Lexer", "skipBlanks", "()V"⟩, 12) := ⟨⟨by decide +kernel, by decide +kernel⟩, List.mem_of_getElem? (i := 195) (by decide +kernel), List.mem_of_getElem? (i := 1071) (by decide +kernel), List.mem_of_getElem? (i := 1072) (by decide +kernel)⟩
theorem lw_p7 : lw_okq (⟨"PathProver$Lexer", "word", "()V"⟩, 12) := ⟨⟨by decide +kernel, by decide +kernel⟩, List.mem_of_getElem? (i := 195) (by decide +kernel), List.mem_of_getElem? (i := 1078) (by decide +kernel), List.mem_of_getElem? (i := 1079) (by decide +kernel)⟩
theorem lw_p8 : lw_okq (⟨"PathProver$Lexer", "number", "()V"⟩, 12) := ⟨⟨by decide +kernel, by decide +kernel⟩, List.mem_of_getElem? (i := 195) (by decide +kernel), List.mem_of_getElem? (i := 1085) (by decide +kernel), List.mem_of_getElem? (i := 1086) (by decide +kernel)⟩
theorem lw_p9 : lw_okq (⟨"PathProver$Lexer", "sign", "()V"⟩, 12) := ⟨⟨by decide +kernel, by decide +kernel⟩, List.mem_of_getElem? (i := 195) (by decide +kernel), List.mem_of_getElem? (i := 1091) (by decide +kernel), List.mem_of_getElem? (i := 1092) (by decide +kernel)⟩
theorem lw_p10 : lw_okq (⟨"PathProver$Parser", "advance", "()V"⟩, 12) := ⟨⟨by decide +kernel, by decide +kernel⟩, List.mem_of_getElem? (i := 189) (by decide +kernel), List.mem_of_getElem? (i := 1154) (by decide +kernel), List.mem_of_getElem? (i := 1155) (by decide +kernel)⟩
theorem lw_p11 : lw_okq (⟨"PathProver$Parser", "module", "()Z"⟩, 12) := ⟨⟨by decide +kernel, by decide +kernel⟩, List.mem_of_getElem? (i := 189) (by decide +kernel), List.mem_of_getElem? (i := 1161) (by decide +kernel), List.mem_of_getElem? (i := 1162) (by decide +kernel)⟩
theorem lw_p12 : lw_okq (⟨"PathProver$Parser", "take", "(I)Z"⟩, 12) := ⟨⟨by decide +kernel, by decide +kernel⟩, List.mem_of_getElem? (i := 189) (by decide +kernel), List.mem_of_getElem? (i := 1165) (by decide +kernel), List.mem_of_getElem? (i := 1166) (by decide +kernel)⟩
theorem lw_p13 : lw_okq (⟨"PathProver$Parser", "params", "()Z"⟩, 12) := ⟨⟨by decide +kernel, by decide +kernel⟩, List.mem_of_getElem? (i := 189) (by decide +kernel), List.mem_of_getElem? (i := 1178) (by decide +kernel), List.mem_of_getElem? (i := 1179) (by decide +kernel)⟩
theorem lw_p14 : lw_okq (⟨"PathProver$Parser", "variable", "()Z"⟩, 12) := ⟨⟨by decide +kernel, by decide +kernel⟩, List.mem_of_getElem? (i := 189) (by decide +kernel), List.mem_of_getElem? (i := 1184) (by decide +kernel), List.mem_of_getElem? (i := 1185) (by decide +kernel)⟩
theorem lw_p15 : lw_okq (⟨"PathProver$Parser", "instance", "(I)Z"⟩, 12) := ⟨⟨by decide +kernel, by decide +kernel⟩, List.mem_of_getElem? (i := 189) (by decide +kernel), List.mem_of_getElem? (i := 1188) (by decide +kernel), List.mem_of_getElem? (i := 1189) (by decide +kernel)⟩
def lw_privs_1 : List (MethodName × Nat) := [(⟨"java/lang/Throwable", "fillInStackTrace", "(I)Ljava/lang/Throwable;"⟩, 6), (⟨"PathProver", "write", "(I)V"⟩, 14), (⟨"PathProver$Lexer", "forgetWords", "()V"⟩, 12), (⟨"PathProver$Lexer", "numberOf", "([BII)I"⟩, 12), (⟨"PathProver$Lexer", "isWord", "(I[BII)Z"⟩, 12), (⟨"PathProver$Lexer", "keepWord", "([BIII)I"⟩, 12), (⟨"PathProver$Lexer", "skipBlanks", "()V"⟩, 12), (⟨"PathProver$Lexer", "word", "()V"⟩, 12), (⟨"PathProver$Lexer", "number", "()V"⟩, 12), (⟨"PathProver$Lexer", "sign", "()V"⟩, 12), (⟨"PathProver$Parser", "advance", "()V"⟩, 12), (⟨"PathProver$Parser", "module", "()Z"⟩, 12), (⟨"PathProver$Parser", "take", "(I)Z"⟩, 12), (⟨"PathProver$Parser", "params", "()Z"⟩, 12), (⟨"PathProver$Parser", "variable", "()Z"⟩, 12), (⟨"PathProver$Parser", "instance", "(I)Z"⟩, 12)]
theorem lw_r1 : ∀ q ∈ lw_privs_1, lw_okq q := List.forall_mem_cons.mpr ⟨lw_p0, List.forall_mem_cons.mpr ⟨lw_p1, List.forall_mem_cons.mpr ⟨lw_p2, List.forall_mem_cons.mpr ⟨lw_p3, List.forall_mem_cons.mpr ⟨lw_p4, List.forall_mem_cons.mpr ⟨lw_p5, List.forall_mem_cons.mpr ⟨lw_p6, List.forall_mem_cons.mpr ⟨lw_p7, List.forall_mem_cons.mpr ⟨lw_p8, List.forall_mem_cons.mpr ⟨lw_p9, List.forall_mem_cons.mpr ⟨lw_p10, List.forall_mem_cons.mpr ⟨lw_p11, List.forall_mem_cons.mpr ⟨lw_p12, List.forall_mem_cons.mpr ⟨lw_p13, List.forall_mem_cons.mpr ⟨lw_p14, List.forall_mem_cons.mpr ⟨lw_p15, fun _ h => absurd h List.not_mem_nil⟩⟩⟩⟩⟩⟩⟩⟩⟩⟩⟩⟩⟩⟩⟩⟩
theorem lw_p16 : lw_okq (⟨"PathProver$Parser", "start", "(III)Z"⟩, 12) := ⟨⟨by decide +kernel, by decide +kernel⟩, List.mem_of_getElem? (i := 189) (by decide +kernel), List.mem_of_getElem? (i := 1193) (by decide +kernel), List.mem_of_getElem? (i := 1194) (by decide +kernel)⟩
theorem lw_p17 : lw_okq (⟨"PathProver$Parser", "push", "(II)V"⟩, 12) := ⟨⟨by decide +kernel, by decide +kernel⟩, List.mem_of_getElem? (i := 189) (by decide +kernel), List.mem_of_getElem? (i := 1197) (by decide +kernel), List.mem_of_getElem? (i := 1198) (by decide +kernel)⟩
theorem lw_p18 : lw_okq (⟨"PathProver$Parser", "valueList", "(I)Z"⟩, 12) := ⟨⟨by decide +kernel, by decide +kernel⟩, List.mem_of_getElem? (i := 189) (by decide +kernel), List.mem_of_getElem? (i := 1201) (by decide +kernel), List.mem_of_getElem? (i := 1202) (by decide +kernel)⟩
theorem lw_p19 : lw_okq (⟨"PathProver$Parser", "bound", "(II)Z"⟩, 12) := ⟨⟨by decide +kernel, by decide +kernel⟩, List.mem_of_getElem? (i := 189) (by decide +kernel), List.mem_of_getElem? (i := 1210) (by decide +kernel), List.mem_of_getElem? (i := 1211) (by decide +kernel)⟩
theorem lw_p20 : lw_okq (⟨"PathProver$Parser", "section", "()Z"⟩, 12) := ⟨⟨by decide +kernel, by decide +kernel⟩, List.mem_of_getElem? (i := 189) (by decide +kernel), List.mem_of_getElem? (i := 1214) (by decide +kernel), List.mem_of_getElem? (i := 1215) (by decide +kernel)⟩
theorem lw_p21 : lw_okq (⟨"PathProver$Parser", "definition", "()Z"⟩, 12) := ⟨⟨by decide +kernel, by decide +kernel⟩, List.mem_of_getElem? (i := 189) (by decide +kernel), List.mem_of_getElem? (i := 1218) (by decide +kernel), List.mem_of_getElem? (i := 1219) (by decide +kernel)⟩
theorem lw_p22 : lw_okq (⟨"PathProver$Parser", "line", "()Z"⟩, 12) := ⟨⟨by decide +kernel, by decide +kernel⟩, List.mem_of_getElem? (i := 189) (by decide +kernel), List.mem_of_getElem? (i := 1222) (by decide +kernel), List.mem_of_getElem? (i := 1223) (by decide +kernel)⟩
theorem lw_p23 : lw_okq (⟨"PathProver$Parser", "operator", "()Z"⟩, 12) := ⟨⟨by decide +kernel, by decide +kernel⟩, List.mem_of_getElem? (i := 189) (by decide +kernel), List.mem_of_getElem? (i := 1226) (by decide +kernel), List.mem_of_getElem? (i := 1227) (by decide +kernel)⟩
theorem lw_p24 : lw_okq (⟨"PathProver$Parser", "closer", "()Z"⟩, 12) := ⟨⟨by decide +kernel, by decide +kernel⟩, List.mem_of_getElem? (i := 189) (by decide +kernel), List.mem_of_getElem? (i := 1233) (by decide +kernel), List.mem_of_getElem? (i := 1234) (by decide +kernel)⟩
theorem lw_p25 : lw_okq (⟨"PathProver$Parser", "endOfP", "()V"⟩, 12) := ⟨⟨by decide +kernel, by decide +kernel⟩, List.mem_of_getElem? (i := 189) (by decide +kernel), List.mem_of_getElem? (i := 1237) (by decide +kernel), List.mem_of_getElem? (i := 1238) (by decide +kernel)⟩
theorem lw_p26 : lw_okq (⟨"PathProver$Parser", "unwind", "(I)I"⟩, 12) := ⟨⟨by decide +kernel, by decide +kernel⟩, List.mem_of_getElem? (i := 189) (by decide +kernel), List.mem_of_getElem? (i := 1241) (by decide +kernel), List.mem_of_getElem? (i := 1242) (by decide +kernel)⟩
theorem lw_p27 : lw_okq (⟨"PathProver$Parser", "top", "()I"⟩, 12) := ⟨⟨by decide +kernel, by decide +kernel⟩, List.mem_of_getElem? (i := 189) (by decide +kernel), List.mem_of_getElem? (i := 1247) (by decide +kernel), List.mem_of_getElem? (i := 1248) (by decide +kernel)⟩
theorem lw_p28 : lw_okq (⟨"PathProver$Parser", "note", "()I"⟩, 12) := ⟨⟨by decide +kernel, by decide +kernel⟩, List.mem_of_getElem? (i := 189) (by decide +kernel), List.mem_of_getElem? (i := 1251) (by decide +kernel), List.mem_of_getElem? (i := 1252) (by decide +kernel)⟩
theorem lw_p29 : lw_okq (⟨"PathProver$Parser", "emit", "(II)V"⟩, 12) := ⟨⟨by decide +kernel, by decide +kernel⟩, List.mem_of_getElem? (i := 189) (by decide +kernel), List.mem_of_getElem? (i := 1255) (by decide +kernel), List.mem_of_getElem? (i := 1256) (by decide +kernel)⟩
theorem lw_p30 : lw_okq (⟨"PathProver$Parser", "drop", "()V"⟩, 12) := ⟨⟨by decide +kernel, by decide +kernel⟩, List.mem_of_getElem? (i := 189) (by decide +kernel), List.mem_of_getElem? (i := 1259) (by decide +kernel), List.mem_of_getElem? (i := 1260) (by decide +kernel)⟩
theorem lw_p31 : lw_okq (⟨"PathProver$Parser", "itemEnded", "(I)Z"⟩, 12) := ⟨⟨by decide +kernel, by decide +kernel⟩, List.mem_of_getElem? (i := 189) (by decide +kernel), List.mem_of_getElem? (i := 1269) (by decide +kernel), List.mem_of_getElem? (i := 1270) (by decide +kernel)⟩
def lw_privs_2 : List (MethodName × Nat) := [(⟨"PathProver$Parser", "start", "(III)Z"⟩, 12), (⟨"PathProver$Parser", "push", "(II)V"⟩, 12), (⟨"PathProver$Parser", "valueList", "(I)Z"⟩, 12), (⟨"PathProver$Parser", "bound", "(II)Z"⟩, 12), (⟨"PathProver$Parser", "section", "()Z"⟩, 12), (⟨"PathProver$Parser", "definition", "()Z"⟩, 12), (⟨"PathProver$Parser", "line", "()Z"⟩, 12), (⟨"PathProver$Parser", "operator", "()Z"⟩, 12), (⟨"PathProver$Parser", "closer", "()Z"⟩, 12), (⟨"PathProver$Parser", "endOfP", "()V"⟩, 12), (⟨"PathProver$Parser", "unwind", "(I)I"⟩, 12), (⟨"PathProver$Parser", "top", "()I"⟩, 12), (⟨"PathProver$Parser", "note", "()I"⟩, 12), (⟨"PathProver$Parser", "emit", "(II)V"⟩, 12), (⟨"PathProver$Parser", "drop", "()V"⟩, 12), (⟨"PathProver$Parser", "itemEnded", "(I)Z"⟩, 12)]
theorem lw_r2 : ∀ q ∈ lw_privs_2, lw_okq q := List.forall_mem_cons.mpr ⟨lw_p16, List.forall_mem_cons.mpr ⟨lw_p17, List.forall_mem_cons.mpr ⟨lw_p18, List.forall_mem_cons.mpr ⟨lw_p19, List.forall_mem_cons.mpr ⟨lw_p20, List.forall_mem_cons.mpr ⟨lw_p21, List.forall_mem_cons.mpr ⟨lw_p22, List.forall_mem_cons.mpr ⟨lw_p23, List.forall_mem_cons.mpr ⟨lw_p24, List.forall_mem_cons.mpr ⟨lw_p25, List.forall_mem_cons.mpr ⟨lw_p26, List.forall_mem_cons.mpr ⟨lw_p27, List.forall_mem_cons.mpr ⟨lw_p28, List.forall_mem_cons.mpr ⟨lw_p29, List.forall_mem_cons.mpr ⟨lw_p30, List.forall_mem_cons.mpr ⟨lw_p31, fun _ h => absurd h List.not_mem_nil⟩⟩⟩⟩⟩⟩⟩⟩⟩⟩⟩⟩⟩⟩⟩⟩
theorem lw_p32 : lw_okq (⟨"PathProver$Parser", "given", "()Z"⟩, 12) := ⟨⟨by decide +kernel, by decide +kernel⟩, List.mem_of_getElem? (i := 189) (by decide +kernel), List.mem_of_getElem? (i := 1273) (by decide +kernel), List.mem_of_getElem? (i := 1274) (by decide +kernel)⟩
theorem lw_p33 : lw_okq (⟨"PathProver$Parser", "factorEnded", "()V"⟩, 12) := ⟨⟨by decide +kernel, by decide +kernel⟩, List.mem_of_getElem? (i := 189) (by decide +kernel), List.mem_of_getElem? (i := 1277) (by decide +kernel), List.mem_of_getElem? (i := 1278) (by decide +kernel)⟩
theorem lw_p34 : lw_okq (⟨"PathProver$Parser", "turnTo", "(III)Z"⟩, 12) := ⟨⟨by decide +kernel, by decide +kernel⟩, List.mem_of_getElem? (i := 189) (by decide +kernel), List.mem_of_getElem? (i := 1281) (by decide +kernel), List.mem_of_getElem? (i := 1282) (by decide +kernel)⟩
theorem lw_p35 : lw_okq (⟨"PathProver$Parser", "partEnded", "()Z"⟩, 12) := ⟨⟨by decide +kernel, by decide +kernel⟩, List.mem_of_getElem? (i := 189) (by decide +kernel), List.mem_of_getElem? (i := 1285) (by decide +kernel), List.mem_of_getElem? (i := 1286) (by decide +kernel)⟩
theorem lw_p36 : lw_okq (⟨"PathProver$Parser", "listed", "(I)Z"⟩, 12) := ⟨⟨by decide +kernel, by decide +kernel⟩, List.mem_of_getElem? (i := 189) (by decide +kernel), List.mem_of_getElem? (i := 1289) (by decide +kernel), List.mem_of_getElem? (i := 1290) (by decide +kernel)⟩
theorem lw_p37 : lw_okq (⟨"PathProver$Parser", "branched", "()Z"⟩, 12) := ⟨⟨by decide +kernel, by decide +kernel⟩, List.mem_of_getElem? (i := 189) (by decide +kernel), List.mem_of_getElem? (i := 1293) (by decide +kernel), List.mem_of_getElem? (i := 1294) (by decide +kernel)⟩
theorem lw_p38 : lw_okq (⟨"PathProver$Parser", "choiceEnded", "()Z"⟩, 12) := ⟨⟨by decide +kernel, by decide +kernel⟩, List.mem_of_getElem? (i := 189) (by decide +kernel), List.mem_of_getElem? (i := 1297) (by decide +kernel), List.mem_of_getElem? (i := 1298) (by decide +kernel)⟩
theorem lw_p39 : lw_okq (⟨"PathProver$Parser", "choice", "()Z"⟩, 12) := ⟨⟨by decide +kernel, by decide +kernel⟩, List.mem_of_getElem? (i := 189) (by decide +kernel), List.mem_of_getElem? (i := 1301) (by decide +kernel), List.mem_of_getElem? (i := 1302) (by decide +kernel)⟩
theorem lw_p40 : lw_okq (⟨"PathProver$Parser", "operand", "()Z"⟩, 12) := ⟨⟨by decide +kernel, by decide +kernel⟩, List.mem_of_getElem? (i := 189) (by decide +kernel), List.mem_of_getElem? (i := 1305) (by decide +kernel), List.mem_of_getElem? (i := 1306) (by decide +kernel)⟩
theorem lw_p41 : lw_okq (⟨"PathProver$Parser", "prefix", "()Z"⟩, 12) := ⟨⟨by decide +kernel, by decide +kernel⟩, List.mem_of_getElem? (i := 189) (by decide +kernel), List.mem_of_getElem? (i := 1309) (by decide +kernel), List.mem_of_getElem? (i := 1310) (by decide +kernel)⟩
theorem lw_p42 : lw_okq (⟨"PathProver$Parser", "leaf", "()Z"⟩, 12) := ⟨⟨by decide +kernel, by decide +kernel⟩, List.mem_of_getElem? (i := 189) (by decide +kernel), List.mem_of_getElem? (i := 1313) (by decide +kernel), List.mem_of_getElem? (i := 1314) (by decide +kernel)⟩
theorem lw_p43 : lw_okq (⟨"PathProver$Parser", "names", "()Z"⟩, 12) := ⟨⟨by decide +kernel, by decide +kernel⟩, List.mem_of_getElem? (i := 189) (by decide +kernel), List.mem_of_getElem? (i := 1317) (by decide +kernel), List.mem_of_getElem? (i := 1318) (by decide +kernel)⟩
theorem lw_p44 : lw_okq (⟨"PathProver$Parser", "giveSymbols", "()V"⟩, 12) := ⟨⟨by decide +kernel, by decide +kernel⟩, List.mem_of_getElem? (i := 189) (by decide +kernel), List.mem_of_getElem? (i := 1321) (by decide +kernel), List.mem_of_getElem? (i := 1322) (by decide +kernel)⟩
theorem lw_p45 : lw_okq (⟨"PathProver$Sound", "add", "(IIII)Z"⟩, 4) := ⟨⟨by decide +kernel, by decide +kernel⟩, List.mem_of_getElem? (i := 335) (by decide +kernel), List.mem_of_getElem? (i := 1340) (by decide +kernel), List.mem_of_getElem? (i := 1341) (by decide +kernel)⟩
theorem lw_p46 : lw_okq (⟨"PathProver$Sound", "find", "(II)I"⟩, 4) := ⟨⟨by decide +kernel, by decide +kernel⟩, List.mem_of_getElem? (i := 335) (by decide +kernel), List.mem_of_getElem? (i := 1344) (by decide +kernel), List.mem_of_getElem? (i := 1345) (by decide +kernel)⟩
theorem lw_p47 : lw_okq (⟨"PathProver$Sound", "hashOf", "(II)I"⟩, 4) := ⟨⟨by decide +kernel, by decide +kernel⟩, List.mem_of_getElem? (i := 335) (by decide +kernel), List.mem_of_getElem? (i := 1348) (by decide +kernel), List.mem_of_getElem? (i := 1349) (by decide +kernel)⟩
def lw_privs_3 : List (MethodName × Nat) := [(⟨"PathProver$Parser", "given", "()Z"⟩, 12), (⟨"PathProver$Parser", "factorEnded", "()V"⟩, 12), (⟨"PathProver$Parser", "turnTo", "(III)Z"⟩, 12), (⟨"PathProver$Parser", "partEnded", "()Z"⟩, 12), (⟨"PathProver$Parser", "listed", "(I)Z"⟩, 12), (⟨"PathProver$Parser", "branched", "()Z"⟩, 12), (⟨"PathProver$Parser", "choiceEnded", "()Z"⟩, 12), (⟨"PathProver$Parser", "choice", "()Z"⟩, 12), (⟨"PathProver$Parser", "operand", "()Z"⟩, 12), (⟨"PathProver$Parser", "prefix", "()Z"⟩, 12), (⟨"PathProver$Parser", "leaf", "()Z"⟩, 12), (⟨"PathProver$Parser", "names", "()Z"⟩, 12), (⟨"PathProver$Parser", "giveSymbols", "()V"⟩, 12), (⟨"PathProver$Sound", "add", "(IIII)Z"⟩, 4), (⟨"PathProver$Sound", "find", "(II)I"⟩, 4), (⟨"PathProver$Sound", "hashOf", "(II)I"⟩, 4)]
theorem lw_r3 : ∀ q ∈ lw_privs_3, lw_okq q := List.forall_mem_cons.mpr ⟨lw_p32, List.forall_mem_cons.mpr ⟨lw_p33, List.forall_mem_cons.mpr ⟨lw_p34, List.forall_mem_cons.mpr ⟨lw_p35, List.forall_mem_cons.mpr ⟨lw_p36, List.forall_mem_cons.mpr ⟨lw_p37, List.forall_mem_cons.mpr ⟨lw_p38, List.forall_mem_cons.mpr ⟨lw_p39, List.forall_mem_cons.mpr ⟨lw_p40, List.forall_mem_cons.mpr ⟨lw_p41, List.forall_mem_cons.mpr ⟨lw_p42, List.forall_mem_cons.mpr ⟨lw_p43, List.forall_mem_cons.mpr ⟨lw_p44, List.forall_mem_cons.mpr ⟨lw_p45, List.forall_mem_cons.mpr ⟨lw_p46, List.forall_mem_cons.mpr ⟨lw_p47, fun _ h => absurd h List.not_mem_nil⟩⟩⟩⟩⟩⟩⟩⟩⟩⟩⟩⟩⟩⟩⟩⟩
theorem lw_p48 : lw_okq (⟨"PathProver$Sound", "rowOf", "(I)I"⟩, 4) := ⟨⟨by decide +kernel, by decide +kernel⟩, List.mem_of_getElem? (i := 335) (by decide +kernel), List.mem_of_getElem? (i := 1354) (by decide +kernel), List.mem_of_getElem? (i := 1355) (by decide +kernel)⟩
theorem lw_p49 : lw_okq (⟨"PathProver$Sound", "namesDiffer", "(I)Z"⟩, 4) := ⟨⟨by decide +kernel, by decide +kernel⟩, List.mem_of_getElem? (i := 335) (by decide +kernel), List.mem_of_getElem? (i := 1363) (by decide +kernel), List.mem_of_getElem? (i := 1364) (by decide +kernel)⟩
theorem lw_p50 : lw_okq (⟨"PathProver$Sound", "typesFit", "(I)Z"⟩, 4) := ⟨⟨by decide +kernel, by decide +kernel⟩, List.mem_of_getElem? (i := 335) (by decide +kernel), List.mem_of_getElem? (i := 1367) (by decide +kernel), List.mem_of_getElem? (i := 1368) (by decide +kernel)⟩
theorem lw_p51 : lw_okq (⟨"PathProver$Sound", "valuesFit", "(I)Z"⟩, 4) := ⟨⟨by decide +kernel, by decide +kernel⟩, List.mem_of_getElem? (i := 335) (by decide +kernel), List.mem_of_getElem? (i := 1371) (by decide +kernel), List.mem_of_getElem? (i := 1372) (by decide +kernel)⟩
theorem lw_p52 : lw_okq (⟨"PathProver$Sound", "instanceFits", "(I)Z"⟩, 4) := ⟨⟨by decide +kernel, by decide +kernel⟩, List.mem_of_getElem? (i := 335) (by decide +kernel), List.mem_of_getElem? (i := 1375) (by decide +kernel), List.mem_of_getElem? (i := 1376) (by decide +kernel)⟩
theorem lw_p53 : lw_okq (⟨"PathProver$Sound", "linesFit", "(I)Z"⟩, 4) := ⟨⟨by decide +kernel, by decide +kernel⟩, List.mem_of_getElem? (i := 335) (by decide +kernel), List.mem_of_getElem? (i := 1379) (by decide +kernel), List.mem_of_getElem? (i := 1380) (by decide +kernel)⟩
theorem lw_p54 : lw_okq (⟨"PathProver$Sound", "kindOf", "(I)I"⟩, 4) := ⟨⟨by decide +kernel, by decide +kernel⟩, List.mem_of_getElem? (i := 335) (by decide +kernel), List.mem_of_getElem? (i := 1383) (by decide +kernel), List.mem_of_getElem? (i := 1384) (by decide +kernel)⟩
theorem lw_p55 : lw_okq (⟨"PathProver$Sound", "endsSomewhere", "()Z"⟩, 4) := ⟨⟨by decide +kernel, by decide +kernel⟩, List.mem_of_getElem? (i := 335) (by decide +kernel), List.mem_of_getElem? (i := 1387) (by decide +kernel), List.mem_of_getElem? (i := 1388) (by decide +kernel)⟩
theorem lw_p56 : lw_okq (⟨"PathProver$Sound", "reckon", "(I)Z"⟩, 4) := ⟨⟨by decide +kernel, by decide +kernel⟩, List.mem_of_getElem? (i := 335) (by decide +kernel), List.mem_of_getElem? (i := 1391) (by decide +kernel), List.mem_of_getElem? (i := 1392) (by decide +kernel)⟩
theorem lw_p57 : lw_okq (⟨"PathProver$Model", "addInstance", "(III)V"⟩, 19) := ⟨⟨by decide +kernel, by decide +kernel⟩, List.mem_of_getElem? (i := 50) (by decide +kernel), List.mem_of_getElem? (i := 1402) (by decide +kernel), List.mem_of_getElem? (i := 1403) (by decide +kernel)⟩
theorem lw_p58 : lw_okq (⟨"PathProver$Model", "addVar", "(III)V"⟩, 19) := ⟨⟨by decide +kernel, by decide +kernel⟩, List.mem_of_getElem? (i := 50) (by decide +kernel), List.mem_of_getElem? (i := 1407) (by decide +kernel), List.mem_of_getElem? (i := 1408) (by decide +kernel)⟩
theorem lw_p59 : lw_okq (⟨"PathProver$Model", "addClaims", "(II)V"⟩, 19) := ⟨⟨by decide +kernel, by decide +kernel⟩, List.mem_of_getElem? (i := 50) (by decide +kernel), List.mem_of_getElem? (i := 1419) (by decide +kernel), List.mem_of_getElem? (i := 1420) (by decide +kernel)⟩
theorem lw_p60 : lw_okq (⟨"PathProver$Sound", "isKnown", "(II)Z"⟩, 4) := ⟨⟨by decide +kernel, by decide +kernel⟩, List.mem_of_getElem? (i := 335) (by decide +kernel), List.mem_of_getElem? (i := 1428) (by decide +kernel), List.mem_of_getElem? (i := 1429) (by decide +kernel)⟩
theorem lw_p61 : lw_okq (⟨"PathProver$Judge", "areOrdered", "()Z"⟩, 4) := ⟨⟨by decide +kernel, by decide +kernel⟩, List.mem_of_getElem? (i := 329) (by decide +kernel), List.mem_of_getElem? (i := 1432) (by decide +kernel), List.mem_of_getElem? (i := 1433) (by decide +kernel)⟩
theorem lw_p62 : lw_okq (⟨"PathProver$Judge", "visit", "(I)Z"⟩, 4) := ⟨⟨by decide +kernel, by decide +kernel⟩, List.mem_of_getElem? (i := 329) (by decide +kernel), List.mem_of_getElem? (i := 1436) (by decide +kernel), List.mem_of_getElem? (i := 1437) (by decide +kernel)⟩
theorem lw_p63 : lw_okq (⟨"PathProver$Judge", "enter", "(I)V"⟩, 4) := ⟨⟨by decide +kernel, by decide +kernel⟩, List.mem_of_getElem? (i := 329) (by decide +kernel), List.mem_of_getElem? (i := 1441) (by decide +kernel), List.mem_of_getElem? (i := 1442) (by decide +kernel)⟩
def lw_privs_4 : List (MethodName × Nat) := [(⟨"PathProver$Sound", "rowOf", "(I)I"⟩, 4), (⟨"PathProver$Sound", "namesDiffer", "(I)Z"⟩, 4), (⟨"PathProver$Sound", "typesFit", "(I)Z"⟩, 4), (⟨"PathProver$Sound", "valuesFit", "(I)Z"⟩, 4), (⟨"PathProver$Sound", "instanceFits", "(I)Z"⟩, 4), (⟨"PathProver$Sound", "linesFit", "(I)Z"⟩, 4), (⟨"PathProver$Sound", "kindOf", "(I)I"⟩, 4), (⟨"PathProver$Sound", "endsSomewhere", "()Z"⟩, 4), (⟨"PathProver$Sound", "reckon", "(I)Z"⟩, 4), (⟨"PathProver$Model", "addInstance", "(III)V"⟩, 19), (⟨"PathProver$Model", "addVar", "(III)V"⟩, 19), (⟨"PathProver$Model", "addClaims", "(II)V"⟩, 19), (⟨"PathProver$Sound", "isKnown", "(II)Z"⟩, 4), (⟨"PathProver$Judge", "areOrdered", "()Z"⟩, 4), (⟨"PathProver$Judge", "visit", "(I)Z"⟩, 4), (⟨"PathProver$Judge", "enter", "(I)V"⟩, 4)]
theorem lw_r4 : ∀ q ∈ lw_privs_4, lw_okq q := List.forall_mem_cons.mpr ⟨lw_p48, List.forall_mem_cons.mpr ⟨lw_p49, List.forall_mem_cons.mpr ⟨lw_p50, List.forall_mem_cons.mpr ⟨lw_p51, List.forall_mem_cons.mpr ⟨lw_p52, List.forall_mem_cons.mpr ⟨lw_p53, List.forall_mem_cons.mpr ⟨lw_p54, List.forall_mem_cons.mpr ⟨lw_p55, List.forall_mem_cons.mpr ⟨lw_p56, List.forall_mem_cons.mpr ⟨lw_p57, List.forall_mem_cons.mpr ⟨lw_p58, List.forall_mem_cons.mpr ⟨lw_p59, List.forall_mem_cons.mpr ⟨lw_p60, List.forall_mem_cons.mpr ⟨lw_p61, List.forall_mem_cons.mpr ⟨lw_p62, List.forall_mem_cons.mpr ⟨lw_p63, fun _ h => absurd h List.not_mem_nil⟩⟩⟩⟩⟩⟩⟩⟩⟩⟩⟩⟩⟩⟩⟩⟩
theorem lw_p64 : lw_okq (⟨"PathProver$Judge", "nextPart", "(I)I"⟩, 4) := ⟨⟨by decide +kernel, by decide +kernel⟩, List.mem_of_getElem? (i := 329) (by decide +kernel), List.mem_of_getElem? (i := 1447) (by decide +kernel), List.mem_of_getElem? (i := 1448) (by decide +kernel)⟩
theorem lw_p65 : lw_okq (⟨"PathProver$Judge", "namedAt", "(II)I"⟩, 4) := ⟨⟨by decide +kernel, by decide +kernel⟩, List.mem_of_getElem? (i := 329) (by decide +kernel), List.mem_of_getElem? (i := 1451) (by decide +kernel), List.mem_of_getElem? (i := 1452) (by decide +kernel)⟩
theorem lw_p66 : lw_okq (⟨"PathProver$Judge", "areLow", "()Z"⟩, 4) := ⟨⟨by decide +kernel, by decide +kernel⟩, List.mem_of_getElem? (i := 329) (by decide +kernel), List.mem_of_getElem? (i := 1464) (by decide +kernel), List.mem_of_getElem? (i := 1465) (by decide +kernel)⟩
theorem lw_p67 : lw_okq (⟨"PathProver$Judge", "heightOf", "(III)I"⟩, 4) := ⟨⟨by decide +kernel, by decide +kernel⟩, List.mem_of_getElem? (i := 329) (by decide +kernel), List.mem_of_getElem? (i := 1468) (by decide +kernel), List.mem_of_getElem? (i := 1469) (by decide +kernel)⟩
theorem lw_p68 : lw_okq (⟨"PathProver$Judge", "haveSorts", "()Z"⟩, 4) := ⟨⟨by decide +kernel, by decide +kernel⟩, List.mem_of_getElem? (i := 329) (by decide +kernel), List.mem_of_getElem? (i := 1479) (by decide +kernel), List.mem_of_getElem? (i := 1480) (by decide +kernel)⟩
theorem lw_p69 : lw_okq (⟨"PathProver$Judge", "sortOf", "(IIII)I"⟩, 4) := ⟨⟨by decide +kernel, by decide +kernel⟩, List.mem_of_getElem? (i := 329) (by decide +kernel), List.mem_of_getElem? (i := 1483) (by decide +kernel), List.mem_of_getElem? (i := 1484) (by decide +kernel)⟩
theorem lw_p70 : lw_okq (⟨"PathProver$Judge", "leafSort", "(III)I"⟩, 4) := ⟨⟨by decide +kernel, by decide +kernel⟩, List.mem_of_getElem? (i := 329) (by decide +kernel), List.mem_of_getElem? (i := 1487) (by decide +kernel), List.mem_of_getElem? (i := 1488) (by decide +kernel)⟩
theorem lw_p71 : lw_okq (⟨"PathProver$Judge", "joinedSort", "(IIII)I"⟩, 4) := ⟨⟨by decide +kernel, by decide +kernel⟩, List.mem_of_getElem? (i := 329) (by decide +kernel), List.mem_of_getElem? (i := 1495) (by decide +kernel), List.mem_of_getElem? (i := 1496) (by decide +kernel)⟩
theorem lw_p72 : lw_okq (⟨"PathProver$Judge", "areTruths", "(II)Z"⟩, 4) := ⟨⟨by decide +kernel, by decide +kernel⟩, List.mem_of_getElem? (i := 329) (by decide +kernel), List.mem_of_getElem? (i := 1502) (by decide +kernel), List.mem_of_getElem? (i := 1503) (by decide +kernel)⟩
theorem lw_p73 : lw_okq (⟨"PathProver$Judge", "areAll", "(III)Z"⟩, 4) := ⟨⟨by decide +kernel, by decide +kernel⟩, List.mem_of_getElem? (i := 329) (by decide +kernel), List.mem_of_getElem? (i := 1506) (by decide +kernel), List.mem_of_getElem? (i := 1507) (by decide +kernel)⟩
theorem lw_p74 : lw_okq (⟨"PathProver$Judge", "casesSort", "(II)I"⟩, 4) := ⟨⟨by decide +kernel, by decide +kernel⟩, List.mem_of_getElem? (i := 329) (by decide +kernel), List.mem_of_getElem? (i := 1510) (by decide +kernel), List.mem_of_getElem? (i := 1511) (by decide +kernel)⟩
theorem lw_p75 : lw_okq (⟨"PathProver$Judge", "claimsAreTruths", "(I)Z"⟩, 4) := ⟨⟨by decide +kernel, by decide +kernel⟩, List.mem_of_getElem? (i := 329) (by decide +kernel), List.mem_of_getElem? (i := 1514) (by decide +kernel), List.mem_of_getElem? (i := 1515) (by decide +kernel)⟩
theorem lw_p76 : lw_okq (⟨"PathProver$Judge", "linesHaveSorts", "(I)Z"⟩, 4) := ⟨⟨by decide +kernel, by decide +kernel⟩, List.mem_of_getElem? (i := 329) (by decide +kernel), List.mem_of_getElem? (i := 1518) (by decide +kernel), List.mem_of_getElem? (i := 1519) (by decide +kernel)⟩
theorem lw_p77 : lw_okq (⟨"PathProver$Space", "keepWorths", "(II)V"⟩, 20) := ⟨⟨by decide +kernel, by decide +kernel⟩, List.mem_of_getElem? (i := 372) (by decide +kernel), List.mem_of_getElem? (i := 1554) (by decide +kernel), List.mem_of_getElem? (i := 1555) (by decide +kernel)⟩
theorem lw_p78 : lw_okq (⟨"PathProver", "needNumber", "(II)V"⟩, 14) := ⟨⟨by decide +kernel, by decide +kernel⟩, List.mem_of_getElem? (i := 42) (by decide +kernel), List.mem_of_getElem? (i := 1577) (by decide +kernel), List.mem_of_getElem? (i := 1578) (by decide +kernel)⟩
theorem lw_p79 : lw_okq (⟨"PathProver", "needModel", "()V"⟩, 14) := ⟨⟨by decide +kernel, by decide +kernel⟩, List.mem_of_getElem? (i := 42) (by decide +kernel), List.mem_of_getElem? (i := 1581) (by decide +kernel), List.mem_of_getElem? (i := 1582) (by decide +kernel)⟩
def lw_privs_5 : List (MethodName × Nat) := [(⟨"PathProver$Judge", "nextPart", "(I)I"⟩, 4), (⟨"PathProver$Judge", "namedAt", "(II)I"⟩, 4), (⟨"PathProver$Judge", "areLow", "()Z"⟩, 4), (⟨"PathProver$Judge", "heightOf", "(III)I"⟩, 4), (⟨"PathProver$Judge", "haveSorts", "()Z"⟩, 4), (⟨"PathProver$Judge", "sortOf", "(IIII)I"⟩, 4), (⟨"PathProver$Judge", "leafSort", "(III)I"⟩, 4), (⟨"PathProver$Judge", "joinedSort", "(IIII)I"⟩, 4), (⟨"PathProver$Judge", "areTruths", "(II)Z"⟩, 4), (⟨"PathProver$Judge", "areAll", "(III)Z"⟩, 4), (⟨"PathProver$Judge", "casesSort", "(II)I"⟩, 4), (⟨"PathProver$Judge", "claimsAreTruths", "(I)Z"⟩, 4), (⟨"PathProver$Judge", "linesHaveSorts", "(I)Z"⟩, 4), (⟨"PathProver$Space", "keepWorths", "(II)V"⟩, 20), (⟨"PathProver", "needNumber", "(II)V"⟩, 14), (⟨"PathProver", "needModel", "()V"⟩, 14)]
theorem lw_r5 : ∀ q ∈ lw_privs_5, lw_okq q := List.forall_mem_cons.mpr ⟨lw_p64, List.forall_mem_cons.mpr ⟨lw_p65, List.forall_mem_cons.mpr ⟨lw_p66, List.forall_mem_cons.mpr ⟨lw_p67, List.forall_mem_cons.mpr ⟨lw_p68, List.forall_mem_cons.mpr ⟨lw_p69, List.forall_mem_cons.mpr ⟨lw_p70, List.forall_mem_cons.mpr ⟨lw_p71, List.forall_mem_cons.mpr ⟨lw_p72, List.forall_mem_cons.mpr ⟨lw_p73, List.forall_mem_cons.mpr ⟨lw_p74, List.forall_mem_cons.mpr ⟨lw_p75, List.forall_mem_cons.mpr ⟨lw_p76, List.forall_mem_cons.mpr ⟨lw_p77, List.forall_mem_cons.mpr ⟨lw_p78, List.forall_mem_cons.mpr ⟨lw_p79, fun _ h => absurd h List.not_mem_nil⟩⟩⟩⟩⟩⟩⟩⟩⟩⟩⟩⟩⟩⟩⟩⟩
theorem lw_p80 : lw_okq (⟨"PathProver", "ready", "()V"⟩, 14) := ⟨⟨by decide +kernel, by decide +kernel⟩, List.mem_of_getElem? (i := 42) (by decide +kernel), List.mem_of_getElem? (i := 1600) (by decide +kernel), List.mem_of_getElem? (i := 1601) (by decide +kernel)⟩
theorem lw_p81 : lw_okq (⟨"PathProver$Machine", "note", "(III)I"⟩, 22) := ⟨⟨by decide +kernel, by decide +kernel⟩, List.mem_of_getElem? (i := 378) (by decide +kernel), List.mem_of_getElem? (i := 1869) (by decide +kernel), List.mem_of_getElem? (i := 1870) (by decide +kernel)⟩
theorem lw_p82 : lw_okq (⟨"PathProver$Machine", "layOutSides", "()I"⟩, 22) := ⟨⟨by decide +kernel, by decide +kernel⟩, List.mem_of_getElem? (i := 378) (by decide +kernel), List.mem_of_getElem? (i := 1876) (by decide +kernel), List.mem_of_getElem? (i := 1877) (by decide +kernel)⟩
theorem lw_p83 : lw_okq (⟨"PathProver$Machine", "layOut", "(II)V"⟩, 22) := ⟨⟨by decide +kernel, by decide +kernel⟩, List.mem_of_getElem? (i := 378) (by decide +kernel), List.mem_of_getElem? (i := 1881) (by decide +kernel), List.mem_of_getElem? (i := 1882) (by decide +kernel)⟩
theorem lw_p84 : lw_okq (⟨"PathProver$Machine", "weigh", "(II)V"⟩, 22) := ⟨⟨by decide +kernel, by decide +kernel⟩, List.mem_of_getElem? (i := 378) (by decide +kernel), List.mem_of_getElem? (i := 1895) (by decide +kernel), List.mem_of_getElem? (i := 1896) (by decide +kernel)⟩
theorem lw_p85 : lw_okq (⟨"PathProver$Machine", "fillAll", "()V"⟩, 22) := ⟨⟨by decide +kernel, by decide +kernel⟩, List.mem_of_getElem? (i := 378) (by decide +kernel), List.mem_of_getElem? (i := 1899) (by decide +kernel), List.mem_of_getElem? (i := 1900) (by decide +kernel)⟩
theorem lw_p86 : lw_okq (⟨"PathProver$Machine", "fill", "(I)V"⟩, 22) := ⟨⟨by decide +kernel, by decide +kernel⟩, List.mem_of_getElem? (i := 378) (by decide +kernel), List.mem_of_getElem? (i := 1903) (by decide +kernel), List.mem_of_getElem? (i := 1904) (by decide +kernel)⟩
theorem lw_p87 : lw_okq (⟨"PathProver$Machine", "push", "(III)V"⟩, 22) := ⟨⟨by decide +kernel, by decide +kernel⟩, List.mem_of_getElem? (i := 378) (by decide +kernel), List.mem_of_getElem? (i := 1915) (by decide +kernel), List.mem_of_getElem? (i := 1916) (by decide +kernel)⟩
theorem lw_p88 : lw_okq (⟨"PathProver$Machine", "apply", "(II)V"⟩, 22) := ⟨⟨by decide +kernel, by decide +kernel⟩, List.mem_of_getElem? (i := 378) (by decide +kernel), List.mem_of_getElem? (i := 1919) (by decide +kernel), List.mem_of_getElem? (i := 1920) (by decide +kernel)⟩
theorem lw_p89 : lw_okq (⟨"PathProver$Machine", "keepChoices", "(I)V"⟩, 22) := ⟨⟨by decide +kernel, by decide +kernel⟩, List.mem_of_getElem? (i := 378) (by decide +kernel), List.mem_of_getElem? (i := 1923) (by decide +kernel), List.mem_of_getElem? (i := 1924) (by decide +kernel)⟩
theorem lw_p90 : lw_okq (⟨"PathProver$Machine", "copy", "(II)V"⟩, 22) := ⟨⟨by decide +kernel, by decide +kernel⟩, List.mem_of_getElem? (i := 378) (by decide +kernel), List.mem_of_getElem? (i := 1927) (by decide +kernel), List.mem_of_getElem? (i := 1928) (by decide +kernel)⟩
theorem lw_p91 : lw_okq (⟨"PathProver$Machine", "reckonOne", "(II)I"⟩, 22) := ⟨⟨by decide +kernel, by decide +kernel⟩, List.mem_of_getElem? (i := 378) (by decide +kernel), List.mem_of_getElem? (i := 1931) (by decide +kernel), List.mem_of_getElem? (i := 1932) (by decide +kernel)⟩
theorem lw_p92 : lw_okq (⟨"PathProver$Machine", "choose", "(III)V"⟩, 22) := ⟨⟨by decide +kernel, by decide +kernel⟩, List.mem_of_getElem? (i := 378) (by decide +kernel), List.mem_of_getElem? (i := 1938) (by decide +kernel), List.mem_of_getElem? (i := 1939) (by decide +kernel)⟩
theorem lw_p93 : lw_okq (⟨"PathProver$Machine", "bring", "(I[I)V"⟩, 22) := ⟨⟨by decide +kernel, by decide +kernel⟩, List.mem_of_getElem? (i := 378) (by decide +kernel), List.mem_of_getElem? (i := 1942) (by decide +kernel), List.mem_of_getElem? (i := 1943) (by decide +kernel)⟩
theorem lw_p94 : lw_okq (⟨"PathProver$Machine", "match", "(II)V"⟩, 22) := ⟨⟨by decide +kernel, by decide +kernel⟩, List.mem_of_getElem? (i := 378) (by decide +kernel), List.mem_of_getElem? (i := 1946) (by decide +kernel), List.mem_of_getElem? (i := 1947) (by decide +kernel)⟩
theorem lw_p95 : lw_okq (⟨"PathProver$Machine", "joinTruths", "(II)V"⟩, 22) := ⟨⟨by decide +kernel, by decide +kernel⟩, List.mem_of_getElem? (i := 378) (by decide +kernel), List.mem_of_getElem? (i := 1950) (by decide +kernel), List.mem_of_getElem? (i := 1951) (by decide +kernel)⟩
def lw_privs_6 : List (MethodName × Nat) := [(⟨"PathProver", "ready", "()V"⟩, 14), (⟨"PathProver$Machine", "note", "(III)I"⟩, 22), (⟨"PathProver$Machine", "layOutSides", "()I"⟩, 22), (⟨"PathProver$Machine", "layOut", "(II)V"⟩, 22), (⟨"PathProver$Machine", "weigh", "(II)V"⟩, 22), (⟨"PathProver$Machine", "fillAll", "()V"⟩, 22), (⟨"PathProver$Machine", "fill", "(I)V"⟩, 22), (⟨"PathProver$Machine", "push", "(III)V"⟩, 22), (⟨"PathProver$Machine", "apply", "(II)V"⟩, 22), (⟨"PathProver$Machine", "keepChoices", "(I)V"⟩, 22), (⟨"PathProver$Machine", "copy", "(II)V"⟩, 22), (⟨"PathProver$Machine", "reckonOne", "(II)I"⟩, 22), (⟨"PathProver$Machine", "choose", "(III)V"⟩, 22), (⟨"PathProver$Machine", "bring", "(I[I)V"⟩, 22), (⟨"PathProver$Machine", "match", "(II)V"⟩, 22), (⟨"PathProver$Machine", "joinTruths", "(II)V"⟩, 22)]
theorem lw_r6 : ∀ q ∈ lw_privs_6, lw_okq q := List.forall_mem_cons.mpr ⟨lw_p80, List.forall_mem_cons.mpr ⟨lw_p81, List.forall_mem_cons.mpr ⟨lw_p82, List.forall_mem_cons.mpr ⟨lw_p83, List.forall_mem_cons.mpr ⟨lw_p84, List.forall_mem_cons.mpr ⟨lw_p85, List.forall_mem_cons.mpr ⟨lw_p86, List.forall_mem_cons.mpr ⟨lw_p87, List.forall_mem_cons.mpr ⟨lw_p88, List.forall_mem_cons.mpr ⟨lw_p89, List.forall_mem_cons.mpr ⟨lw_p90, List.forall_mem_cons.mpr ⟨lw_p91, List.forall_mem_cons.mpr ⟨lw_p92, List.forall_mem_cons.mpr ⟨lw_p93, List.forall_mem_cons.mpr ⟨lw_p94, List.forall_mem_cons.mpr ⟨lw_p95, fun _ h => absurd h List.not_mem_nil⟩⟩⟩⟩⟩⟩⟩⟩⟩⟩⟩⟩⟩⟩⟩⟩
theorem lw_p96 : lw_okq (⟨"PathProver$Machine", "divide", "(II)V"⟩, 22) := ⟨⟨by decide +kernel, by decide +kernel⟩, List.mem_of_getElem? (i := 378) (by decide +kernel), List.mem_of_getElem? (i := 1954) (by decide +kernel), List.mem_of_getElem? (i := 1955) (by decide +kernel)⟩
theorem lw_p97 : lw_okq (⟨"PathProver$Machine", "joinNumbers", "(II)V"⟩, 22) := ⟨⟨by decide +kernel, by decide +kernel⟩, List.mem_of_getElem? (i := 378) (by decide +kernel), List.mem_of_getElem? (i := 1962) (by decide +kernel), List.mem_of_getElem? (i := 1963) (by decide +kernel)⟩
theorem lw_p98 : lw_okq (⟨"PathProver$Space", "isChosen", "(II)Z"⟩, 20) := ⟨⟨by decide +kernel, by decide +kernel⟩, List.mem_of_getElem? (i := 372) (by decide +kernel), List.mem_of_getElem? (i := 1974) (by decide +kernel), List.mem_of_getElem? (i := 1975) (by decide +kernel)⟩
theorem lw_p99 : lw_okq (⟨"PathProver$Machine", "cell", "(II)I"⟩, 22) := ⟨⟨by decide +kernel, by decide +kernel⟩, List.mem_of_getElem? (i := 378) (by decide +kernel), List.mem_of_getElem? (i := 1982) (by decide +kernel), List.mem_of_getElem? (i := 1983) (by decide +kernel)⟩
theorem lw_p100 : lw_okq (⟨"PathProver$Space", "spread", "(I[J)V"⟩, 20) := ⟨⟨by decide +kernel, by decide +kernel⟩, List.mem_of_getElem? (i := 372) (by decide +kernel), List.mem_of_getElem? (i := 1994) (by decide +kernel), List.mem_of_getElem? (i := 1995) (by decide +kernel)⟩
theorem lw_p101 : lw_okq (⟨"PathProver$Space", "listStates", "([J)I"⟩, 20) := ⟨⟨by decide +kernel, by decide +kernel⟩, List.mem_of_getElem? (i := 372) (by decide +kernel), List.mem_of_getElem? (i := 2003) (by decide +kernel), List.mem_of_getElem? (i := 2004) (by decide +kernel)⟩
theorem lw_p102 : lw_okq (⟨"PathProver$Sets", "encode", "([II)I"⟩, 7) := ⟨⟨by decide +kernel, by decide +kernel⟩, List.mem_of_getElem? (i := 479) (by decide +kernel), List.mem_of_getElem? (i := 2023) (by decide +kernel), List.mem_of_getElem? (i := 2024) (by decide +kernel)⟩
theorem lw_p103 : lw_okq (⟨"PathProver$Sets", "headOf", "(I)J"⟩, 7) := ⟨⟨by decide +kernel, by decide +kernel⟩, List.mem_of_getElem? (i := 479) (by decide +kernel), List.mem_of_getElem? (i := 2029) (by decide +kernel), List.mem_of_getElem? (i := 2030) (by decide +kernel)⟩
theorem lw_p104 : lw_okq (⟨"PathProver$Sets", "isWork", "(II)Z"⟩, 7) := ⟨⟨by decide +kernel, by decide +kernel⟩, List.mem_of_getElem? (i := 479) (by decide +kernel), List.mem_of_getElem? (i := 2034) (by decide +kernel), List.mem_of_getElem? (i := 2035) (by decide +kernel)⟩
theorem lw_p105 : lw_okq (⟨"PathProver$Sets", "keep", "(III)I"⟩, 7) := ⟨⟨by decide +kernel, by decide +kernel⟩, List.mem_of_getElem? (i := 479) (by decide +kernel), List.mem_of_getElem? (i := 2039) (by decide +kernel), List.mem_of_getElem? (i := 2040) (by decide +kernel)⟩
theorem lw_p106 : lw_okq (⟨"PathProver$Relation", "hasRoom", "(II)Z"⟩, 24) := ⟨⟨by decide +kernel, by decide +kernel⟩, List.mem_of_getElem? (i := 610) (by decide +kernel), List.mem_of_getElem? (i := 2067) (by decide +kernel), List.mem_of_getElem? (i := 2068) (by decide +kernel)⟩
theorem lw_p107 : lw_okq (⟨"PathProver$Relation", "fits", "(II)Z"⟩, 24) := ⟨⟨by decide +kernel, by decide +kernel⟩, List.mem_of_getElem? (i := 610) (by decide +kernel), List.mem_of_getElem? (i := 2072) (by decide +kernel), List.mem_of_getElem? (i := 2073) (by decide +kernel)⟩
theorem lw_p108 : lw_okq (⟨"PathProver$Relation", "tabulate", "(I)V"⟩, 24) := ⟨⟨by decide +kernel, by decide +kernel⟩, List.mem_of_getElem? (i := 610) (by decide +kernel), List.mem_of_getElem? (i := 2082) (by decide +kernel), List.mem_of_getElem? (i := 2083) (by decide +kernel)⟩
theorem lw_p109 : lw_okq (⟨"PathProver$Relation", "reserve", "(I)I"⟩, 24) := ⟨⟨by decide +kernel, by decide +kernel⟩, List.mem_of_getElem? (i := 610) (by decide +kernel), List.mem_of_getElem? (i := 2086) (by decide +kernel), List.mem_of_getElem? (i := 2087) (by decide +kernel)⟩
theorem lw_p110 : lw_okq (⟨"PathProver$Relation", "listDigits", "(II)V"⟩, 24) := ⟨⟨by decide +kernel, by decide +kernel⟩, List.mem_of_getElem? (i := 610) (by decide +kernel), List.mem_of_getElem? (i := 2094) (by decide +kernel), List.mem_of_getElem? (i := 2095) (by decide +kernel)⟩
theorem lw_p111 : lw_okq (⟨"PathProver$Relation", "clearBits", "(II)V"⟩, 24) := ⟨⟨by decide +kernel, by decide +kernel⟩, List.mem_of_getElem? (i := 610) (by decide +kernel), List.mem_of_getElem? (i := 2104) (by decide +kernel), List.mem_of_getElem? (i := 2105) (by decide +kernel)⟩
def lw_privs_7 : List (MethodName × Nat) := [(⟨"PathProver$Machine", "divide", "(II)V"⟩, 22), (⟨"PathProver$Machine", "joinNumbers", "(II)V"⟩, 22), (⟨"PathProver$Space", "isChosen", "(II)Z"⟩, 20), (⟨"PathProver$Machine", "cell", "(II)I"⟩, 22), (⟨"PathProver$Space", "spread", "(I[J)V"⟩, 20), (⟨"PathProver$Space", "listStates", "([J)I"⟩, 20), (⟨"PathProver$Sets", "encode", "([II)I"⟩, 7), (⟨"PathProver$Sets", "headOf", "(I)J"⟩, 7), (⟨"PathProver$Sets", "isWork", "(II)Z"⟩, 7), (⟨"PathProver$Sets", "keep", "(III)I"⟩, 7), (⟨"PathProver$Relation", "hasRoom", "(II)Z"⟩, 24), (⟨"PathProver$Relation", "fits", "(II)Z"⟩, 24), (⟨"PathProver$Relation", "tabulate", "(I)V"⟩, 24), (⟨"PathProver$Relation", "reserve", "(I)I"⟩, 24), (⟨"PathProver$Relation", "listDigits", "(II)V"⟩, 24), (⟨"PathProver$Relation", "clearBits", "(II)V"⟩, 24)]
theorem lw_r7 : ∀ q ∈ lw_privs_7, lw_okq q := List.forall_mem_cons.mpr ⟨lw_p96, List.forall_mem_cons.mpr ⟨lw_p97, List.forall_mem_cons.mpr ⟨lw_p98, List.forall_mem_cons.mpr ⟨lw_p99, List.forall_mem_cons.mpr ⟨lw_p100, List.forall_mem_cons.mpr ⟨lw_p101, List.forall_mem_cons.mpr ⟨lw_p102, List.forall_mem_cons.mpr ⟨lw_p103, List.forall_mem_cons.mpr ⟨lw_p104, List.forall_mem_cons.mpr ⟨lw_p105, List.forall_mem_cons.mpr ⟨lw_p106, List.forall_mem_cons.mpr ⟨lw_p107, List.forall_mem_cons.mpr ⟨lw_p108, List.forall_mem_cons.mpr ⟨lw_p109, List.forall_mem_cons.mpr ⟨lw_p110, List.forall_mem_cons.mpr ⟨lw_p111, fun _ h => absurd h List.not_mem_nil⟩⟩⟩⟩⟩⟩⟩⟩⟩⟩⟩⟩⟩⟩⟩⟩
theorem lw_p112 : lw_okq (⟨"PathProver$Relation", "listBits", "([III)I"⟩, 24) := ⟨⟨by decide +kernel, by decide +kernel⟩, List.mem_of_getElem? (i := 610) (by decide +kernel), List.mem_of_getElem? (i := 2109) (by decide +kernel), List.mem_of_getElem? (i := 2110) (by decide +kernel)⟩
theorem lw_p113 : lw_okq (⟨"PathProver$Relation", "addFactor", "(III)V"⟩, 24) := ⟨⟨by decide +kernel, by decide +kernel⟩, List.mem_of_getElem? (i := 610) (by decide +kernel), List.mem_of_getElem? (i := 2117) (by decide +kernel), List.mem_of_getElem? (i := 2118) (by decide +kernel)⟩
theorem lw_p114 : lw_okq (⟨"PathProver$Relation", "refine", "(I[II)V"⟩, 24) := ⟨⟨by decide +kernel, by decide +kernel⟩, List.mem_of_getElem? (i := 610) (by decide +kernel), List.mem_of_getElem? (i := 2124) (by decide +kernel), List.mem_of_getElem? (i := 2125) (by decide +kernel)⟩
theorem lw_p115 : lw_okq (⟨"PathProver$Relation", "putAside", "(IIII)V"⟩, 24) := ⟨⟨by decide +kernel, by decide +kernel⟩, List.mem_of_getElem? (i := 610) (by decide +kernel), List.mem_of_getElem? (i := 2135) (by decide +kernel), List.mem_of_getElem? (i := 2136) (by decide +kernel)⟩
theorem lw_p116 : lw_okq (⟨"PathProver$Relation", "sideOfNext", "(I)I"⟩, 24) := ⟨⟨by decide +kernel, by decide +kernel⟩, List.mem_of_getElem? (i := 610) (by decide +kernel), List.mem_of_getElem? (i := 2153) (by decide +kernel), List.mem_of_getElem? (i := 2154) (by decide +kernel)⟩
theorem lw_p117 : lw_okq (⟨"PathProver$Relation", "takeTable", "(III)V"⟩, 24) := ⟨⟨by decide +kernel, by decide +kernel⟩, List.mem_of_getElem? (i := 610) (by decide +kernel), List.mem_of_getElem? (i := 2163) (by decide +kernel), List.mem_of_getElem? (i := 2164) (by decide +kernel)⟩
theorem lw_p118 : lw_okq (⟨"PathProver$Relation", "noteInputs", "(III)V"⟩, 24) := ⟨⟨by decide +kernel, by decide +kernel⟩, List.mem_of_getElem? (i := 610) (by decide +kernel), List.mem_of_getElem? (i := 2172) (by decide +kernel), List.mem_of_getElem? (i := 2173) (by decide +kernel)⟩
theorem lw_p119 : lw_okq (⟨"PathProver$Relation", "partBy", "(I)V"⟩, 24) := ⟨⟨by decide +kernel, by decide +kernel⟩, List.mem_of_getElem? (i := 610) (by decide +kernel), List.mem_of_getElem? (i := 2177) (by decide +kernel), List.mem_of_getElem? (i := 2178) (by decide +kernel)⟩
theorem lw_p120 : lw_okq (⟨"PathProver", "makeRow", "(I)V"⟩, 14) := ⟨⟨by decide +kernel, by decide +kernel⟩, List.mem_of_getElem? (i := 42) (by decide +kernel), List.mem_of_getElem? (i := 2194) (by decide +kernel), List.mem_of_getElem? (i := 2195) (by decide +kernel)⟩
theorem lw_p121 : lw_okq (⟨"PathProver$Relation", "indexOf", "(I)I"⟩, 24) := ⟨⟨by decide +kernel, by decide +kernel⟩, List.mem_of_getElem? (i := 610) (by decide +kernel), List.mem_of_getElem? (i := 2211) (by decide +kernel), List.mem_of_getElem? (i := 2212) (by decide +kernel)⟩
theorem lw_p122 : lw_okq (⟨"PathProver$Relation", "narrowTo", "(II)V"⟩, 24) := ⟨⟨by decide +kernel, by decide +kernel⟩, List.mem_of_getElem? (i := 610) (by decide +kernel), List.mem_of_getElem? (i := 2215) (by decide +kernel), List.mem_of_getElem? (i := 2216) (by decide +kernel)⟩
theorem lw_p123 : lw_okq (⟨"PathProver$Sets", "formOf", "(I)I"⟩, 7) := ⟨⟨by decide +kernel, by decide +kernel⟩, List.mem_of_getElem? (i := 479) (by decide +kernel), List.mem_of_getElem? (i := 2223) (by decide +kernel), List.mem_of_getElem? (i := 2224) (by decide +kernel)⟩
theorem lw_p124 : lw_okq (⟨"PathProver$Sets", "partsIn", "(I)I"⟩, 7) := ⟨⟨by decide +kernel, by decide +kernel⟩, List.mem_of_getElem? (i := 479) (by decide +kernel), List.mem_of_getElem? (i := 2232) (by decide +kernel), List.mem_of_getElem? (i := 2233) (by decide +kernel)⟩
theorem lw_p125 : lw_okq (⟨"PathProver$Sets", "numberAt", "(II)I"⟩, 7) := ⟨⟨by decide +kernel, by decide +kernel⟩, List.mem_of_getElem? (i := 479) (by decide +kernel), List.mem_of_getElem? (i := 2237) (by decide +kernel), List.mem_of_getElem? (i := 2238) (by decide +kernel)⟩
theorem lw_p126 : lw_okq (⟨"PathProver$Relation", "narrow", "(I)V"⟩, 24) := ⟨⟨by decide +kernel, by decide +kernel⟩, List.mem_of_getElem? (i := 610) (by decide +kernel), List.mem_of_getElem? (i := 2253) (by decide +kernel), List.mem_of_getElem? (i := 2254) (by decide +kernel)⟩
theorem lw_p127 : lw_okq (⟨"PathProver$Relation", "extend", "(III)I"⟩, 24) := ⟨⟨by decide +kernel, by decide +kernel⟩, List.mem_of_getElem? (i := 610) (by decide +kernel), List.mem_of_getElem? (i := 2269) (by decide +kernel), List.mem_of_getElem? (i := 2270) (by decide +kernel)⟩
def lw_privs_8 : List (MethodName × Nat) := [(⟨"PathProver$Relation", "listBits", "([III)I"⟩, 24), (⟨"PathProver$Relation", "addFactor", "(III)V"⟩, 24), (⟨"PathProver$Relation", "refine", "(I[II)V"⟩, 24), (⟨"PathProver$Relation", "putAside", "(IIII)V"⟩, 24), (⟨"PathProver$Relation", "sideOfNext", "(I)I"⟩, 24), (⟨"PathProver$Relation", "takeTable", "(III)V"⟩, 24), (⟨"PathProver$Relation", "noteInputs", "(III)V"⟩, 24), (⟨"PathProver$Relation", "partBy", "(I)V"⟩, 24), (⟨"PathProver", "makeRow", "(I)V"⟩, 14), (⟨"PathProver$Relation", "indexOf", "(I)I"⟩, 24), (⟨"PathProver$Relation", "narrowTo", "(II)V"⟩, 24), (⟨"PathProver$Sets", "formOf", "(I)I"⟩, 7), (⟨"PathProver$Sets", "partsIn", "(I)I"⟩, 7), (⟨"PathProver$Sets", "numberAt", "(II)I"⟩, 7), (⟨"PathProver$Relation", "narrow", "(I)V"⟩, 24), (⟨"PathProver$Relation", "extend", "(III)I"⟩, 24)]
theorem lw_r8 : ∀ q ∈ lw_privs_8, lw_okq q := List.forall_mem_cons.mpr ⟨lw_p112, List.forall_mem_cons.mpr ⟨lw_p113, List.forall_mem_cons.mpr ⟨lw_p114, List.forall_mem_cons.mpr ⟨lw_p115, List.forall_mem_cons.mpr ⟨lw_p116, List.forall_mem_cons.mpr ⟨lw_p117, List.forall_mem_cons.mpr ⟨lw_p118, List.forall_mem_cons.mpr ⟨lw_p119, List.forall_mem_cons.mpr ⟨lw_p120, List.forall_mem_cons.mpr ⟨lw_p121, List.forall_mem_cons.mpr ⟨lw_p122, List.forall_mem_cons.mpr ⟨lw_p123, List.forall_mem_cons.mpr ⟨lw_p124, List.forall_mem_cons.mpr ⟨lw_p125, List.forall_mem_cons.mpr ⟨lw_p126, List.forall_mem_cons.mpr ⟨lw_p127, fun _ h => absurd h List.not_mem_nil⟩⟩⟩⟩⟩⟩⟩⟩⟩⟩⟩⟩⟩⟩⟩⟩
theorem lw_p128 : lw_okq (⟨"PathProver$Relation", "isLeft", "(I)Z"⟩, 24) := ⟨⟨by decide +kernel, by decide +kernel⟩, List.mem_of_getElem? (i := 610) (by decide +kernel), List.mem_of_getElem? (i := 2273) (by decide +kernel), List.mem_of_getElem? (i := 2274) (by decide +kernel)⟩
theorem lw_p129 : lw_okq (⟨"PathProver$Machine", "pickOut", "(I[II)V"⟩, 22) := ⟨⟨by decide +kernel, by decide +kernel⟩, List.mem_of_getElem? (i := 378) (by decide +kernel), List.mem_of_getElem? (i := 2293) (by decide +kernel), List.mem_of_getElem? (i := 2294) (by decide +kernel)⟩
theorem lw_p130 : lw_okq (⟨"PathProver$Relation", "leave", "([IIII)I"⟩, 24) := ⟨⟨by decide +kernel, by decide +kernel⟩, List.mem_of_getElem? (i := 610) (by decide +kernel), List.mem_of_getElem? (i := 2302) (by decide +kernel), List.mem_of_getElem? (i := 2303) (by decide +kernel)⟩
theorem lw_p131 : lw_okq (⟨"PathProver$Graph", "setNode", "(III)V"⟩, 23) := ⟨⟨by decide +kernel, by decide +kernel⟩, List.mem_of_getElem? (i := 697) (by decide +kernel), List.mem_of_getElem? (i := 2319) (by decide +kernel), List.mem_of_getElem? (i := 2320) (by decide +kernel)⟩
theorem lw_p132 : lw_okq (⟨"PathProver$Graph", "node", "(II)I"⟩, 23) := ⟨⟨by decide +kernel, by decide +kernel⟩, List.mem_of_getElem? (i := 697) (by decide +kernel), List.mem_of_getElem? (i := 2323) (by decide +kernel), List.mem_of_getElem? (i := 2324) (by decide +kernel)⟩
theorem lw_p133 : lw_okq (⟨"PathProver$Graph", "clearNodes", "()V"⟩, 23) := ⟨⟨by decide +kernel, by decide +kernel⟩, List.mem_of_getElem? (i := 697) (by decide +kernel), List.mem_of_getElem? (i := 2338) (by decide +kernel), List.mem_of_getElem? (i := 2339) (by decide +kernel)⟩
theorem lw_p134 : lw_okq (⟨"PathProver$Graph", "openNext", "()V"⟩, 23) := ⟨⟨by decide +kernel, by decide +kernel⟩, List.mem_of_getElem? (i := 697) (by decide +kernel), List.mem_of_getElem? (i := 2342) (by decide +kernel), List.mem_of_getElem? (i := 2343) (by decide +kernel)⟩
theorem lw_p135 : lw_okq (⟨"PathProver$Graph", "isEmptied", "([J)Z"⟩, 23) := ⟨⟨by decide +kernel, by decide +kernel⟩, List.mem_of_getElem? (i := 697) (by decide +kernel), List.mem_of_getElem? (i := 2346) (by decide +kernel), List.mem_of_getElem? (i := 2347) (by decide +kernel)⟩
theorem lw_p136 : lw_okq (⟨"PathProver", "drive", "()V"⟩, 14) := ⟨⟨by decide +kernel, by decide +kernel⟩, List.mem_of_getElem? (i := 42) (by decide +kernel), List.mem_of_getElem? (i := 2350) (by decide +kernel), List.mem_of_getElem? (i := 2351) (by decide +kernel)⟩
theorem lw_p137 : lw_okq (⟨"PathProver$Graph", "open", "()V"⟩, 23) := ⟨⟨by decide +kernel, by decide +kernel⟩, List.mem_of_getElem? (i := 697) (by decide +kernel), List.mem_of_getElem? (i := 2384) (by decide +kernel), List.mem_of_getElem? (i := 2385) (by decide +kernel)⟩
theorem lw_p138 : lw_okq (⟨"PathProver$Graph", "near", "()V"⟩, 23) := ⟨⟨by decide +kernel, by decide +kernel⟩, List.mem_of_getElem? (i := 697) (by decide +kernel), List.mem_of_getElem? (i := 2390) (by decide +kernel), List.mem_of_getElem? (i := 2391) (by decide +kernel)⟩
theorem lw_p139 : lw_okq (⟨"PathProver$Graph", "rowMeets", "([J)Z"⟩, 23) := ⟨⟨by decide +kernel, by decide +kernel⟩, List.mem_of_getElem? (i := 697) (by decide +kernel), List.mem_of_getElem? (i := 2394) (by decide +kernel), List.mem_of_getElem? (i := 2395) (by decide +kernel)⟩
theorem lw_p140 : lw_okq (⟨"PathProver$Graph", "enter", "(I)V"⟩, 23) := ⟨⟨by decide +kernel, by decide +kernel⟩, List.mem_of_getElem? (i := 697) (by decide +kernel), List.mem_of_getElem? (i := 2399) (by decide +kernel), List.mem_of_getElem? (i := 2400) (by decide +kernel)⟩
theorem lw_p141 : lw_okq (⟨"PathProver$Graph", "lowest", "()I"⟩, 23) := ⟨⟨by decide +kernel, by decide +kernel⟩, List.mem_of_getElem? (i := 697) (by decide +kernel), List.mem_of_getElem? (i := 2403) (by decide +kernel), List.mem_of_getElem? (i := 2404) (by decide +kernel)⟩
theorem lw_p142 : lw_okq (⟨"PathProver$Graph", "descend", "(I)V"⟩, 23) := ⟨⟨by decide +kernel, by decide +kernel⟩, List.mem_of_getElem? (i := 697) (by decide +kernel), List.mem_of_getElem? (i := 2408) (by decide +kernel), List.mem_of_getElem? (i := 2409) (by decide +kernel)⟩
theorem lw_p143 : lw_okq (⟨"PathProver$Graph", "nextUnseen", "(I)I"⟩, 23) := ⟨⟨by decide +kernel, by decide +kernel⟩, List.mem_of_getElem? (i := 697) (by decide +kernel), List.mem_of_getElem? (i := 2412) (by decide +kernel), List.mem_of_getElem? (i := 2413) (by decide +kernel)⟩
def lw_privs_9 : List (MethodName × Nat) := [(⟨"PathProver$Relation", "isLeft", "(I)Z"⟩, 24), (⟨"PathProver$Machine", "pickOut", "(I[II)V"⟩, 22), (⟨"PathProver$Relation", "leave", "([IIII)I"⟩, 24), (⟨"PathProver$Graph", "setNode", "(III)V"⟩, 23), (⟨"PathProver$Graph", "node", "(II)I"⟩, 23), (⟨"PathProver$Graph", "clearNodes", "()V"⟩, 23), (⟨"PathProver$Graph", "openNext", "()V"⟩, 23), (⟨"PathProver$Graph", "isEmptied", "([J)Z"⟩, 23), (⟨"PathProver", "drive", "()V"⟩, 14), (⟨"PathProver$Graph", "open", "()V"⟩, 23), (⟨"PathProver$Graph", "near", "()V"⟩, 23), (⟨"PathProver$Graph", "rowMeets", "([J)Z"⟩, 23), (⟨"PathProver$Graph", "enter", "(I)V"⟩, 23), (⟨"PathProver$Graph", "lowest", "()I"⟩, 23), (⟨"PathProver$Graph", "descend", "(I)V"⟩, 23), (⟨"PathProver$Graph", "nextUnseen", "(I)I"⟩, 23)]
theorem lw_r9 : ∀ q ∈ lw_privs_9, lw_okq q := List.forall_mem_cons.mpr ⟨lw_p128, List.forall_mem_cons.mpr ⟨lw_p129, List.forall_mem_cons.mpr ⟨lw_p130, List.forall_mem_cons.mpr ⟨lw_p131, List.forall_mem_cons.mpr ⟨lw_p132, List.forall_mem_cons.mpr ⟨lw_p133, List.forall_mem_cons.mpr ⟨lw_p134, List.forall_mem_cons.mpr ⟨lw_p135, List.forall_mem_cons.mpr ⟨lw_p136, List.forall_mem_cons.mpr ⟨lw_p137, List.forall_mem_cons.mpr ⟨lw_p138, List.forall_mem_cons.mpr ⟨lw_p139, List.forall_mem_cons.mpr ⟨lw_p140, List.forall_mem_cons.mpr ⟨lw_p141, List.forall_mem_cons.mpr ⟨lw_p142, List.forall_mem_cons.mpr ⟨lw_p143, fun _ h => absurd h List.not_mem_nil⟩⟩⟩⟩⟩⟩⟩⟩⟩⟩⟩⟩⟩⟩⟩⟩
theorem lw_p144 : lw_okq (⟨"PathProver$Graph", "circle", "()V"⟩, 23) := ⟨⟨by decide +kernel, by decide +kernel⟩, List.mem_of_getElem? (i := 697) (by decide +kernel), List.mem_of_getElem? (i := 2417) (by decide +kernel), List.mem_of_getElem? (i := 2418) (by decide +kernel)⟩
theorem lw_p145 : lw_okq (⟨"PathProver$Graph", "isFair", "(I)Z"⟩, 23) := ⟨⟨by decide +kernel, by decide +kernel⟩, List.mem_of_getElem? (i := 697) (by decide +kernel), List.mem_of_getElem? (i := 2421) (by decide +kernel), List.mem_of_getElem? (i := 2422) (by decide +kernel)⟩
theorem lw_p146 : lw_okq (⟨"PathProver$Graph", "settle", "(I)V"⟩, 23) := ⟨⟨by decide +kernel, by decide +kernel⟩, List.mem_of_getElem? (i := 697) (by decide +kernel), List.mem_of_getElem? (i := 2434) (by decide +kernel), List.mem_of_getElem? (i := 2435) (by decide +kernel)⟩
theorem lw_p147 : lw_okq (⟨"PathProver$Graph", "startOfRing", "(I)I"⟩, 23) := ⟨⟨by decide +kernel, by decide +kernel⟩, List.mem_of_getElem? (i := 697) (by decide +kernel), List.mem_of_getElem? (i := 2438) (by decide +kernel), List.mem_of_getElem? (i := 2439) (by decide +kernel)⟩
theorem lw_p148 : lw_okq (⟨"PathProver$Graph", "leave", "(I)V"⟩, 23) := ⟨⟨by decide +kernel, by decide +kernel⟩, List.mem_of_getElem? (i := 697) (by decide +kernel), List.mem_of_getElem? (i := 2442) (by decide +kernel), List.mem_of_getElem? (i := 2443) (by decide +kernel)⟩
theorem lw_p149 : lw_okq (⟨"PathProver$Graph", "climb", "()V"⟩, 23) := ⟨⟨by decide +kernel, by decide +kernel⟩, List.mem_of_getElem? (i := 697) (by decide +kernel), List.mem_of_getElem? (i := 2446) (by decide +kernel), List.mem_of_getElem? (i := 2447) (by decide +kernel)⟩
theorem lw_p150 : lw_okq (⟨"PathProver$Graph", "isOpenRing", "(I)Z"⟩, 23) := ⟨⟨by decide +kernel, by decide +kernel⟩, List.mem_of_getElem? (i := 697) (by decide +kernel), List.mem_of_getElem? (i := 2450) (by decide +kernel), List.mem_of_getElem? (i := 2451) (by decide +kernel)⟩
theorem lw_p151 : lw_okq (⟨"PathProver$Graph", "enterNext", "()V"⟩, 23) := ⟨⟨by decide +kernel, by decide +kernel⟩, List.mem_of_getElem? (i := 697) (by decide +kernel), List.mem_of_getElem? (i := 2454) (by decide +kernel), List.mem_of_getElem? (i := 2455) (by decide +kernel)⟩
theorem lw_p152 : lw_okq (⟨"PathProver$Prover", "hasSet", "(I)Z"⟩, 23) := ⟨⟨by decide +kernel, by decide +kernel⟩, List.mem_of_getElem? (i := 777) (by decide +kernel), List.mem_of_getElem? (i := 2471) (by decide +kernel), List.mem_of_getElem? (i := 2472) (by decide +kernel)⟩
theorem lw_p153 : lw_okq (⟨"PathProver$Prover", "findPart", "(I)Z"⟩, 23) := ⟨⟨by decide +kernel, by decide +kernel⟩, List.mem_of_getElem? (i := 777) (by decide +kernel), List.mem_of_getElem? (i := 2475) (by decide +kernel), List.mem_of_getElem? (i := 2476) (by decide +kernel)⟩
theorem lw_p154 : lw_okq (⟨"PathProver$Prover", "newSet", "()I"⟩, 23) := ⟨⟨by decide +kernel, by decide +kernel⟩, List.mem_of_getElem? (i := 777) (by decide +kernel), List.mem_of_getElem? (i := 2480) (by decide +kernel), List.mem_of_getElem? (i := 2481) (by decide +kernel)⟩
theorem lw_p155 : lw_okq (⟨"PathProver$Prover", "combine", "(III)Z"⟩, 23) := ⟨⟨by decide +kernel, by decide +kernel⟩, List.mem_of_getElem? (i := 777) (by decide +kernel), List.mem_of_getElem? (i := 2486) (by decide +kernel), List.mem_of_getElem? (i := 2487) (by decide +kernel)⟩
theorem lw_p156 : lw_okq (⟨"PathProver$Prover", "join", "(I[J[J[J)V"⟩, 23) := ⟨⟨by decide +kernel, by decide +kernel⟩, List.mem_of_getElem? (i := 777) (by decide +kernel), List.mem_of_getElem? (i := 2490) (by decide +kernel), List.mem_of_getElem? (i := 2491) (by decide +kernel)⟩
theorem lw_p157 : lw_okq (⟨"PathProver$Prover", "prepare", "(I[J[J[J)V"⟩, 23) := ⟨⟨by decide +kernel, by decide +kernel⟩, List.mem_of_getElem? (i := 777) (by decide +kernel), List.mem_of_getElem? (i := 2495) (by decide +kernel), List.mem_of_getElem? (i := 2496) (by decide +kernel)⟩
theorem lw_p158 : lw_okq (⟨"PathProver$Graph", "sweep", "(Z)V"⟩, 23) := ⟨⟨by decide +kernel, by decide +kernel⟩, List.mem_of_getElem? (i := 697) (by decide +kernel), List.mem_of_getElem? (i := 2509) (by decide +kernel), List.mem_of_getElem? (i := 2510) (by decide +kernel)⟩
theorem lw_p159 : lw_okq (⟨"PathProver$Prover", "finish", "(I[J)V"⟩, 23) := ⟨⟨by decide +kernel, by decide +kernel⟩, List.mem_of_getElem? (i := 777) (by decide +kernel), List.mem_of_getElem? (i := 2513) (by decide +kernel), List.mem_of_getElem? (i := 2514) (by decide +kernel)⟩
def lw_privs_10 : List (MethodName × Nat) := [(⟨"PathProver$Graph", "circle", "()V"⟩, 23), (⟨"PathProver$Graph", "isFair", "(I)Z"⟩, 23), (⟨"PathProver$Graph", "settle", "(I)V"⟩, 23), (⟨"PathProver$Graph", "startOfRing", "(I)I"⟩, 23), (⟨"PathProver$Graph", "leave", "(I)V"⟩, 23), (⟨"PathProver$Graph", "climb", "()V"⟩, 23), (⟨"PathProver$Graph", "isOpenRing", "(I)Z"⟩, 23), (⟨"PathProver$Graph", "enterNext", "()V"⟩, 23), (⟨"PathProver$Prover", "hasSet", "(I)Z"⟩, 23), (⟨"PathProver$Prover", "findPart", "(I)Z"⟩, 23), (⟨"PathProver$Prover", "newSet", "()I"⟩, 23), (⟨"PathProver$Prover", "combine", "(III)Z"⟩, 23), (⟨"PathProver$Prover", "join", "(I[J[J[J)V"⟩, 23), (⟨"PathProver$Prover", "prepare", "(I[J[J[J)V"⟩, 23), (⟨"PathProver$Graph", "sweep", "(Z)V"⟩, 23), (⟨"PathProver$Prover", "finish", "(I[J)V"⟩, 23)]
theorem lw_r10 : ∀ q ∈ lw_privs_10, lw_okq q := List.forall_mem_cons.mpr ⟨lw_p144, List.forall_mem_cons.mpr ⟨lw_p145, List.forall_mem_cons.mpr ⟨lw_p146, List.forall_mem_cons.mpr ⟨lw_p147, List.forall_mem_cons.mpr ⟨lw_p148, List.forall_mem_cons.mpr ⟨lw_p149, List.forall_mem_cons.mpr ⟨lw_p150, List.forall_mem_cons.mpr ⟨lw_p151, List.forall_mem_cons.mpr ⟨lw_p152, List.forall_mem_cons.mpr ⟨lw_p153, List.forall_mem_cons.mpr ⟨lw_p154, List.forall_mem_cons.mpr ⟨lw_p155, List.forall_mem_cons.mpr ⟨lw_p156, List.forall_mem_cons.mpr ⟨lw_p157, List.forall_mem_cons.mpr ⟨lw_p158, List.forall_mem_cons.mpr ⟨lw_p159, fun _ h => absurd h List.not_mem_nil⟩⟩⟩⟩⟩⟩⟩⟩⟩⟩⟩⟩⟩⟩⟩⟩
theorem lw_p160 : lw_okq (⟨"PathProver$Prover", "keep", "(I)V"⟩, 23) := ⟨⟨by decide +kernel, by decide +kernel⟩, List.mem_of_getElem? (i := 777) (by decide +kernel), List.mem_of_getElem? (i := 2520) (by decide +kernel), List.mem_of_getElem? (i := 2521) (by decide +kernel)⟩
theorem lw_p161 : lw_okq (⟨"PathProver$Prover", "ringOn", "()V"⟩, 23) := ⟨⟨by decide +kernel, by decide +kernel⟩, List.mem_of_getElem? (i := 777) (by decide +kernel), List.mem_of_getElem? (i := 2537) (by decide +kernel), List.mem_of_getElem? (i := 2538) (by decide +kernel)⟩
theorem lw_p162 : lw_okq (⟨"PathProver$Prover", "legs", "()I"⟩, 23) := ⟨⟨by decide +kernel, by decide +kernel⟩, List.mem_of_getElem? (i := 777) (by decide +kernel), List.mem_of_getElem? (i := 2541) (by decide +kernel), List.mem_of_getElem? (i := 2542) (by decide +kernel)⟩
theorem lw_p163 : lw_okq (⟨"PathProver$Prover", "startLeg", "()V"⟩, 23) := ⟨⟨by decide +kernel, by decide +kernel⟩, List.mem_of_getElem? (i := 777) (by decide +kernel), List.mem_of_getElem? (i := 2545) (by decide +kernel), List.mem_of_getElem? (i := 2546) (by decide +kernel)⟩
theorem lw_p164 : lw_okq (⟨"PathProver$Prover", "watchOn", "()V"⟩, 23) := ⟨⟨by decide +kernel, by decide +kernel⟩, List.mem_of_getElem? (i := 777) (by decide +kernel), List.mem_of_getElem? (i := 2555) (by decide +kernel), List.mem_of_getElem? (i := 2556) (by decide +kernel)⟩
theorem lw_p165 : lw_okq (⟨"PathProver$Prover", "seek", "(IIII)V"⟩, 23) := ⟨⟨by decide +kernel, by decide +kernel⟩, List.mem_of_getElem? (i := 777) (by decide +kernel), List.mem_of_getElem? (i := 2568) (by decide +kernel), List.mem_of_getElem? (i := 2569) (by decide +kernel)⟩
theorem lw_p166 : lw_okq (⟨"PathProver$Prover", "outerOf", "(I)I"⟩, 23) := ⟨⟨by decide +kernel, by decide +kernel⟩, List.mem_of_getElem? (i := 777) (by decide +kernel), List.mem_of_getElem? (i := 2619) (by decide +kernel), List.mem_of_getElem? (i := 2620) (by decide +kernel)⟩
theorem lw_p167 : lw_okq (⟨"PathProver$Prover", "aim", "(I)V"⟩, 23) := ⟨⟨by decide +kernel, by decide +kernel⟩, List.mem_of_getElem? (i := 777) (by decide +kernel), List.mem_of_getElem? (i := 2636) (by decide +kernel), List.mem_of_getElem? (i := 2637) (by decide +kernel)⟩
theorem lw_p168 : lw_okq (⟨"PathProver", "needPlain", "(I)V"⟩, 14) := ⟨⟨by decide +kernel, by decide +kernel⟩, List.mem_of_getElem? (i := 42) (by decide +kernel), List.mem_of_getElem? (i := 2651) (by decide +kernel), List.mem_of_getElem? (i := 2652) (by decide +kernel)⟩
theorem lw_p169 : lw_okq (⟨"PathProver", "enter", "(I)I"⟩, 14) := ⟨⟨by decide +kernel, by decide +kernel⟩, List.mem_of_getElem? (i := 42) (by decide +kernel), List.mem_of_getElem? (i := 2655) (by decide +kernel), List.mem_of_getElem? (i := 2656) (by decide +kernel)⟩
theorem lw_p170 : lw_okq (⟨"PathProver$Prover", "nth", "([JI)I"⟩, 23) := ⟨⟨by decide +kernel, by decide +kernel⟩, List.mem_of_getElem? (i := 777) (by decide +kernel), List.mem_of_getElem? (i := 2671) (by decide +kernel), List.mem_of_getElem? (i := 2672) (by decide +kernel)⟩
theorem lw_p171 : lw_okq (⟨"PathProver", "needCurrent", "()V"⟩, 14) := ⟨⟨by decide +kernel, by decide +kernel⟩, List.mem_of_getElem? (i := 42) (by decide +kernel), List.mem_of_getElem? (i := 2682) (by decide +kernel), List.mem_of_getElem? (i := 2683) (by decide +kernel)⟩
theorem lw_p172 : lw_okq (⟨"PathProverModel", "parse", "()V"⟩, 57) := ⟨⟨by decide +kernel, by decide +kernel⟩, List.mem_of_getElem? (i := 2730) (by decide +kernel), List.mem_of_getElem? (i := 2991) (by decide +kernel), List.mem_of_getElem? (i := 2992) (by decide +kernel)⟩
theorem lw_p173 : lw_okq (⟨"PathProverModel", "advance", "()V"⟩, 57) := ⟨⟨by decide +kernel, by decide +kernel⟩, List.mem_of_getElem? (i := 2730) (by decide +kernel), List.mem_of_getElem? (i := 2995) (by decide +kernel), List.mem_of_getElem? (i := 2996) (by decide +kernel)⟩
theorem lw_p174 : lw_okq (⟨"PathProverModel", "skip", "()V"⟩, 57) := ⟨⟨by decide +kernel, by decide +kernel⟩, List.mem_of_getElem? (i := 2730) (by decide +kernel), List.mem_of_getElem? (i := 2999) (by decide +kernel), List.mem_of_getElem? (i := 3000) (by decide +kernel)⟩
theorem lw_p175 : lw_okq (⟨"PathProverModel", "letter", "(I)Z"⟩, 57) := ⟨⟨by decide +kernel, by decide +kernel⟩, List.mem_of_getElem? (i := 2730) (by decide +kernel), List.mem_of_getElem? (i := 3003) (by decide +kernel), List.mem_of_getElem? (i := 3004) (by decide +kernel)⟩
def lw_privs_11 : List (MethodName × Nat) := [(⟨"PathProver$Prover", "keep", "(I)V"⟩, 23), (⟨"PathProver$Prover", "ringOn", "()V"⟩, 23), (⟨"PathProver$Prover", "legs", "()I"⟩, 23), (⟨"PathProver$Prover", "startLeg", "()V"⟩, 23), (⟨"PathProver$Prover", "watchOn", "()V"⟩, 23), (⟨"PathProver$Prover", "seek", "(IIII)V"⟩, 23), (⟨"PathProver$Prover", "outerOf", "(I)I"⟩, 23), (⟨"PathProver$Prover", "aim", "(I)V"⟩, 23), (⟨"PathProver", "needPlain", "(I)V"⟩, 14), (⟨"PathProver", "enter", "(I)I"⟩, 14), (⟨"PathProver$Prover", "nth", "([JI)I"⟩, 23), (⟨"PathProver", "needCurrent", "()V"⟩, 14), (⟨"PathProverModel", "parse", "()V"⟩, 57), (⟨"PathProverModel", "advance", "()V"⟩, 57), (⟨"PathProverModel", "skip", "()V"⟩, 57), (⟨"PathProverModel", "letter", "(I)Z"⟩, 57)]
theorem lw_r11 : ∀ q ∈ lw_privs_11, lw_okq q := List.forall_mem_cons.mpr ⟨lw_p160, List.forall_mem_cons.mpr ⟨lw_p161, List.forall_mem_cons.mpr ⟨lw_p162, List.forall_mem_cons.mpr ⟨lw_p163, List.forall_mem_cons.mpr ⟨lw_p164, List.forall_mem_cons.mpr ⟨lw_p165, List.forall_mem_cons.mpr ⟨lw_p166, List.forall_mem_cons.mpr ⟨lw_p167, List.forall_mem_cons.mpr ⟨lw_p168, List.forall_mem_cons.mpr ⟨lw_p169, List.forall_mem_cons.mpr ⟨lw_p170, List.forall_mem_cons.mpr ⟨lw_p171, List.forall_mem_cons.mpr ⟨lw_p172, List.forall_mem_cons.mpr ⟨lw_p173, List.forall_mem_cons.mpr ⟨lw_p174, List.forall_mem_cons.mpr ⟨lw_p175, fun _ h => absurd h List.not_mem_nil⟩⟩⟩⟩⟩⟩⟩⟩⟩⟩⟩⟩⟩⟩⟩⟩
theorem lw_p176 : lw_okq (⟨"PathProverModel", "digit", "(I)Z"⟩, 57) := ⟨⟨by decide +kernel, by decide +kernel⟩, List.mem_of_getElem? (i := 2730) (by decide +kernel), List.mem_of_getElem? (i := 3007) (by decide +kernel), List.mem_of_getElem? (i := 3008) (by decide +kernel)⟩
theorem lw_p177 : lw_okq (⟨"PathProverModel", "module", "()LPathProverModel$Module;"⟩, 57) := ⟨⟨by decide +kernel, by decide +kernel⟩, List.mem_of_getElem? (i := 2730) (by decide +kernel), List.mem_of_getElem? (i := 3031) (by decide +kernel), List.mem_of_getElem? (i := 3032) (by decide +kernel)⟩
theorem lw_p178 : lw_okq (⟨"PathProverModel", "expect", "(Ljava/lang/String;)V"⟩, 57) := ⟨⟨by decide +kernel, by decide +kernel⟩, List.mem_of_getElem? (i := 2730) (by decide +kernel), List.mem_of_getElem? (i := 3035) (by decide +kernel), List.mem_of_getElem? (i := 3036) (by decide +kernel)⟩
theorem lw_p179 : lw_okq (⟨"PathProverModel", "is", "(Ljava/lang/String;)Z"⟩, 57) := ⟨⟨by decide +kernel, by decide +kernel⟩, List.mem_of_getElem? (i := 2730) (by decide +kernel), List.mem_of_getElem? (i := 3039) (by decide +kernel), List.mem_of_getElem? (i := 3040) (by decide +kernel)⟩
theorem lw_p180 : lw_okq (⟨"PathProverModel", "can", "(Z)Z"⟩, 57) := ⟨⟨by decide +kernel, by decide +kernel⟩, List.mem_of_getElem? (i := 2730) (by decide +kernel), List.mem_of_getElem? (i := 3051) (by decide +kernel), List.mem_of_getElem? (i := 3052) (by decide +kernel)⟩
theorem lw_p181 : lw_okq (⟨"PathProverModel", "name", "()Ljava/lang/String;"⟩, 57) := ⟨⟨by decide +kernel, by decide +kernel⟩, List.mem_of_getElem? (i := 2730) (by decide +kernel), List.mem_of_getElem? (i := 3057) (by decide +kernel), List.mem_of_getElem? (i := 3058) (by decide +kernel)⟩
theorem lw_p182 : lw_okq (⟨"PathProverModel", "atName", "()Z"⟩, 57) := ⟨⟨by decide +kernel, by decide +kernel⟩, List.mem_of_getElem? (i := 2730) (by decide +kernel), List.mem_of_getElem? (i := 3061) (by decide +kernel), List.mem_of_getElem? (i := 3062) (by decide +kernel)⟩
theorem lw_p183 : lw_okq (⟨"PathProverModel", "kept", "()Z"⟩, 57) := ⟨⟨by decide +kernel, by decide +kernel⟩, List.mem_of_getElem? (i := 2730) (by decide +kernel), List.mem_of_getElem? (i := 3065) (by decide +kernel), List.mem_of_getElem? (i := 3066) (by decide +kernel)⟩
theorem lw_p184 : lw_okq (⟨"PathProverModel", "named", "(Ljava/lang/String;Ljava/lang/String;LPathProverModel$Node;)LPathProverModel$Node;"⟩, 57) := ⟨⟨by decide +kernel, by decide +kernel⟩, List.mem_of_getElem? (i := 2730) (by decide +kernel), List.mem_of_getElem? (i := 3167) (by decide +kernel), List.mem_of_getElem? (i := 3168) (by decide +kernel)⟩
theorem lw_p185 : lw_okq (⟨"PathProverModel", "variables", "(LPathProverModel$Module;)V"⟩, 57) := ⟨⟨by decide +kernel, by decide +kernel⟩, List.mem_of_getElem? (i := 2730) (by decide +kernel), List.mem_of_getElem? (i := 3177) (by decide +kernel), List.mem_of_getElem? (i := 3178) (by decide +kernel)⟩
theorem lw_p186 : lw_okq (⟨"PathProverModel", "type", "()LPathProverModel$Node;"⟩, 57) := ⟨⟨by decide +kernel, by decide +kernel⟩, List.mem_of_getElem? (i := 2730) (by decide +kernel), List.mem_of_getElem? (i := 3181) (by decide +kernel), List.mem_of_getElem? (i := 3182) (by decide +kernel)⟩
theorem lw_p187 : lw_okq (⟨"PathProverModel", "value", "()LPathProverModel$Node;"⟩, 57) := ⟨⟨by decide +kernel, by decide +kernel⟩, List.mem_of_getElem? (i := 2730) (by decide +kernel), List.mem_of_getElem? (i := 3186) (by decide +kernel), List.mem_of_getElem? (i := 3187) (by decide +kernel)⟩
theorem lw_p188 : lw_okq (⟨"PathProverModel", "whole", "()I"⟩, 57) := ⟨⟨by decide +kernel, by decide +kernel⟩, List.mem_of_getElem? (i := 2730) (by decide +kernel), List.mem_of_getElem? (i := 3192) (by decide +kernel), List.mem_of_getElem? (i := 3193) (by decide +kernel)⟩
theorem lw_p189 : lw_okq (⟨"PathProverModel", "nest", "()V"⟩, 57) := ⟨⟨by decide +kernel, by decide +kernel⟩, List.mem_of_getElem? (i := 2730) (by decide +kernel), List.mem_of_getElem? (i := 3198) (by decide +kernel), List.mem_of_getElem? (i := 3199) (by decide +kernel)⟩
theorem lw_p190 : lw_okq (⟨"PathProverModel", "expression", "()LPathProverModel$Node;"⟩, 57) := ⟨⟨by decide +kernel, by decide +kernel⟩, List.mem_of_getElem? (i := 2730) (by decide +kernel), List.mem_of_getElem? (i := 3202) (by decide +kernel), List.mem_of_getElem? (i := 3203) (by decide +kernel)⟩
theorem lw_p191 : lw_okq (⟨"PathProverModel", "implication", "()LPathProverModel$Node;"⟩, 57) := ⟨⟨by decide +kernel, by decide +kernel⟩, List.mem_of_getElem? (i := 2730) (by decide +kernel), List.mem_of_getElem? (i := 3206) (by decide +kernel), List.mem_of_getElem? (i := 3207) (by decide +kernel)⟩
def lw_privs_12 : List (MethodName × Nat) := [(⟨"PathProverModel", "digit", "(I)Z"⟩, 57), (⟨"PathProverModel", "module", "()LPathProverModel$Module;"⟩, 57), (⟨"PathProverModel", "expect", "(Ljava/lang/String;)V"⟩, 57), (⟨"PathProverModel", "is", "(Ljava/lang/String;)Z"⟩, 57), (⟨"PathProverModel", "can", "(Z)Z"⟩, 57), (⟨"PathProverModel", "name", "()Ljava/lang/String;"⟩, 57), (⟨"PathProverModel", "atName", "()Z"⟩, 57), (⟨"PathProverModel", "kept", "()Z"⟩, 57), (⟨"PathProverModel", "named", "(Ljava/lang/String;Ljava/lang/String;LPathProverModel$Node;)LPathProverModel$Node;"⟩, 57), (⟨"PathProverModel", "variables", "(LPathProverModel$Module;)V"⟩, 57), (⟨"PathProverModel", "type", "()LPathProverModel$Node;"⟩, 57), (⟨"PathProverModel", "value", "()LPathProverModel$Node;"⟩, 57), (⟨"PathProverModel", "whole", "()I"⟩, 57), (⟨"PathProverModel", "nest", "()V"⟩, 57), (⟨"PathProverModel", "expression", "()LPathProverModel$Node;"⟩, 57), (⟨"PathProverModel", "implication", "()LPathProverModel$Node;"⟩, 57)]
theorem lw_r12 : ∀ q ∈ lw_privs_12, lw_okq q := List.forall_mem_cons.mpr ⟨lw_p176, List.forall_mem_cons.mpr ⟨lw_p177, List.forall_mem_cons.mpr ⟨lw_p178, List.forall_mem_cons.mpr ⟨lw_p179, List.forall_mem_cons.mpr ⟨lw_p180, List.forall_mem_cons.mpr ⟨lw_p181, List.forall_mem_cons.mpr ⟨lw_p182, List.forall_mem_cons.mpr ⟨lw_p183, List.forall_mem_cons.mpr ⟨lw_p184, List.forall_mem_cons.mpr ⟨lw_p185, List.forall_mem_cons.mpr ⟨lw_p186, List.forall_mem_cons.mpr ⟨lw_p187, List.forall_mem_cons.mpr ⟨lw_p188, List.forall_mem_cons.mpr ⟨lw_p189, List.forall_mem_cons.mpr ⟨lw_p190, List.forall_mem_cons.mpr ⟨lw_p191, fun _ h => absurd h List.not_mem_nil⟩⟩⟩⟩⟩⟩⟩⟩⟩⟩⟩⟩⟩⟩⟩⟩
theorem lw_p192 : lw_okq (⟨"PathProverModel", "disjunction", "()LPathProverModel$Node;"⟩, 57) := ⟨⟨by decide +kernel, by decide +kernel⟩, List.mem_of_getElem? (i := 2730) (by decide +kernel), List.mem_of_getElem? (i := 3210) (by decide +kernel), List.mem_of_getElem? (i := 3211) (by decide +kernel)⟩
theorem lw_p193 : lw_okq (⟨"PathProverModel", "conjunction", "()LPathProverModel$Node;"⟩, 57) := ⟨⟨by decide +kernel, by decide +kernel⟩, List.mem_of_getElem? (i := 2730) (by decide +kernel), List.mem_of_getElem? (i := 3214) (by decide +kernel), List.mem_of_getElem? (i := 3215) (by decide +kernel)⟩
theorem lw_p194 : lw_okq (⟨"PathProverModel", "prefix", "()LPathProverModel$Node;"⟩, 57) := ⟨⟨by decide +kernel, by decide +kernel⟩, List.mem_of_getElem? (i := 2730) (by decide +kernel), List.mem_of_getElem? (i := 3218) (by decide +kernel), List.mem_of_getElem? (i := 3219) (by decide +kernel)⟩
theorem lw_p195 : lw_okq (⟨"PathProverModel", "relation", "()LPathProverModel$Node;"⟩, 57) := ⟨⟨by decide +kernel, by decide +kernel⟩, List.mem_of_getElem? (i := 2730) (by decide +kernel), List.mem_of_getElem? (i := 3222) (by decide +kernel), List.mem_of_getElem? (i := 3223) (by decide +kernel)⟩
theorem lw_p196 : lw_okq (⟨"PathProverModel", "sum", "()LPathProverModel$Node;"⟩, 57) := ⟨⟨by decide +kernel, by decide +kernel⟩, List.mem_of_getElem? (i := 2730) (by decide +kernel), List.mem_of_getElem? (i := 3226) (by decide +kernel), List.mem_of_getElem? (i := 3227) (by decide +kernel)⟩
theorem lw_p197 : lw_okq (⟨"PathProverModel", "term", "()LPathProverModel$Node;"⟩, 57) := ⟨⟨by decide +kernel, by decide +kernel⟩, List.mem_of_getElem? (i := 2730) (by decide +kernel), List.mem_of_getElem? (i := 3230) (by decide +kernel), List.mem_of_getElem? (i := 3231) (by decide +kernel)⟩
theorem lw_p198 : lw_okq (⟨"PathProverModel", "factor", "()LPathProverModel$Node;"⟩, 57) := ⟨⟨by decide +kernel, by decide +kernel⟩, List.mem_of_getElem? (i := 2730) (by decide +kernel), List.mem_of_getElem? (i := 3234) (by decide +kernel), List.mem_of_getElem? (i := 3235) (by decide +kernel)⟩
theorem lw_p199 : lw_okq (⟨"PathProverModel", "path", "(Ljava/lang/String;)LPathProverModel$Node;"⟩, 57) := ⟨⟨by decide +kernel, by decide +kernel⟩, List.mem_of_getElem? (i := 2730) (by decide +kernel), List.mem_of_getElem? (i := 3239) (by decide +kernel), List.mem_of_getElem? (i := 3240) (by decide +kernel)⟩
theorem lw_p200 : lw_okq (⟨"PathProverModel", "cases", "(Z)LPathProverModel$Node;"⟩, 57) := ⟨⟨by decide +kernel, by decide +kernel⟩, List.mem_of_getElem? (i := 2730) (by decide +kernel), List.mem_of_getElem? (i := 3243) (by decide +kernel), List.mem_of_getElem? (i := 3244) (by decide +kernel)⟩
theorem lw_p201 : lw_okq (⟨"PathProverModel", "choice", "()LPathProverModel$Node;"⟩, 57) := ⟨⟨by decide +kernel, by decide +kernel⟩, List.mem_of_getElem? (i := 2730) (by decide +kernel), List.mem_of_getElem? (i := 3247) (by decide +kernel), List.mem_of_getElem? (i := 3248) (by decide +kernel)⟩
theorem lw_p202 : lw_okq (⟨"PathProverModel", "noteSymbols", "(LPathProverModel$Node;)V"⟩, 57) := ⟨⟨by decide +kernel, by decide +kernel⟩, List.mem_of_getElem? (i := 2730) (by decide +kernel), List.mem_of_getElem? (i := 3253) (by decide +kernel), List.mem_of_getElem? (i := 3254) (by decide +kernel)⟩
theorem lw_p203 : lw_okq (⟨"PathProverModel", "symbol", "(Ljava/lang/String;)I"⟩, 57) := ⟨⟨by decide +kernel, by decide +kernel⟩, List.mem_of_getElem? (i := 2730) (by decide +kernel), List.mem_of_getElem? (i := 3261) (by decide +kernel), List.mem_of_getElem? (i := 3262) (by decide +kernel)⟩
theorem lw_p204 : lw_okq (⟨"PathProverModel", "definitions", "(LPathProverModel$Module;)V"⟩, 57) := ⟨⟨by decide +kernel, by decide +kernel⟩, List.mem_of_getElem? (i := 2730) (by decide +kernel), List.mem_of_getElem? (i := 3266) (by decide +kernel), List.mem_of_getElem? (i := 3267) (by decide +kernel)⟩
theorem lw_p205 : lw_okq (⟨"PathProverModel", "assignments", "(LPathProverModel$Module;)V"⟩, 57) := ⟨⟨by decide +kernel, by decide +kernel⟩, List.mem_of_getElem? (i := 2730) (by decide +kernel), List.mem_of_getElem? (i := 3271) (by decide +kernel), List.mem_of_getElem? (i := 3272) (by decide +kernel)⟩
theorem lw_p206 : lw_okq (⟨"PathProverModel", "soundTexts", "()V"⟩, 57) := ⟨⟨by decide +kernel, by decide +kernel⟩, List.mem_of_getElem? (i := 2730) (by decide +kernel), List.mem_of_getElem? (i := 3350) (by decide +kernel), List.mem_of_getElem? (i := 3351) (by decide +kernel)⟩
theorem lw_p207 : lw_okq (⟨"PathProverModel", "sound", "(Z)V"⟩, 57) := ⟨⟨by decide +kernel, by decide +kernel⟩, List.mem_of_getElem? (i := 2730) (by decide +kernel), List.mem_of_getElem? (i := 3354) (by decide +kernel), List.mem_of_getElem? (i := 3355) (by decide +kernel)⟩
def lw_privs_13 : List (MethodName × Nat) := [(⟨"PathProverModel", "disjunction", "()LPathProverModel$Node;"⟩, 57), (⟨"PathProverModel", "conjunction", "()LPathProverModel$Node;"⟩, 57), (⟨"PathProverModel", "prefix", "()LPathProverModel$Node;"⟩, 57), (⟨"PathProverModel", "relation", "()LPathProverModel$Node;"⟩, 57), (⟨"PathProverModel", "sum", "()LPathProverModel$Node;"⟩, 57), (⟨"PathProverModel", "term", "()LPathProverModel$Node;"⟩, 57), (⟨"PathProverModel", "factor", "()LPathProverModel$Node;"⟩, 57), (⟨"PathProverModel", "path", "(Ljava/lang/String;)LPathProverModel$Node;"⟩, 57), (⟨"PathProverModel", "cases", "(Z)LPathProverModel$Node;"⟩, 57), (⟨"PathProverModel", "choice", "()LPathProverModel$Node;"⟩, 57), (⟨"PathProverModel", "noteSymbols", "(LPathProverModel$Node;)V"⟩, 57), (⟨"PathProverModel", "symbol", "(Ljava/lang/String;)I"⟩, 57), (⟨"PathProverModel", "definitions", "(LPathProverModel$Module;)V"⟩, 57), (⟨"PathProverModel", "assignments", "(LPathProverModel$Module;)V"⟩, 57), (⟨"PathProverModel", "soundTexts", "()V"⟩, 57), (⟨"PathProverModel", "sound", "(Z)V"⟩, 57)]
theorem lw_r13 : ∀ q ∈ lw_privs_13, lw_okq q := List.forall_mem_cons.mpr ⟨lw_p192, List.forall_mem_cons.mpr ⟨lw_p193, List.forall_mem_cons.mpr ⟨lw_p194, List.forall_mem_cons.mpr ⟨lw_p195, List.forall_mem_cons.mpr ⟨lw_p196, List.forall_mem_cons.mpr ⟨lw_p197, List.forall_mem_cons.mpr ⟨lw_p198, List.forall_mem_cons.mpr ⟨lw_p199, List.forall_mem_cons.mpr ⟨lw_p200, List.forall_mem_cons.mpr ⟨lw_p201, List.forall_mem_cons.mpr ⟨lw_p202, List.forall_mem_cons.mpr ⟨lw_p203, List.forall_mem_cons.mpr ⟨lw_p204, List.forall_mem_cons.mpr ⟨lw_p205, List.forall_mem_cons.mpr ⟨lw_p206, List.forall_mem_cons.mpr ⟨lw_p207, fun _ h => absurd h List.not_mem_nil⟩⟩⟩⟩⟩⟩⟩⟩⟩⟩⟩⟩⟩⟩⟩⟩
theorem lw_p208 : lw_okq (⟨"PathProverModel", "soundText", "(LPathProverModel$Module;)V"⟩, 57) := ⟨⟨by decide +kernel, by decide +kernel⟩, List.mem_of_getElem? (i := 2730) (by decide +kernel), List.mem_of_getElem? (i := 3359) (by decide +kernel), List.mem_of_getElem? (i := 3360) (by decide +kernel)⟩
theorem lw_p209 : lw_okq (⟨"PathProverModel", "differentNames", "(LPathProverModel$Module;)V"⟩, 57) := ⟨⟨by decide +kernel, by decide +kernel⟩, List.mem_of_getElem? (i := 2730) (by decide +kernel), List.mem_of_getElem? (i := 3363) (by decide +kernel), List.mem_of_getElem? (i := 3364) (by decide +kernel)⟩
theorem lw_p210 : lw_okq (⟨"PathProverModel", "soundType", "(LPathProverModel$Node;)V"⟩, 57) := ⟨⟨by decide +kernel, by decide +kernel⟩, List.mem_of_getElem? (i := 2730) (by decide +kernel), List.mem_of_getElem? (i := 3368) (by decide +kernel), List.mem_of_getElem? (i := 3369) (by decide +kernel)⟩
theorem lw_p211 : lw_okq (⟨"PathProverModel", "text", "(Ljava/lang/String;)LPathProverModel$Module;"⟩, 57) := ⟨⟨by decide +kernel, by decide +kernel⟩, List.mem_of_getElem? (i := 2730) (by decide +kernel), List.mem_of_getElem? (i := 3372) (by decide +kernel), List.mem_of_getElem? (i := 3373) (by decide +kernel)⟩
theorem lw_p212 : lw_okq (⟨"PathProverModel", "assigns", "(LPathProverModel$Node;)Z"⟩, 57) := ⟨⟨by decide +kernel, by decide +kernel⟩, List.mem_of_getElem? (i := 2730) (by decide +kernel), List.mem_of_getElem? (i := 3376) (by decide +kernel), List.mem_of_getElem? (i := 3377) (by decide +kernel)⟩
theorem lw_p213 : lw_okq (⟨"PathProverModel", "noCycle", "()V"⟩, 57) := ⟨⟨by decide +kernel, by decide +kernel⟩, List.mem_of_getElem? (i := 2730) (by decide +kernel), List.mem_of_getElem? (i := 3384) (by decide +kernel), List.mem_of_getElem? (i := 3385) (by decide +kernel)⟩
theorem lw_p214 : lw_okq (⟨"PathProverModel", "instance", "(LPathProverModel$Module;LPathProverModel$Instance;LPathProverModel$Node;)LPathProverModel$Instance;"⟩, 57) := ⟨⟨by decide +kernel, by decide +kernel⟩, List.mem_of_getElem? (i := 2730) (by decide +kernel), List.mem_of_getElem? (i := 3388) (by decide +kernel), List.mem_of_getElem? (i := 3389) (by decide +kernel)⟩
theorem lw_p215 : lw_okq (⟨"PathProverModel", "small", "(Z)V"⟩, 57) := ⟨⟨by decide +kernel, by decide +kernel⟩, List.mem_of_getElem? (i := 2730) (by decide +kernel), List.mem_of_getElem? (i := 3392) (by decide +kernel), List.mem_of_getElem? (i := 3393) (by decide +kernel)⟩
theorem lw_p216 : lw_okq (⟨"PathProverModel", "stand", "(LPathProverModel$Node;LPathProverModel$Instance;)I"⟩, 57) := ⟨⟨by decide +kernel, by decide +kernel⟩, List.mem_of_getElem? (i := 2730) (by decide +kernel), List.mem_of_getElem? (i := 3428) (by decide +kernel), List.mem_of_getElem? (i := 3429) (by decide +kernel)⟩
theorem lw_p217 : lw_okq (⟨"PathProverModel", "allNames", "()V"⟩, 57) := ⟨⟨by decide +kernel, by decide +kernel⟩, List.mem_of_getElem? (i := 2730) (by decide +kernel), List.mem_of_getElem? (i := 3438) (by decide +kernel), List.mem_of_getElem? (i := 3439) (by decide +kernel)⟩
theorem lw_p218 : lw_okq (⟨"PathProverModel", "noExpressionInItself", "()V"⟩, 57) := ⟨⟨by decide +kernel, by decide +kernel⟩, List.mem_of_getElem? (i := 2730) (by decide +kernel), List.mem_of_getElem? (i := 3442) (by decide +kernel), List.mem_of_getElem? (i := 3443) (by decide +kernel)⟩
theorem lw_p219 : lw_okq (⟨"PathProverModel", "missing", "(LPathProverModel$Node;LPathProverModel$Instance;)I"⟩, 57) := ⟨⟨by decide +kernel, by decide +kernel⟩, List.mem_of_getElem? (i := 2730) (by decide +kernel), List.mem_of_getElem? (i := 3446) (by decide +kernel), List.mem_of_getElem? (i := 3447) (by decide +kernel)⟩
theorem lw_p220 : lw_okq (⟨"PathProverModel", "named", "(LPathProverModel$Node;)Z"⟩, 57) := ⟨⟨by decide +kernel, by decide +kernel⟩, List.mem_of_getElem? (i := 2730) (by decide +kernel), List.mem_of_getElem? (i := 3450) (by decide +kernel), List.mem_of_getElem? (i := 3451) (by decide +kernel)⟩
theorem lw_p221 : lw_okq (⟨"PathProverModel", "find", "(LPathProverModel$Instance;[Ljava/lang/String;)V"⟩, 57) := ⟨⟨by decide +kernel, by decide +kernel⟩, List.mem_of_getElem? (i := 2730) (by decide +kernel), List.mem_of_getElem? (i := 3454) (by decide +kernel), List.mem_of_getElem? (i := 3455) (by decide +kernel)⟩
theorem lw_p222 : lw_okq (⟨"PathProverModel", "names", "(LPathProverModel$Node;LPathProverModel$Instance;)V"⟩, 57) := ⟨⟨by decide +kernel, by decide +kernel⟩, List.mem_of_getElem? (i := 2730) (by decide +kernel), List.mem_of_getElem? (i := 3463) (by decide +kernel), List.mem_of_getElem? (i := 3464) (by decide +kernel)⟩
theorem lw_p223 : lw_okq (⟨"PathProverModel", "allHeights", "()V"⟩, 57) := ⟨⟨by decide +kernel, by decide +kernel⟩, List.mem_of_getElem? (i := 2730) (by decide +kernel), List.mem_of_getElem? (i := 3467) (by decide +kernel), List.mem_of_getElem? (i := 3468) (by decide +kernel)⟩
def lw_privs_14 : List (MethodName × Nat) := [(⟨"PathProverModel", "soundText", "(LPathProverModel$Module;)V"⟩, 57), (⟨"PathProverModel", "differentNames", "(LPathProverModel$Module;)V"⟩, 57), (⟨"PathProverModel", "soundType", "(LPathProverModel$Node;)V"⟩, 57), (⟨"PathProverModel", "text", "(Ljava/lang/String;)LPathProverModel$Module;"⟩, 57), (⟨"PathProverModel", "assigns", "(LPathProverModel$Node;)Z"⟩, 57), (⟨"PathProverModel", "noCycle", "()V"⟩, 57), (⟨"PathProverModel", "instance", "(LPathProverModel$Module;LPathProverModel$Instance;LPathProverModel$Node;)LPathProverModel$Instance;"⟩, 57), (⟨"PathProverModel", "small", "(Z)V"⟩, 57), (⟨"PathProverModel", "stand", "(LPathProverModel$Node;LPathProverModel$Instance;)I"⟩, 57), (⟨"PathProverModel", "allNames", "()V"⟩, 57), (⟨"PathProverModel", "noExpressionInItself", "()V"⟩, 57), (⟨"PathProverModel", "missing", "(LPathProverModel$Node;LPathProverModel$Instance;)I"⟩, 57), (⟨"PathProverModel", "named", "(LPathProverModel$Node;)Z"⟩, 57), (⟨"PathProverModel", "find", "(LPathProverModel$Instance;[Ljava/lang/String;)V"⟩, 57), (⟨"PathProverModel", "names", "(LPathProverModel$Node;LPathProverModel$Instance;)V"⟩, 57), (⟨"PathProverModel", "allHeights", "()V"⟩, 57)]
theorem lw_r14 : ∀ q ∈ lw_privs_14, lw_okq q := List.forall_mem_cons.mpr ⟨lw_p208, List.forall_mem_cons.mpr ⟨lw_p209, List.forall_mem_cons.mpr ⟨lw_p210, List.forall_mem_cons.mpr ⟨lw_p211, List.forall_mem_cons.mpr ⟨lw_p212, List.forall_mem_cons.mpr ⟨lw_p213, List.forall_mem_cons.mpr ⟨lw_p214, List.forall_mem_cons.mpr ⟨lw_p215, List.forall_mem_cons.mpr ⟨lw_p216, List.forall_mem_cons.mpr ⟨lw_p217, List.forall_mem_cons.mpr ⟨lw_p218, List.forall_mem_cons.mpr ⟨lw_p219, List.forall_mem_cons.mpr ⟨lw_p220, List.forall_mem_cons.mpr ⟨lw_p221, List.forall_mem_cons.mpr ⟨lw_p222, List.forall_mem_cons.mpr ⟨lw_p223, fun _ h => absurd h List.not_mem_nil⟩⟩⟩⟩⟩⟩⟩⟩⟩⟩⟩⟩⟩⟩⟩⟩
theorem lw_p224 : lw_okq (⟨"PathProverModel", "high", "(LPathProverModel$Node;LPathProverModel$Instance;)I"⟩, 57) := ⟨⟨by decide +kernel, by decide +kernel⟩, List.mem_of_getElem? (i := 2730) (by decide +kernel), List.mem_of_getElem? (i := 3471) (by decide +kernel), List.mem_of_getElem? (i := 3472) (by decide +kernel)⟩
theorem lw_p225 : lw_okq (⟨"PathProverModel", "highChoice", "(LPathProverModel$Node;LPathProverModel$Instance;)I"⟩, 57) := ⟨⟨by decide +kernel, by decide +kernel⟩, List.mem_of_getElem? (i := 2730) (by decide +kernel), List.mem_of_getElem? (i := 3476) (by decide +kernel), List.mem_of_getElem? (i := 3477) (by decide +kernel)⟩
theorem lw_p226 : lw_okq (⟨"PathProverModel", "allSorts", "()V"⟩, 57) := ⟨⟨by decide +kernel, by decide +kernel⟩, List.mem_of_getElem? (i := 2730) (by decide +kernel), List.mem_of_getElem? (i := 3480) (by decide +kernel), List.mem_of_getElem? (i := 3481) (by decide +kernel)⟩
theorem lw_p227 : lw_okq (⟨"PathProverModel", "sort", "(LPathProverModel$Node;LPathProverModel$Instance;IZ)I"⟩, 57) := ⟨⟨by decide +kernel, by decide +kernel⟩, List.mem_of_getElem? (i := 2730) (by decide +kernel), List.mem_of_getElem? (i := 3484) (by decide +kernel), List.mem_of_getElem? (i := 3485) (by decide +kernel)⟩
theorem lw_p228 : lw_okq (⟨"PathProverModel", "sortOf", "(I)I"⟩, 57) := ⟨⟨by decide +kernel, by decide +kernel⟩, List.mem_of_getElem? (i := 2730) (by decide +kernel), List.mem_of_getElem? (i := 3488) (by decide +kernel), List.mem_of_getElem? (i := 3489) (by decide +kernel)⟩
theorem lw_p229 : lw_okq (⟨"PathProverModel", "variableOf", "([Ljava/lang/String;LPathProverModel$Instance;)I"⟩, 57) := ⟨⟨by decide +kernel, by decide +kernel⟩, List.mem_of_getElem? (i := 2730) (by decide +kernel), List.mem_of_getElem? (i := 3492) (by decide +kernel), List.mem_of_getElem? (i := 3493) (by decide +kernel)⟩
theorem lw_p230 : lw_okq (⟨"PathProverModel", "temporal", "(LPathProverModel$Node;)Z"⟩, 57) := ⟨⟨by decide +kernel, by decide +kernel⟩, List.mem_of_getElem? (i := 2730) (by decide +kernel), List.mem_of_getElem? (i := 3496) (by decide +kernel), List.mem_of_getElem? (i := 3497) (by decide +kernel)⟩
theorem lw_p231 : lw_okq (⟨"PathProverModel", "cased", "(LPathProverModel$Node;LPathProverModel$Instance;I)I"⟩, 57) := ⟨⟨by decide +kernel, by decide +kernel⟩, List.mem_of_getElem? (i := 2730) (by decide +kernel), List.mem_of_getElem? (i := 3500) (by decide +kernel), List.mem_of_getElem? (i := 3501) (by decide +kernel)⟩
theorem lw_p232 : lw_okq (⟨"PathProverModel", "chained", "(LPathProverModel$Node;LPathProverModel$Instance;IZ)I"⟩, 57) := ⟨⟨by decide +kernel, by decide +kernel⟩, List.mem_of_getElem? (i := 2730) (by decide +kernel), List.mem_of_getElem? (i := 3504) (by decide +kernel), List.mem_of_getElem? (i := 3505) (by decide +kernel)⟩
theorem lw_p233 : lw_okq (⟨"PathProverModel", "choiceSort", "(LPathProverModel$Node;LPathProverModel$Instance;I)V"⟩, 57) := ⟨⟨by decide +kernel, by decide +kernel⟩, List.mem_of_getElem? (i := 2730) (by decide +kernel), List.mem_of_getElem? (i := 3508) (by decide +kernel), List.mem_of_getElem? (i := 3509) (by decide +kernel)⟩
theorem lw_p234 : lw_okq (⟨"PathProverModel", "allValues", "()V"⟩, 57) := ⟨⟨by decide +kernel, by decide +kernel⟩, List.mem_of_getElem? (i := 2730) (by decide +kernel), List.mem_of_getElem? (i := 3512) (by decide +kernel), List.mem_of_getElem? (i := 3513) (by decide +kernel)⟩
theorem lw_p235 : lw_okq (⟨"PathProverModel", "howMany", "(LPathProverModel$Node;)I"⟩, 57) := ⟨⟨by decide +kernel, by decide +kernel⟩, List.mem_of_getElem? (i := 2730) (by decide +kernel), List.mem_of_getElem? (i := 3516) (by decide +kernel), List.mem_of_getElem? (i := 3517) (by decide +kernel)⟩
theorem lw_p236 : lw_okq (⟨"PathProverModel", "build", "()V"⟩, 57) := ⟨⟨by decide +kernel, by decide +kernel⟩, List.mem_of_getElem? (i := 2730) (by decide +kernel), List.mem_of_getElem? (i := 3520) (by decide +kernel), List.mem_of_getElem? (i := 3521) (by decide +kernel)⟩
theorem lw_p237 : lw_okq (⟨"PathProverModel", "enter", "(I)V"⟩, 57) := ⟨⟨by decide +kernel, by decide +kernel⟩, List.mem_of_getElem? (i := 2730) (by decide +kernel), List.mem_of_getElem? (i := 3532) (by decide +kernel), List.mem_of_getElem? (i := 3533) (by decide +kernel)⟩
theorem lw_p238 : lw_okq (⟨"PathProverModel", "decode", "(I[I)V"⟩, 57) := ⟨⟨by decide +kernel, by decide +kernel⟩, List.mem_of_getElem? (i := 2730) (by decide +kernel), List.mem_of_getElem? (i := 3536) (by decide +kernel), List.mem_of_getElem? (i := 3537) (by decide +kernel)⟩
theorem lw_p239 : lw_okq (⟨"PathProverModel", "all", "(Ljava/lang/String;Ljava/lang/String;)Z"⟩, 57) := ⟨⟨by decide +kernel, by decide +kernel⟩, List.mem_of_getElem? (i := 2730) (by decide +kernel), List.mem_of_getElem? (i := 3540) (by decide +kernel), List.mem_of_getElem? (i := 3541) (by decide +kernel)⟩
def lw_privs_15 : List (MethodName × Nat) := [(⟨"PathProverModel", "high", "(LPathProverModel$Node;LPathProverModel$Instance;)I"⟩, 57), (⟨"PathProverModel", "highChoice", "(LPathProverModel$Node;LPathProverModel$Instance;)I"⟩, 57), (⟨"PathProverModel", "allSorts", "()V"⟩, 57), (⟨"PathProverModel", "sort", "(LPathProverModel$Node;LPathProverModel$Instance;IZ)I"⟩, 57), (⟨"PathProverModel", "sortOf", "(I)I"⟩, 57), (⟨"PathProverModel", "variableOf", "([Ljava/lang/String;LPathProverModel$Instance;)I"⟩, 57), (⟨"PathProverModel", "temporal", "(LPathProverModel$Node;)Z"⟩, 57), (⟨"PathProverModel", "cased", "(LPathProverModel$Node;LPathProverModel$Instance;I)I"⟩, 57), (⟨"PathProverModel", "chained", "(LPathProverModel$Node;LPathProverModel$Instance;IZ)I"⟩, 57), (⟨"PathProverModel", "choiceSort", "(LPathProverModel$Node;LPathProverModel$Instance;I)V"⟩, 57), (⟨"PathProverModel", "allValues", "()V"⟩, 57), (⟨"PathProverModel", "howMany", "(LPathProverModel$Node;)I"⟩, 57), (⟨"PathProverModel", "build", "()V"⟩, 57), (⟨"PathProverModel", "enter", "(I)V"⟩, 57), (⟨"PathProverModel", "decode", "(I[I)V"⟩, 57), (⟨"PathProverModel", "all", "(Ljava/lang/String;Ljava/lang/String;)Z"⟩, 57)]
theorem lw_r15 : ∀ q ∈ lw_privs_15, lw_okq q := List.forall_mem_cons.mpr ⟨lw_p224, List.forall_mem_cons.mpr ⟨lw_p225, List.forall_mem_cons.mpr ⟨lw_p226, List.forall_mem_cons.mpr ⟨lw_p227, List.forall_mem_cons.mpr ⟨lw_p228, List.forall_mem_cons.mpr ⟨lw_p229, List.forall_mem_cons.mpr ⟨lw_p230, List.forall_mem_cons.mpr ⟨lw_p231, List.forall_mem_cons.mpr ⟨lw_p232, List.forall_mem_cons.mpr ⟨lw_p233, List.forall_mem_cons.mpr ⟨lw_p234, List.forall_mem_cons.mpr ⟨lw_p235, List.forall_mem_cons.mpr ⟨lw_p236, List.forall_mem_cons.mpr ⟨lw_p237, List.forall_mem_cons.mpr ⟨lw_p238, List.forall_mem_cons.mpr ⟨lw_p239, fun _ h => absurd h List.not_mem_nil⟩⟩⟩⟩⟩⟩⟩⟩⟩⟩⟩⟩⟩⟩⟩⟩
theorem lw_p240 : lw_okq (⟨"PathProverModel", "value", "(LPathProverModel$Node;LPathProverModel$Instance;)I"⟩, 57) := ⟨⟨by decide +kernel, by decide +kernel⟩, List.mem_of_getElem? (i := 2730) (by decide +kernel), List.mem_of_getElem? (i := 3544) (by decide +kernel), List.mem_of_getElem? (i := 3545) (by decide +kernel)⟩
theorem lw_p241 : lw_okq (⟨"PathProverModel", "valueAt", "(II)I"⟩, 57) := ⟨⟨by decide +kernel, by decide +kernel⟩, List.mem_of_getElem? (i := 2730) (by decide +kernel), List.mem_of_getElem? (i := 3548) (by decide +kernel), List.mem_of_getElem? (i := 3549) (by decide +kernel)⟩
theorem lw_p242 : lw_okq (⟨"PathProverModel", "standing", "(I)I"⟩, 57) := ⟨⟨by decide +kernel, by decide +kernel⟩, List.mem_of_getElem? (i := 2730) (by decide +kernel), List.mem_of_getElem? (i := 3552) (by decide +kernel), List.mem_of_getElem? (i := 3553) (by decide +kernel)⟩
theorem lw_p243 : lw_okq (⟨"PathProverModel", "truth", "(Z)I"⟩, 57) := ⟨⟨by decide +kernel, by decide +kernel⟩, List.mem_of_getElem? (i := 2730) (by decide +kernel), List.mem_of_getElem? (i := 3559) (by decide +kernel), List.mem_of_getElem? (i := 3560) (by decide +kernel)⟩
theorem lw_p244 : lw_okq (⟨"PathProverModel", "chainValue", "(LPathProverModel$Node;LPathProverModel$Instance;)I"⟩, 57) := ⟨⟨by decide +kernel, by decide +kernel⟩, List.mem_of_getElem? (i := 2730) (by decide +kernel), List.mem_of_getElem? (i := 3563) (by decide +kernel), List.mem_of_getElem? (i := 3564) (by decide +kernel)⟩
theorem lw_p245 : lw_okq (⟨"PathProverModel", "compared", "(LPathProverModel$Node;LPathProverModel$Instance;)I"⟩, 57) := ⟨⟨by decide +kernel, by decide +kernel⟩, List.mem_of_getElem? (i := 2730) (by decide +kernel), List.mem_of_getElem? (i := 3567) (by decide +kernel), List.mem_of_getElem? (i := 3568) (by decide +kernel)⟩
theorem lw_p246 : lw_okq (⟨"PathProverModel", "chosen", "(LPathProverModel$Node;LPathProverModel$Instance;I)Z"⟩, 57) := ⟨⟨by decide +kernel, by decide +kernel⟩, List.mem_of_getElem? (i := 2730) (by decide +kernel), List.mem_of_getElem? (i := 3571) (by decide +kernel), List.mem_of_getElem? (i := 3572) (by decide +kernel)⟩
theorem lw_p247 : lw_okq (⟨"PathProverModel", "goes", "()V"⟩, 57) := ⟨⟨by decide +kernel, by decide +kernel⟩, List.mem_of_getElem? (i := 2730) (by decide +kernel), List.mem_of_getElem? (i := 3576) (by decide +kernel), List.mem_of_getElem? (i := 3577) (by decide +kernel)⟩
theorem lw_p248 : lw_okq (⟨"PathProverModel", "mark", "()V"⟩, 57) := ⟨⟨by decide +kernel, by decide +kernel⟩, List.mem_of_getElem? (i := 2730) (by decide +kernel), List.mem_of_getElem? (i := 3580) (by decide +kernel), List.mem_of_getElem? (i := 3581) (by decide +kernel)⟩
theorem lw_p249 : lw_okq (⟨"PathProverModel", "tried", "(I)I"⟩, 57) := ⟨⟨by decide +kernel, by decide +kernel⟩, List.mem_of_getElem? (i := 2730) (by decide +kernel), List.mem_of_getElem? (i := 3584) (by decide +kernel), List.mem_of_getElem? (i := 3585) (by decide +kernel)⟩
theorem lw_p250 : lw_okq (⟨"PathProverModel", "candidate", "(I)I"⟩, 57) := ⟨⟨by decide +kernel, by decide +kernel⟩, List.mem_of_getElem? (i := 2730) (by decide +kernel), List.mem_of_getElem? (i := 3588) (by decide +kernel), List.mem_of_getElem? (i := 3589) (by decide +kernel)⟩
theorem lw_p251 : lw_okq (⟨"PathProverModel", "transitions", "()Z"⟩, 57) := ⟨⟨by decide +kernel, by decide +kernel⟩, List.mem_of_getElem? (i := 2730) (by decide +kernel), List.mem_of_getElem? (i := 3592) (by decide +kernel), List.mem_of_getElem? (i := 3593) (by decide +kernel)⟩
theorem lw_p252 : lw_okq (⟨"PathProverModel", "row", "()LPathProverModel$Bits;"⟩, 57) := ⟨⟨by decide +kernel, by decide +kernel⟩, List.mem_of_getElem? (i := 2730) (by decide +kernel), List.mem_of_getElem? (i := 3596) (by decide +kernel), List.mem_of_getElem? (i := 3597) (by decide +kernel)⟩
theorem lw_p253 : lw_okq (⟨"PathProverModel", "always", "(LPathProverModel$Bits;LPathProverModel$Bits;)V"⟩, 57) := ⟨⟨by decide +kernel, by decide +kernel⟩, List.mem_of_getElem? (i := 2730) (by decide +kernel), List.mem_of_getElem? (i := 3600) (by decide +kernel), List.mem_of_getElem? (i := 3601) (by decide +kernel)⟩
theorem lw_p254 : lw_okq (⟨"PathProverModel", "fairs", "()I"⟩, 57) := ⟨⟨by decide +kernel, by decide +kernel⟩, List.mem_of_getElem? (i := 2730) (by decide +kernel), List.mem_of_getElem? (i := 3604) (by decide +kernel), List.mem_of_getElem? (i := 3605) (by decide +kernel)⟩
theorem lw_p255 : lw_okq (⟨"PathProverModel", "fairAt", "(II)Z"⟩, 57) := ⟨⟨by decide +kernel, by decide +kernel⟩, List.mem_of_getElem? (i := 2730) (by decide +kernel), List.mem_of_getElem? (i := 3608) (by decide +kernel), List.mem_of_getElem? (i := 3609) (by decide +kernel)⟩
def lw_privs_16 : List (MethodName × Nat) := [(⟨"PathProverModel", "value", "(LPathProverModel$Node;LPathProverModel$Instance;)I"⟩, 57), (⟨"PathProverModel", "valueAt", "(II)I"⟩, 57), (⟨"PathProverModel", "standing", "(I)I"⟩, 57), (⟨"PathProverModel", "truth", "(Z)I"⟩, 57), (⟨"PathProverModel", "chainValue", "(LPathProverModel$Node;LPathProverModel$Instance;)I"⟩, 57), (⟨"PathProverModel", "compared", "(LPathProverModel$Node;LPathProverModel$Instance;)I"⟩, 57), (⟨"PathProverModel", "chosen", "(LPathProverModel$Node;LPathProverModel$Instance;I)Z"⟩, 57), (⟨"PathProverModel", "goes", "()V"⟩, 57), (⟨"PathProverModel", "mark", "()V"⟩, 57), (⟨"PathProverModel", "tried", "(I)I"⟩, 57), (⟨"PathProverModel", "candidate", "(I)I"⟩, 57), (⟨"PathProverModel", "transitions", "()Z"⟩, 57), (⟨"PathProverModel", "row", "()LPathProverModel$Bits;"⟩, 57), (⟨"PathProverModel", "always", "(LPathProverModel$Bits;LPathProverModel$Bits;)V"⟩, 57), (⟨"PathProverModel", "fairs", "()I"⟩, 57), (⟨"PathProverModel", "fairAt", "(II)Z"⟩, 57)]
theorem lw_r16 : ∀ q ∈ lw_privs_16, lw_okq q := List.forall_mem_cons.mpr ⟨lw_p240, List.forall_mem_cons.mpr ⟨lw_p241, List.forall_mem_cons.mpr ⟨lw_p242, List.forall_mem_cons.mpr ⟨lw_p243, List.forall_mem_cons.mpr ⟨lw_p244, List.forall_mem_cons.mpr ⟨lw_p245, List.forall_mem_cons.mpr ⟨lw_p246, List.forall_mem_cons.mpr ⟨lw_p247, List.forall_mem_cons.mpr ⟨lw_p248, List.forall_mem_cons.mpr ⟨lw_p249, List.forall_mem_cons.mpr ⟨lw_p250, List.forall_mem_cons.mpr ⟨lw_p251, List.forall_mem_cons.mpr ⟨lw_p252, List.forall_mem_cons.mpr ⟨lw_p253, List.forall_mem_cons.mpr ⟨lw_p254, List.forall_mem_cons.mpr ⟨lw_p255, fun _ h => absurd h List.not_mem_nil⟩⟩⟩⟩⟩⟩⟩⟩⟩⟩⟩⟩⟩⟩⟩⟩
theorem lw_p256 : lw_okq (⟨"PathProverModel", "grow", "(LPathProverModel$Bits;LPathProverModel$Bits;)V"⟩, 57) := ⟨⟨by decide +kernel, by decide +kernel⟩, List.mem_of_getElem? (i := 2730) (by decide +kernel), List.mem_of_getElem? (i := 3612) (by decide +kernel), List.mem_of_getElem? (i := 3613) (by decide +kernel)⟩
theorem lw_p257 : lw_okq (⟨"PathProverModel", "leads", "(ILPathProverModel$Bits;)Z"⟩, 57) := ⟨⟨by decide +kernel, by decide +kernel⟩, List.mem_of_getElem? (i := 2730) (by decide +kernel), List.mem_of_getElem? (i := 3616) (by decide +kernel), List.mem_of_getElem? (i := 3617) (by decide +kernel)⟩
theorem lw_p258 : lw_okq (⟨"PathProverModel", "begin", "(I)V"⟩, 57) := ⟨⟨by decide +kernel, by decide +kernel⟩, List.mem_of_getElem? (i := 2730) (by decide +kernel), List.mem_of_getElem? (i := 3620) (by decide +kernel), List.mem_of_getElem? (i := 3621) (by decide +kernel)⟩
theorem lw_p259 : lw_okq (⟨"PathProverModel", "next", "()I"⟩, 57) := ⟨⟨by decide +kernel, by decide +kernel⟩, List.mem_of_getElem? (i := 2730) (by decide +kernel), List.mem_of_getElem? (i := 3624) (by decide +kernel), List.mem_of_getElem? (i := 3625) (by decide +kernel)⟩
theorem lw_p260 : lw_okq (⟨"PathProverModel", "fail", "(I)I"⟩, 57) := ⟨⟨by decide +kernel, by decide +kernel⟩, List.mem_of_getElem? (i := 2730) (by decide +kernel), List.mem_of_getElem? (i := 3632) (by decide +kernel), List.mem_of_getElem? (i := 3633) (by decide +kernel)⟩
theorem lw_p261 : lw_okq (⟨"PathProverModel", "noSpec", "(I)Z"⟩, 57) := ⟨⟨by decide +kernel, by decide +kernel⟩, List.mem_of_getElem? (i := 2730) (by decide +kernel), List.mem_of_getElem? (i := 3648) (by decide +kernel), List.mem_of_getElem? (i := 3649) (by decide +kernel)⟩
theorem lw_p262 : lw_okq (⟨"PathProverModel", "spec", "(ILPathProverModel$Bits;)V"⟩, 57) := ⟨⟨by decide +kernel, by decide +kernel⟩, List.mem_of_getElem? (i := 2730) (by decide +kernel), List.mem_of_getElem? (i := 3652) (by decide +kernel), List.mem_of_getElem? (i := 3653) (by decide +kernel)⟩
theorem lw_p263 : lw_okq (⟨"PathProverModel", "formula", "(LPathProverModel$Node;LPathProverModel$Instance;LPathProverModel$Bits;)V"⟩, 57) := ⟨⟨by decide +kernel, by decide +kernel⟩, List.mem_of_getElem? (i := 2730) (by decide +kernel), List.mem_of_getElem? (i := 3656) (by decide +kernel), List.mem_of_getElem? (i := 3657) (by decide +kernel)⟩
theorem lw_p264 : lw_okq (⟨"PathProverModel", "paths", "(LPathProverModel$Node;LPathProverModel$Instance;)Z"⟩, 57) := ⟨⟨by decide +kernel, by decide +kernel⟩, List.mem_of_getElem? (i := 2730) (by decide +kernel), List.mem_of_getElem? (i := 3660) (by decide +kernel), List.mem_of_getElem? (i := 3661) (by decide +kernel)⟩
theorem lw_p265 : lw_okq (⟨"PathProverModel", "copy", "(LPathProverModel$Bits;LPathProverModel$Bits;)V"⟩, 57) := ⟨⟨by decide +kernel, by decide +kernel⟩, List.mem_of_getElem? (i := 2730) (by decide +kernel), List.mem_of_getElem? (i := 3664) (by decide +kernel), List.mem_of_getElem? (i := 3665) (by decide +kernel)⟩
theorem lw_p266 : lw_okq (⟨"PathProverModel", "deny", "(LPathProverModel$Bits;)V"⟩, 57) := ⟨⟨by decide +kernel, by decide +kernel⟩, List.mem_of_getElem? (i := 2730) (by decide +kernel), List.mem_of_getElem? (i := 3668) (by decide +kernel), List.mem_of_getElem? (i := 3669) (by decide +kernel)⟩
theorem lw_p267 : lw_okq (⟨"PathProverModel", "before", "(LPathProverModel$Bits;LPathProverModel$Bits;)V"⟩, 57) := ⟨⟨by decide +kernel, by decide +kernel⟩, List.mem_of_getElem? (i := 2730) (by decide +kernel), List.mem_of_getElem? (i := 3672) (by decide +kernel), List.mem_of_getElem? (i := 3673) (by decide +kernel)⟩
theorem lw_p268 : lw_okq (⟨"PathProverModel", "until", "(LPathProverModel$Bits;LPathProverModel$Bits;LPathProverModel$Bits;)V"⟩, 57) := ⟨⟨by decide +kernel, by decide +kernel⟩, List.mem_of_getElem? (i := 2730) (by decide +kernel), List.mem_of_getElem? (i := 3676) (by decide +kernel), List.mem_of_getElem? (i := 3677) (by decide +kernel)⟩
theorem lw_p269 : lw_okq (⟨"PathProverModel", "untils", "(LPathProverModel$Node;LPathProverModel$Instance;LPathProverModel$Bits;LPathProverModel$Bits;)V"⟩, 57) := ⟨⟨by decide +kernel, by decide +kernel⟩, List.mem_of_getElem? (i := 2730) (by decide +kernel), List.mem_of_getElem? (i := 3680) (by decide +kernel), List.mem_of_getElem? (i := 3681) (by decide +kernel)⟩
theorem lw_p270 : lw_okq (⟨"PathProverModel", "joined", "(LPathProverModel$Node;LPathProverModel$Instance;LPathProverModel$Bits;LPathProverModel$Bits;)V"⟩, 57) := ⟨⟨by decide +kernel, by decide +kernel⟩, List.mem_of_getElem? (i := 2730) (by decide +kernel), List.mem_of_getElem? (i := 3684) (by decide +kernel), List.mem_of_getElem? (i := 3685) (by decide +kernel)⟩
theorem lw_p271 : lw_okq (⟨"PathProverModel", "degree", "(I)I"⟩, 57) := ⟨⟨by decide +kernel, by decide +kernel⟩, List.mem_of_getElem? (i := 2730) (by decide +kernel), List.mem_of_getElem? (i := 3692) (by decide +kernel), List.mem_of_getElem? (i := 3693) (by decide +kernel)⟩
def lw_privs_17 : List (MethodName × Nat) := [(⟨"PathProverModel", "grow", "(LPathProverModel$Bits;LPathProverModel$Bits;)V"⟩, 57), (⟨"PathProverModel", "leads", "(ILPathProverModel$Bits;)Z"⟩, 57), (⟨"PathProverModel", "begin", "(I)V"⟩, 57), (⟨"PathProverModel", "next", "()I"⟩, 57), (⟨"PathProverModel", "fail", "(I)I"⟩, 57), (⟨"PathProverModel", "noSpec", "(I)Z"⟩, 57), (⟨"PathProverModel", "spec", "(ILPathProverModel$Bits;)V"⟩, 57), (⟨"PathProverModel", "formula", "(LPathProverModel$Node;LPathProverModel$Instance;LPathProverModel$Bits;)V"⟩, 57), (⟨"PathProverModel", "paths", "(LPathProverModel$Node;LPathProverModel$Instance;)Z"⟩, 57), (⟨"PathProverModel", "copy", "(LPathProverModel$Bits;LPathProverModel$Bits;)V"⟩, 57), (⟨"PathProverModel", "deny", "(LPathProverModel$Bits;)V"⟩, 57), (⟨"PathProverModel", "before", "(LPathProverModel$Bits;LPathProverModel$Bits;)V"⟩, 57), (⟨"PathProverModel", "until", "(LPathProverModel$Bits;LPathProverModel$Bits;LPathProverModel$Bits;)V"⟩, 57), (⟨"PathProverModel", "untils", "(LPathProverModel$Node;LPathProverModel$Instance;LPathProverModel$Bits;LPathProverModel$Bits;)V"⟩, 57), (⟨"PathProverModel", "joined", "(LPathProverModel$Node;LPathProverModel$Instance;LPathProverModel$Bits;LPathProverModel$Bits;)V"⟩, 57), (⟨"PathProverModel", "degree", "(I)I"⟩, 57)]
theorem lw_r17 : ∀ q ∈ lw_privs_17, lw_okq q := List.forall_mem_cons.mpr ⟨lw_p256, List.forall_mem_cons.mpr ⟨lw_p257, List.forall_mem_cons.mpr ⟨lw_p258, List.forall_mem_cons.mpr ⟨lw_p259, List.forall_mem_cons.mpr ⟨lw_p260, List.forall_mem_cons.mpr ⟨lw_p261, List.forall_mem_cons.mpr ⟨lw_p262, List.forall_mem_cons.mpr ⟨lw_p263, List.forall_mem_cons.mpr ⟨lw_p264, List.forall_mem_cons.mpr ⟨lw_p265, List.forall_mem_cons.mpr ⟨lw_p266, List.forall_mem_cons.mpr ⟨lw_p267, List.forall_mem_cons.mpr ⟨lw_p268, List.forall_mem_cons.mpr ⟨lw_p269, List.forall_mem_cons.mpr ⟨lw_p270, List.forall_mem_cons.mpr ⟨lw_p271, fun _ h => absurd h List.not_mem_nil⟩⟩⟩⟩⟩⟩⟩⟩⟩⟩⟩⟩⟩⟩⟩⟩
theorem lw_p272 : lw_okq (⟨"PathProverModel", "showPath", "(LPathProverModel$Node;LPathProverModel$Instance;)Z"⟩, 57) := ⟨⟨by decide +kernel, by decide +kernel⟩, List.mem_of_getElem? (i := 2730) (by decide +kernel), List.mem_of_getElem? (i := 3704) (by decide +kernel), List.mem_of_getElem? (i := 3705) (by decide +kernel)⟩
theorem lw_p273 : lw_okq (⟨"PathProverModel", "firstOf", "(LPathProverModel$Bits;)I"⟩, 57) := ⟨⟨by decide +kernel, by decide +kernel⟩, List.mem_of_getElem? (i := 2730) (by decide +kernel), List.mem_of_getElem? (i := 3708) (by decide +kernel), List.mem_of_getElem? (i := 3709) (by decide +kernel)⟩
theorem lw_p274 : lw_okq (⟨"PathProverModel", "measure", "(LPathProverModel$Bits;LPathProverModel$Bits;)V"⟩, 57) := ⟨⟨by decide +kernel, by decide +kernel⟩, List.mem_of_getElem? (i := 2730) (by decide +kernel), List.mem_of_getElem? (i := 3712) (by decide +kernel), List.mem_of_getElem? (i := 3713) (by decide +kernel)⟩
theorem lw_p275 : lw_okq (⟨"PathProverModel", "nearest", "(ILPathProverModel$Bits;)I"⟩, 57) := ⟨⟨by decide +kernel, by decide +kernel⟩, List.mem_of_getElem? (i := 2730) (by decide +kernel), List.mem_of_getElem? (i := 3716) (by decide +kernel), List.mem_of_getElem? (i := 3717) (by decide +kernel)⟩
theorem lw_p276 : lw_okq (⟨"PathProverModel", "tell", "(I)V"⟩, 57) := ⟨⟨by decide +kernel, by decide +kernel⟩, List.mem_of_getElem? (i := 2730) (by decide +kernel), List.mem_of_getElem? (i := 3720) (by decide +kernel), List.mem_of_getElem? (i := 3721) (by decide +kernel)⟩
theorem lw_p277 : lw_okq (⟨"PathProverModel", "step", "(IILPathProverModel$Bits;)I"⟩, 57) := ⟨⟨by decide +kernel, by decide +kernel⟩, List.mem_of_getElem? (i := 2730) (by decide +kernel), List.mem_of_getElem? (i := 3724) (by decide +kernel), List.mem_of_getElem? (i := 3725) (by decide +kernel)⟩
theorem lw_p278 : lw_okq (⟨"PathProverModel", "follow", "(I)I"⟩, 57) := ⟨⟨by decide +kernel, by decide +kernel⟩, List.mem_of_getElem? (i := 2730) (by decide +kernel), List.mem_of_getElem? (i := 3728) (by decide +kernel), List.mem_of_getElem? (i := 3729) (by decide +kernel)⟩
theorem lw_p279 : lw_okq (⟨"PathProverModel", "showLoop", "(LPathProverModel$Node;LPathProverModel$Instance;)Z"⟩, 57) := ⟨⟨by decide +kernel, by decide +kernel⟩, List.mem_of_getElem? (i := 2730) (by decide +kernel), List.mem_of_getElem? (i := 3732) (by decide +kernel), List.mem_of_getElem? (i := 3733) (by decide +kernel)⟩
theorem lw_p280 : lw_okq (⟨"PathProverModel", "walk", "(ILPathProverModel$Bits;LPathProverModel$Bits;)I"⟩, 57) := ⟨⟨by decide +kernel, by decide +kernel⟩, List.mem_of_getElem? (i := 2730) (by decide +kernel), List.mem_of_getElem? (i := 3736) (by decide +kernel), List.mem_of_getElem? (i := 3737) (by decide +kernel)⟩
theorem lw_p281 : lw_okq (⟨"PathProverModel", "pathSizeBack", "(I)V"⟩, 57) := ⟨⟨by decide +kernel, by decide +kernel⟩, List.mem_of_getElem? (i := 2730) (by decide +kernel), List.mem_of_getElem? (i := 3740) (by decide +kernel), List.mem_of_getElem? (i := 3741) (by decide +kernel)⟩
theorem lw_p282 : lw_okq (⟨"PathProverModel", "go", "(I)I"⟩, 57) := ⟨⟨by decide +kernel, by decide +kernel⟩, List.mem_of_getElem? (i := 2730) (by decide +kernel), List.mem_of_getElem? (i := 3748) (by decide +kernel), List.mem_of_getElem? (i := 3749) (by decide +kernel)⟩
def lw_privs_18 : List (MethodName × Nat) := [(⟨"PathProverModel", "showPath", "(LPathProverModel$Node;LPathProverModel$Instance;)Z"⟩, 57), (⟨"PathProverModel", "firstOf", "(LPathProverModel$Bits;)I"⟩, 57), (⟨"PathProverModel", "measure", "(LPathProverModel$Bits;LPathProverModel$Bits;)V"⟩, 57), (⟨"PathProverModel", "nearest", "(ILPathProverModel$Bits;)I"⟩, 57), (⟨"PathProverModel", "tell", "(I)V"⟩, 57), (⟨"PathProverModel", "step", "(IILPathProverModel$Bits;)I"⟩, 57), (⟨"PathProverModel", "follow", "(I)I"⟩, 57), (⟨"PathProverModel", "showLoop", "(LPathProverModel$Node;LPathProverModel$Instance;)Z"⟩, 57), (⟨"PathProverModel", "walk", "(ILPathProverModel$Bits;LPathProverModel$Bits;)I"⟩, 57), (⟨"PathProverModel", "pathSizeBack", "(I)V"⟩, 57), (⟨"PathProverModel", "go", "(I)I"⟩, 57)]
theorem lw_r18 : ∀ q ∈ lw_privs_18, lw_okq q := List.forall_mem_cons.mpr ⟨lw_p272, List.forall_mem_cons.mpr ⟨lw_p273, List.forall_mem_cons.mpr ⟨lw_p274, List.forall_mem_cons.mpr ⟨lw_p275, List.forall_mem_cons.mpr ⟨lw_p276, List.forall_mem_cons.mpr ⟨lw_p277, List.forall_mem_cons.mpr ⟨lw_p278, List.forall_mem_cons.mpr ⟨lw_p279, List.forall_mem_cons.mpr ⟨lw_p280, List.forall_mem_cons.mpr ⟨lw_p281, List.forall_mem_cons.mpr ⟨lw_p282, fun _ h => absurd h List.not_mem_nil⟩⟩⟩⟩⟩⟩⟩⟩⟩⟩⟩
def lw_privs : List (MethodName × Nat) := lw_privs_1 ++ (lw_privs_2 ++ (lw_privs_3 ++ (lw_privs_4 ++ (lw_privs_5 ++ (lw_privs_6 ++ (lw_privs_7 ++ (lw_privs_8 ++ (lw_privs_9 ++ (lw_privs_10 ++ (lw_privs_11 ++ (lw_privs_12 ++ (lw_privs_13 ++ (lw_privs_14 ++ (lw_privs_15 ++ (lw_privs_16 ++ (lw_privs_17 ++ (lw_privs_18)))))))))))))))))
def lw_tbl : List Cond := k2_sels lw_privs ++ tables_1
theorem lw_privs_ok : ∀ q ∈ lw_privs, lw_okq q := by
  show ∀ q ∈ lw_privs_1 ++ (lw_privs_2 ++ (lw_privs_3 ++ (lw_privs_4 ++ (lw_privs_5 ++ (lw_privs_6 ++ (lw_privs_7 ++ (lw_privs_8 ++ (lw_privs_9 ++ (lw_privs_10 ++ (lw_privs_11 ++ (lw_privs_12 ++ (lw_privs_13 ++ (lw_privs_14 ++ (lw_privs_15 ++ (lw_privs_16 ++ (lw_privs_17 ++ (lw_privs_18))))))))))))))))), lw_okq q
  exact List.forall_mem_append.mpr ⟨lw_r1, List.forall_mem_append.mpr ⟨lw_r2, List.forall_mem_append.mpr ⟨lw_r3, List.forall_mem_append.mpr ⟨lw_r4, List.forall_mem_append.mpr ⟨lw_r5, List.forall_mem_append.mpr ⟨lw_r6, List.forall_mem_append.mpr ⟨lw_r7, List.forall_mem_append.mpr ⟨lw_r8, List.forall_mem_append.mpr ⟨lw_r9, List.forall_mem_append.mpr ⟨lw_r10, List.forall_mem_append.mpr ⟨lw_r11, List.forall_mem_append.mpr ⟨lw_r12, List.forall_mem_append.mpr ⟨lw_r13, List.forall_mem_append.mpr ⟨lw_r14, List.forall_mem_append.mpr ⟨lw_r15, List.forall_mem_append.mpr ⟨lw_r16, List.forall_mem_append.mpr ⟨lw_r17, lw_r18⟩⟩⟩⟩⟩⟩⟩⟩⟩⟩⟩⟩⟩⟩⟩⟩⟩
-- ===== end of PART A; then your names; then what follows =====
end
section
/-! AN EVALUATOR of bytecode over known worlds: values that are known, or bounded; cells by their places in a list. What it answers holds of the machine (the parts behind this one). -/
/-- a value: known ('.ref k': the cell at place k of the world; '.retAddr j': the outer object j), or 'some reference', or an int between two bounds -/
abbrev ev_V : Type := Value ⊕ Option (Int × Int)
/-- a cell: an object (its class's number, its fields), or an array (its type's number, its length, what it holds where nothing was written, what was written) -/
abbrev ev_C : Type := (Nat × List ev_V) ⊕ (Nat × Nat × ev_V × List (Nat × ev_V))
/-- a frame: where, locals, operand stack, world, cells and slots made -/
abbrev ev_F : Type := Nat × List (Nat × ev_V) × List ev_V × List ev_C × Nat × Nat
/-- an instruction: where, what, its operands resolved -/
abbrev ev_I : Type := Nat × Instr × List Nat
/-- a method's end: what it returned, or the class of what it threw; the world; cells and slots made -/
abbrev ev_R : Type := (Option ev_V ⊕ Nat) × List ev_C × Nat × Nat
def ev_look {α : Type} : List (Nat × α) → Nat → Option α
  | [], _ => none
  | (i, v) :: t, k => bif Nat.beq i k then some v else ev_look t k
def ev_del {α : Type} : List (Nat × α) → Nat → List (Nat × α)
  | [], _ => []
  | (i, v) :: t, k => bif Nat.beq i k then ev_del t k else (i, v) :: ev_del t k
def ev_int : ev_V → Option Int32
  | .inl (.int x) => some x
  | _ => none
def ev_isI : ev_V → Bool
  | .inl (.int _) => true
  | .inr (some _) => true
  | _ => false
def ev_isR : ev_V → Bool
  | .inl (.ref _) => true
  | .inl (.retAddr _) => true
  | .inl .null => true
  | .inr none => true
  | _ => false
def ev_c1 : ev_V → Bool
  | .inl (.long _) => false
  | .inl (.double _) => false
  | _ => true
def ev_top : ev_V := .inr (some (-2147483648, 2147483647))
def ev_op2 (f : Int32 → Int32 → Int32) (a b : ev_V) : Option ev_V :=
  match ev_int a, ev_int b with
  | some x, some y => some (.inl (.int (f x y)))
  | _, _ => bif ev_isI a && ev_isI b then some ev_top else none
def ev_op1 (f : Int32 → Int32) (a : ev_V) : Option ev_V :=
  match ev_int a with
  | some x => some (.inl (.int (f x)))
  | none => bif ev_isI a then some ev_top else none
def ev_bnd : ev_V → Option (Int × Int)
  | .inl (.int x) => some (x.toInt, x.toInt)
  | .inr (some b) => some b
  | _ => none
def ev_lt (a b : ev_V) : Option Bool :=
  match ev_bnd a, ev_bnd b with
  | some (al, ah), some (bl, bh) => bif decide (ah < bl) then some true else bif decide (bh ≤ al) then some false else none
  | _, _ => none
def ev_eq (a b : ev_V) : Option Bool :=
  match ev_bnd a, ev_bnd b with
  | some (al, ah), some (bl, bh) => bif decide (ah < bl) then some false else bif decide (bh < al) then some false else bif decide (al = ah) && decide (bl = bh) && decide (al = bl) then some true else none
  | _, _ => none
def ev_not : Option Bool → Option Bool
  | some true => some false
  | some false => some true
  | none => none
def ev_cond (k : ClassFile.Cond) (a b : ev_V) : Option Bool :=
  match k with
  | .eq => ev_eq a b
  | .ne => ev_not (ev_eq a b)
  | .lt => ev_lt a b
  | .ge => ev_not (ev_lt a b)
  | .gt => ev_lt b a
  | .le => ev_not (ev_lt b a)
def ev_zero : ev_V := .inl (.int 0)
def ev_at (d : ev_V) (wr : List (Nat × ev_V)) (i : Nat) : ev_V := (ev_look wr i).getD d
/-- an index that is known and in range -/
def ev_ix (n : Nat) (x : ev_V) : Option Nat :=
  match ev_int x with
  | some i => bif decide (i < 0) then none else bif Nat.ble n i.toNatClampNeg then none else some i.toNatClampNeg
  | none => none
/-- going on behind a step -/
def ev_go (t : Option Bool) (tgt next : Nat) : Option Nat :=
  match t with
  | some true => some tgt
  | some false => some next
  | none => none
/-- is it 0 or 1, and known -/
def ev_bit : ev_V → Bool
  | .inl (.int x) => decide (x = 0) || decide (x = 1)
  | _ => false
/-- may it be put into a field of this kind: 0 an int, 1 a boolean, 2 a reference -/
def ev_fit (tc : Nat) (v : ev_V) : Bool :=
  match tc with
  | 0 => ev_isI v
  | 1 => ev_bit v
  | 2 => ev_isR v
  | _ => false
def ev_byte (v : ev_V) : ev_V :=
  match ev_int v with
  | some x => .inl (.int (vp_nar .byte x))
  | none => ev_top
/-- what an array of a type holds at first: 0 int, 1 byte, 2 long, else references -/
def ev_dflt : Nat → ev_V
  | 0 => ev_zero
  | 1 => ev_zero
  | 2 => .inl (.long 0)
  | _ => .inl .null
def ev_bytes : Nat → Nat
  | 0 => 4
  | 1 => 1
  | 2 => 8
  | _ => 4
/-- a new array -/
def ev_newarr (t len : Nat) (f : ev_F) : Option ev_F :=
  match f with
  | (pc, L, x :: S, w, c, n) =>
    match ev_int x with
    | some i => bif decide (i < 0) then none else bif Nat.ble (i.toNatClampNeg * ev_bytes t) 536870912 then some (pc + len, L, .inl (.ref w.length) :: S, w ++ [.inr (t, i.toNatClampNeg, ev_dflt t, [])], c + 1, n + i.toNatClampNeg) else none
    | none => none
  | _ => none
def ev_load (chk : ev_V → Bool) (i len : Nat) (f : ev_F) : Option ev_F :=
  match f with
  | (pc, L, S, w, c, n) =>
    match ev_look L i with
    | some v => bif chk v then some (pc + len, L, v :: S, w, c, n) else none
    | none => none
def ev_store (chk : ev_V → Bool) (nL i len : Nat) (f : ev_F) : Option ev_F :=
  match f with
  | (pc, L, v :: S, w, c, n) => bif chk v && Nat.blt i nL then some (pc + len, (i, v) :: ev_del L i, S, w, c, n) else none
  | _ => none
def ev_bin (g : Int32 → Int32 → Int32) (f : ev_F) : Option ev_F :=
  match f with
  | (pc, L, b :: a :: S, w, c, n) =>
    match ev_op2 g a b with
    | some r => some (pc + 1, L, r :: S, w, c, n)
    | none => none
  | _ => none
def ev_un (g : Int32 → Int32) (f : ev_F) : Option ev_F :=
  match f with
  | (pc, L, a :: S, w, c, n) =>
    match ev_op1 g a with
    | some r => some (pc + 1, L, r :: S, w, c, n)
    | none => none
  | _ => none
def ev_jump (k : ClassFile.Cond) (two : Bool) (ops : List Nat) (f : ev_F) : Option ev_F :=
  match ops with
  | [tgt] =>
    match two, f with
    | true, (pc, L, b :: a :: S, w, c, n) =>
      match ev_go (ev_cond k a b) tgt (pc + 3) with
      | some q => some (q, L, S, w, c, n)
      | none => none
    | false, (pc, L, a :: S, w, c, n) =>
      match ev_go (ev_cond k a ev_zero) tgt (pc + 3) with
      | some q => some (q, L, S, w, c, n)
      | none => none
    | _, _ => none
  | _ => none
/-- is it null: known -/
def ev_null : ev_V → Option Bool
  | .inl .null => some true
  | .inl (.ref _) => some false
  | .inl (.retAddr _) => some false
  | .inr none => some false
  | _ => none
def ev_jnull (want : Bool) (ops : List Nat) (f : ev_F) : Option ev_F :=
  match ops, f with
  | [tgt], (pc, L, a :: S, w, c, n) =>
    match ev_null a with
    | some b => some (bif b == want then tgt else pc + 3, L, S, w, c, n)
    | none => none
  | _, _ => none
def ev_getf (jk : Nat) (ops : List Nat) (f : ev_F) : Option ev_F :=
  match f with
  | (pc, L, o :: S, w, c, n) =>
    match ops, o with
    | [_, _, ci, k], .inl (.ref q) =>
      match w[q]? with
      | some (.inl (cj, fs)) =>
        bif Nat.beq ci cj then
          match fs[k]? with
          | some v => some (pc + 3, L, v :: S, w, c, n)
          | none => none
        else none
      | _ => none
    | [_, fno], .inl (.retAddr j) =>
      bif Nat.beq j jk then
        bif Nat.beq fno 0 then some (pc + 3, L, .inl (.retAddr 1000) :: S, w, c, n)
        else bif Nat.beq fno 1 then some (pc + 3, L, ev_zero :: S, w, c, n) else none
      else none
    | _, _ => none
  | _ => none
def ev_putf (ops : List Nat) (f : ev_F) : Option ev_F :=
  match f, ops with
  | (pc, L, v :: .inl (.ref q) :: S, w, c, n), [_, _, ci, k, tc] =>
    match w[q]? with
    | some (.inl (cj, fs)) => bif Nat.beq ci cj && ev_fit tc v && Nat.blt k fs.length then some (pc + 3, L, S, w.set q (.inl (cj, fs.set k v)), c, n) else none
    | _ => none
  | _, _ => none
def ev_alen (kb : List Int32) (sc : List ev_V) (f : ev_F) : Option ev_F :=
  match f with
  | (pc, L, .inl (.ref q) :: S, w, c, n) =>
    match w[q]? with
    | some (.inr (_, N, _, _)) => some (pc + 1, L, .inl (.int (Int32.ofNat N)) :: S, w, c, n)
    | _ => none
  | (pc, L, .inl (.retAddr j) :: S, w, c, n) =>
    bif Nat.beq j 1000 then some (pc + 1, L, .inl (.int (Int32.ofNat kb.length)) :: S, w, c, n)
    else bif Nat.beq j 2000 then some (pc + 1, L, .inl (.int (Int32.ofNat sc.length)) :: S, w, c, n) else none
  | _ => none
/-- a load from an array of type t -/
def ev_ald (t : Nat) (kb : List Int32) (sc : List ev_V) (f : ev_F) : Option ev_F :=
  match f with
  | (pc, L, x :: .inl (.ref q) :: S, w, c, n) =>
    match w[q]? with
    | some (.inr (u, N, d, wr)) =>
      bif Nat.beq t u then
        match ev_ix N x with
        | some i => some (pc + 1, L, ev_at d wr i :: S, w, c, n)
        | none => none
      else none
    | _ => none
  | (pc, L, x :: .inl (.retAddr j) :: S, w, c, n) =>
    bif Nat.beq j 1000 && Nat.beq t 1 then
      match ev_ix kb.length x with
      | some i => some (pc + 1, L, .inl (.int (kb.getD i 0)) :: S, w, c, n)
      | none => none
    else bif Nat.beq j 2000 && Nat.beq t 0 then
      match ev_ix sc.length x with
      | some i =>
        match sc[i]? with
        | some v => bif ev_isI v then some (pc + 1, L, v :: S, w, c, n) else none
        | none => none
      | none => none
    else none
  | _ => none
/-- what a store into an array of type t leaves there -/
def ev_put (t : Nat) (v : ev_V) : Option ev_V :=
  match t with
  | 0 => bif ev_isI v then some v else none
  | 1 => bif ev_isI v then some (ev_byte v) else none
  | 2 => match v with
    | .inl (.long x) => some (.inl (.long x))
    | _ => none
  | 3 => match v with
    | .inl (.retAddr j) => bif Nat.blt j 900 then some v else none
    | _ => none
  | _ => none
def ev_ast (t : Nat) (f : ev_F) : Option ev_F :=
  match f with
  | (pc, L, v :: x :: .inl (.ref q) :: S, w, c, n) =>
    match w[q]? with
    | some (.inr (u, N, d, wr)) =>
      bif Nat.beq t u then
        match ev_ix N x, ev_put t v with
        | some i, some r => some (pc + 1, L, S, w.set q (.inr (u, N, d, (i, r) :: wr)), c, n)
        | _, _ => none
      else none
    | _ => none
  | _ => none
/-- every instruction that is no call, no end -/
def ev_step (fds : List (List ev_V)) (jk : Nat) (kb : List Int32) (sc : List ev_V) (nL : Nat) (ins : Instr) (ops : List Nat) (f : ev_F) : Option ev_F :=
  match ins with
  | .iconst i => match f with
    | (pc, L, S, w, c, n) => some (pc + 1, L, .inl (.int (Int32.ofInt i)) :: S, w, c, n)
  | .bipush i => match f with
    | (pc, L, S, w, c, n) => some (pc + 2, L, .inl (.int (Int8.ofInt i).toInt32) :: S, w, c, n)
  | .sipush i => match f with
    | (pc, L, S, w, c, n) => some (pc + 3, L, .inl (.int (Int16.ofInt i).toInt32) :: S, w, c, n)
  | .ldc _ => match f, ops with
    | (pc, L, S, w, c, n), [_, v] => some (pc + 2, L, .inl (.int (Int32.ofNat v)) :: S, w, c, n)
    | (pc, L, S, w, c, n), [_, _, j] => some (pc + 2, L, .inl (.retAddr j) :: S, w, c, n)
    | _, _ => none
  | .aconst_null => match f with
    | (pc, L, S, w, c, n) => some (pc + 1, L, .inl .null :: S, w, c, n)
  | .iload_n k => ev_load ev_isI k.val 1 f
  | .iload k => ev_load ev_isI k 2 f
  | .aload_n k => ev_load ev_isR k.val 1 f
  | .aload k => ev_load ev_isR k 2 f
  | .istore_n k => ev_store ev_isI nL k.val 1 f
  | .istore k => ev_store ev_isI nL k 2 f
  | .astore_n k => ev_store ev_isR nL k.val 1 f
  | .astore k => ev_store ev_isR nL k 2 f
  | .iinc k d => match f with
    | (pc, L, S, w, c, n) =>
      match ev_look L k with
      | some v =>
        match ev_op1 (fun x => x + Int32.ofInt d) v with
        | some r => bif Nat.blt k nL then some (pc + 3, (k, r) :: ev_del L k, S, w, c, n) else none
        | none => none
      | none => none
  | .dup => match f with
    | (pc, L, a :: S, w, c, n) => bif ev_c1 a then some (pc + 1, L, a :: a :: S, w, c, n) else none
    | _ => none
  | .dup_x1 => match f with
    | (pc, L, a :: b :: S, w, c, n) => bif ev_c1 a && ev_c1 b then some (pc + 1, L, a :: b :: a :: S, w, c, n) else none
    | _ => none
  | .pop => match f with
    | (pc, L, a :: S, w, c, n) => bif ev_c1 a then some (pc + 1, L, S, w, c, n) else none
    | _ => none
  | .iadd => ev_bin (fun x y => x + y) f
  | .isub => ev_bin (fun x y => x - y) f
  | .imul => ev_bin (fun x y => x * y) f
  | .iand => ev_bin (fun x y => x &&& y) f
  | .ixor => ev_bin (fun x y => x ^^^ y) f
  | .ishr => ev_bin (fun x y => x >>> (y &&& 31)) f
  | .iushr => ev_bin (fun x y => (x.toUInt32 >>> (y.toUInt32 &&& Int32.toUInt32 31)).toInt32) f
  | .irem => match f with
    | (pc, L, .inl (.int y) :: .inl (.int x) :: S, w, c, n) => bif decide (y = 0) then none else some (pc + 1, L, .inl (.int (x - x / y * y)) :: S, w, c, n)
    | _ => none
  | .i2b => ev_un (fun x => x.toInt8.toInt32) f
  | .i2c => ev_un (fun x => (x.toUInt32 % 65536).toInt32) f
  | .i2l => match f with
    | (pc, L, .inl (.int x) :: S, w, c, n) => some (pc + 1, L, .inl (.long x.toInt64) :: S, w, c, n)
    | _ => none
  | .lcmp => match f with
    | (pc, L, .inl (.long y) :: .inl (.long x) :: S, w, c, n) => some (pc + 1, L, .inl (.int (lg_cmp x y)) :: S, w, c, n)
    | _ => none
  | .goto _ => match f, ops with
    | (_, L, S, w, c, n), [tgt] => some (tgt, L, S, w, c, n)
    | _, _ => none
  | .if_icmp k _ => ev_jump k true ops f
  | .ifCond k _ => ev_jump k false ops f
  | .ifnull _ => ev_jnull true ops f
  | .ifnonnull _ => ev_jnull false ops f
  | .tableswitch _ lo hi _ => match f, ops with
    | (_, L, .inl (.int x) :: S, w, c, n), d :: ts =>
      bif decide (x.toInt < lo) then some (d, L, S, w, c, n)
      else bif decide (hi < x.toInt) then some (d, L, S, w, c, n)
      else match ts[(x.toInt - lo).toNat]? with
        | some t => some (t, L, S, w, c, n)
        | none => none
    | _, _ => none
  | .arraylength => ev_alen kb sc f
  | .iaload => ev_ald 0 kb sc f
  | .baload => ev_ald 1 kb sc f
  | .laload => ev_ald 2 kb sc f
  | .iastore => ev_ast 0 f
  | .bastore => ev_ast 1 f
  | .lastore => ev_ast 2 f
  | .aastore => ev_ast 3 f
  | .newarray _ => match ops with
    | [t] => bif Nat.blt t 3 then ev_newarr t 2 f else none
    | _ => none
  | .anewarray _ => match ops with
    | [_, t, _] => bif Nat.blt 2 t then ev_newarr t 3 f else none
    | _ => none
  | .new _ => match f, ops with
    | (pc, L, S, w, c, n), [_, _, _, ci] =>
      match fds[ci]? with
      | some fs => some (pc + 3, L, .inl (.ref w.length) :: S, w ++ [.inl (ci, fs)], c + 1, n + fs.length)
      | none => none
    | _, _ => none
  | .getfield _ => ev_getf jk ops f
  | .putfield _ => ev_putf ops f
  | .getstatic _ => match f, ops with
    | (pc, L, S, w, c, n), [_] => some (pc + 3, L, .inl (.int 1) :: S, w, c, n)
    | _, _ => none
  | _ => none
end
section
/-! What a value, a stack, locals, a cell, a world of the evaluator stand for. al: the addresses of the world's cells; ex: those of the outer objects -/
def ev_rel (al : List Nat) (ex : Nat → Nat) (x : ev_V) (v : Value) : Prop :=
  match x with
  | .inl (.ref k) => ∃ a, al[k]? = some a ∧ v = .ref a
  | .inl (.retAddr j) => v = .ref (ex j)
  | .inl w => v = w
  | .inr none => ∃ a, v = .ref a
  | .inr (some b) => ∃ x : Int32, v = .int x ∧ b.1 ≤ x.toInt ∧ x.toInt ≤ b.2
def ev_st (al : List Nat) (ex : Nat → Nat) : List ev_V → List Value → Prop
  | [], [] => True
  | x :: S, v :: st => ev_rel al ex x v ∧ ev_st al ex S st
  | _, _ => False
def ev_lv (al : List Nat) (ex : Nat → Nat) : List (Nat × ev_V) → List (Nat × Value) → Prop
  | [], [] => True
  | x :: L, v :: lv => x.1 = v.1 ∧ v.2.category = 1 ∧ ev_rel al ex x.2 v.2 ∧ ev_lv al ex L lv
  | _, _ => False
def ev_arr (al : List Nat) (ex : Nat → Nat) (cA : ClassId) (t n : Nat) (d : ev_V) (wr : List (Nat × ev_V)) (E : va_E) : Prop :=
  match t with
  | 0 => ∃ f : Nat → Int32, E = .inl (cA, n, .inl f) ∧ ∀ i, i < n → ev_rel al ex (ev_at d wr i) (.int (f i))
  | 1 => ∃ f : Nat → Int32, E = .inl (cA, n, .inl f) ∧ ∀ i, i < n → ev_rel al ex (ev_at d wr i) (.int (f i))
  | 2 => ∃ f : Nat → Int64, E = .inl (cA, n, .inr (.inl f)) ∧ ∀ i, i < n → ev_rel al ex (ev_at d wr i) (.long (f i))
  | _ => ∃ f : Nat → Option Nat, E = .inl (cA, n, .inr (.inr (.inr (.inr f)))) ∧ ∀ i, i < n → ev_rel al ex (ev_at d wr i) (va_rf (f i))
def ev_cell (al : List Nat) (ex : Nat → Nat) (tys : List (ClassId × FieldType)) (x : ev_C) (E : va_E) : Prop :=
  match x with
  | .inl (ci, fs) => ∃ vs, E = .inr (ci, vs) ∧ ev_st al ex fs vs
  | .inr (t, n, d, wr) => ∃ (cA : ClassId) (ty : FieldType), tys[t]? = some (cA, ty) ∧ ev_arr al ex cA t n d wr E
def ev_w (al : List Nat) (ex : Nat → Nat) (tys : List (ClassId × FieldType)) (w : List ev_C) (ws : va_W) : Prop :=
  ws.map Prod.fst = al ∧ w.length = ws.length ∧ ∀ (k : Nat) (x : ev_C), w[k]? = some x → ∃ (a : Nat) (E : va_E), al[k]? = some a ∧ ws[k]? = some (a, E) ∧ ev_cell al ex tys x E
section EvPure
variable {al al' : List Nat} {ex : Nat → Nat} {tys : List (ClassId × FieldType)}
theorem ev_rel.mono (h : al <+: al') {x : ev_V} {v : Value} (hr : ev_rel al ex x v) : ev_rel al' ex x v := by
  obtain ⟨t, rfl⟩ := h
  rcases x with (w | b)
  · cases w with
    | ref k =>
      obtain ⟨a, h1, h2⟩ := hr
      refine ⟨a, ?_, h2⟩
      have hk : k < al.length := (List.getElem?_eq_some_iff.mp h1).1
      rw [List.getElem?_append_left hk]
      exact h1
    | _ => exact hr
  · cases b with
    | none => exact hr
    | some b => exact hr
theorem ev_st.mono (h : al <+: al') : ∀ {S : List ev_V} {st : List Value}, ev_st al ex S st → ev_st al' ex S st
  | [], [], _ => trivial
  | _ :: _, _ :: _, hs => ⟨ev_rel.mono h hs.1, ev_st.mono h hs.2⟩
  | [], _ :: _, hs => hs.elim
  | _ :: _, [], hs => hs.elim
theorem ev_lv.mono (h : al <+: al') : ∀ {S : List (Nat × ev_V)} {st : List (Nat × Value)}, ev_lv al ex S st → ev_lv al' ex S st
  | [], [], _ => trivial
  | _ :: _, _ :: _, hs => ⟨hs.1, hs.2.1, ev_rel.mono h hs.2.2.1, ev_lv.mono h hs.2.2.2⟩
  | [], _ :: _, hs => hs.elim
  | _ :: _, [], hs => hs.elim
theorem ev_arr.mono (h : al <+: al') {cA : ClassId} {t n : Nat} {d : ev_V} {wr : List (Nat × ev_V)} {E : va_E} (hs : ev_arr al ex cA t n d wr E) : ev_arr al' ex cA t n d wr E := by
  unfold ev_arr at hs ⊢
  split at hs
  all_goals (obtain ⟨f, e, k⟩ := hs; exact ⟨f, e, fun i hi => ev_rel.mono h (k i hi)⟩)
theorem ev_cell.mono (h : al <+: al') {x : ev_C} {E : va_E} (hs : ev_cell al ex tys x E) : ev_cell al' ex tys x E := by
  rcases x with (⟨ci, fs⟩ | ⟨t, n, d, wr⟩)
  · obtain ⟨vs, e, k⟩ := hs
    exact ⟨vs, e, ev_st.mono h k⟩
  · obtain ⟨cA, ty, e, k⟩ := hs
    exact ⟨cA, ty, e, ev_arr.mono h k⟩
theorem ev_st_cons {x : ev_V} {S : List ev_V} {st : List Value} (h : ev_st al ex (x :: S) st) : ∃ (v : Value) (st' : List Value), st = v :: st' ∧ ev_rel al ex x v ∧ ev_st al ex S st' := by
  cases st with
  | nil => exact h.elim
  | cons v st' => exact ⟨v, st', rfl, h.1, h.2⟩
theorem ev_st_len : ∀ {S : List ev_V} {st : List Value}, ev_st al ex S st → S.length = st.length
  | [], [], _ => rfl
  | _ :: _, _ :: _, hs => by simp [ev_st_len hs.2]
  | [], _ :: _, hs => hs.elim
  | _ :: _, [], hs => hs.elim
theorem ev_st_get : ∀ {S : List ev_V} {st : List Value}, ev_st al ex S st → ∀ {k : Nat} {x : ev_V}, S[k]? = some x → ∃ v, st[k]? = some v ∧ ev_rel al ex x v
  | [], _, _, k, x, hk => by simp at hk
  | x0 :: S, v :: st, hs, 0, x, hk => by
    simp at hk
    subst hk
    exact ⟨v, by simp, hs.1⟩
  | _ :: S, v :: st, hs, k + 1, x, hk => by
    simp at hk
    obtain ⟨v', h1, h2⟩ := ev_st_get hs.2 hk
    exact ⟨v', by simpa using h1, h2⟩
  | _ :: _, [], hs, _, _, _ => hs.elim
theorem ev_st_set : ∀ {S : List ev_V} {st : List Value}, ev_st al ex S st → ∀ (k : Nat) {x : ev_V} {v : Value}, ev_rel al ex x v → ev_st al ex (S.set k x) (st.set k v)
  | [], [], _, k, x, v, _ => by simp [ev_st]
  | x0 :: S, v0 :: st, hs, 0, x, v, h => ⟨h, hs.2⟩
  | x0 :: S, v0 :: st, hs, k + 1, x, v, h => ⟨hs.1, ev_st_set hs.2 k h⟩
  | [], _ :: _, hs, _, _, _, _ => hs.elim
  | _ :: _, [], hs, _, _, _, _ => hs.elim
theorem ev_st_app : ∀ {S T : List ev_V} {st tt : List Value}, ev_st al ex S st → ev_st al ex T tt → ev_st al ex (S ++ T) (st ++ tt)
  | [], _, [], _, _, h => h
  | _ :: _, _, _ :: _, _, hs, h => ⟨hs.1, ev_st_app hs.2 h⟩
  | [], _, _ :: _, _, hs, _ => hs.elim
  | _ :: _, _, [], _, hs, _ => hs.elim
theorem ev_st_split : ∀ {S T : List ev_V} {st : List Value}, ev_st al ex (S ++ T) st → ∃ s1 s2, st = s1 ++ s2 ∧ ev_st al ex S s1 ∧ ev_st al ex T s2
  | [], _, st, h => ⟨[], st, rfl, trivial, h⟩
  | x :: S, T, st, h => by
    obtain ⟨v, st', rfl, h1, h2⟩ := ev_st_cons (S := S ++ T) h
    obtain ⟨s1, s2, rfl, h3, h4⟩ := ev_st_split h2
    exact ⟨v :: s1, s2, rfl, ⟨h1, h3⟩, h4⟩
theorem ev_st_rev {S : List ev_V} {st : List Value} (h : ev_st al ex S st) : ev_st al ex S.reverse st.reverse := by
  induction S generalizing st with
  | nil =>
    cases st with
    | nil => trivial
    | cons v st => exact h.elim
  | cons x S ih =>
    obtain ⟨v, st', rfl, h1, h2⟩ := ev_st_cons h
    rw [List.reverse_cons, List.reverse_cons]
    exact ev_st_app (ih h2) ⟨h1, trivial⟩
theorem ev_rel_I {x : ev_V} {v : Value} (hx : ev_isI x = true) (h : ev_rel al ex x v) : ∃ n : Int32, v = .int n := by
  rcases x with (w | b)
  · cases w <;> first | (simp [ev_isI] at hx; done) | exact ⟨_, h⟩
  · cases b with
    | none => simp [ev_isI] at hx
    | some b => exact ⟨h.choose, h.choose_spec.1⟩
theorem ev_rel_R {x : ev_V} {v : Value} (hx : ev_isR x = true) (h : ev_rel al ex x v) : v = .null ∨ ∃ a, v = .ref a := by
  rcases x with (w | b)
  · cases w with
    | ref k => obtain ⟨a, -, h⟩ := h; exact Or.inr ⟨a, h⟩
    | retAddr j => exact Or.inr ⟨_, h⟩
    | null => exact Or.inl h
    | _ => simp [ev_isR] at hx
  · cases b with
    | none => exact Or.inr h
    | some b => simp [ev_isR] at hx
theorem ev_rel_c1 {x : ev_V} {v : Value} (hx : ev_c1 x = true) (h : ev_rel al ex x v) : v.category = 1 := by
  rcases x with (w | b)
  · cases w with
    | ref k => obtain ⟨a, -, h⟩ := h; subst h; rfl
    | retAddr j => have h : v = .ref (ex j) := h; subst h; rfl
    | long z => simp [ev_c1] at hx
    | double z => simp [ev_c1] at hx
    | int z => have h : v = .int z := h; subst h; rfl
    | float z => have h : v = .float z := h; subst h; rfl
    | null => have h : v = .null := h; subst h; rfl
  · cases b with
    | none => obtain ⟨a, rfl⟩ := h; rfl
    | some b => obtain ⟨z, rfl, -⟩ := h; rfl
theorem ev_int_some {x : ev_V} {n : Int32} (h : ev_int x = some n) : x = .inl (.int n) := by
  rcases x with (w | b)
  · cases w <;> simp [ev_int] at h
    subst h; rfl
  · cases b <;> simp [ev_int] at h
theorem ev_isI_int {x : ev_V} {n : Int32} (h : ev_int x = some n) : ev_isI x = true := by
  rw [ev_int_some h]; rfl
theorem ev_top_rel (n : Int32) : ev_rel al ex ev_top (.int n) := by
  have h1 := Int32.le_toInt n
  have h2 := Int32.toInt_lt n
  refine ⟨n, rfl, ?_, ?_⟩
  · show (-2147483648 : Int) ≤ n.toInt
    omega
  · show n.toInt ≤ (2147483647 : Int)
    omega
theorem ev_op2_rel {g : Int32 → Int32 → Int32} {a b r : ev_V} {va vb : Value} (h : ev_op2 g a b = some r) (ha : ev_rel al ex a va) (hb : ev_rel al ex b vb) : ∃ x y : Int32, va = .int x ∧ vb = .int y ∧ ev_rel al ex r (.int (g x y)) := by
  unfold ev_op2 at h
  split at h
  · rename_i x y h1 h2
    rw [ev_int_some h1] at ha
    rw [ev_int_some h2] at hb
    cases h
    exact ⟨x, y, ha, hb, rfl⟩
  · cases h1 : (ev_isI a && ev_isI b) with
    | false => rw [h1] at h; cases h
    | true =>
      rw [h1] at h
      cases h
      simp only [Bool.and_eq_true] at h1
      obtain ⟨x, rfl⟩ := ev_rel_I h1.1 ha
      obtain ⟨y, rfl⟩ := ev_rel_I h1.2 hb
      exact ⟨x, y, rfl, rfl, ev_top_rel _⟩
theorem ev_op1_rel {g : Int32 → Int32} {a r : ev_V} {va : Value} (h : ev_op1 g a = some r) (ha : ev_rel al ex a va) : ∃ x : Int32, va = .int x ∧ ev_rel al ex r (.int (g x)) := by
  unfold ev_op1 at h
  split at h
  · rename_i x h1
    rw [ev_int_some h1] at ha
    cases h
    exact ⟨x, ha, rfl⟩
  · cases h1 : ev_isI a with
    | false => rw [h1] at h; cases h
    | true =>
      rw [h1] at h
      cases h
      obtain ⟨x, rfl⟩ := ev_rel_I h1 ha
      exact ⟨x, rfl, ev_top_rel _⟩
theorem ev_bnd_rel {a : ev_V} {b : Int × Int} {x : Int32} (h : ev_bnd a = some b) (ha : ev_rel al ex a (.int x)) : b.1 ≤ x.toInt ∧ x.toInt ≤ b.2 := by
  rcases a with (w | o)
  · cases w <;> simp [ev_bnd] at h
    have e : (Value.int x) = .int _ := ha
    cases e
    subst h
    exact ⟨Int.le_refl _, Int.le_refl _⟩
  · cases o with
    | none => simp [ev_bnd] at h
    | some o =>
      simp [ev_bnd] at h
      subst h
      obtain ⟨z, e, h1, h2⟩ := ha
      cases e
      exact ⟨h1, h2⟩
theorem ev_bnd_int {a : ev_V} {b : Int × Int} {v : Value} (h : ev_bnd a = some b) (ha : ev_rel al ex a v) : ∃ x : Int32, v = .int x := by
  rcases a with (w | o)
  · cases w <;> simp [ev_bnd] at h
    exact ⟨_, ha⟩
  · cases o with
    | none => simp [ev_bnd] at h
    | some o => exact ⟨ha.choose, ha.choose_spec.1⟩
theorem ev_bif {α : Type} {b : Bool} {x y : α} (h : (bif b then some x else none) = some y) : b = true ∧ x = y := by
  cases b with
  | false => cases h
  | true => cases h; exact ⟨rfl, rfl⟩
theorem ev_lt_rel {a b : ev_V} {t : Bool} {va vb : Value} (h : ev_lt a b = some t) (ha : ev_rel al ex a va) (hb : ev_rel al ex b vb) : ∃ x y : Int32, va = .int x ∧ vb = .int y ∧ (t = true → x < y) ∧ (t = false → ¬ x < y) := by
  unfold ev_lt at h
  split at h
  · rename_i al1 ah1 bl1 bh1 h1 h2
    obtain ⟨x, rfl⟩ := ev_bnd_int h1 ha
    obtain ⟨y, rfl⟩ := ev_bnd_int h2 hb
    have k1 := ev_bnd_rel h1 ha
    have k2 := ev_bnd_rel h2 hb
    dsimp only at k1 k2
    refine ⟨x, y, rfl, rfl, fun e => ?_, fun e => ?_⟩
    · subst e
      rw [Int32.lt_iff_toInt_lt]
      by_cases q : ah1 < bl1
      · omega
      · by_cases q2 : bh1 ≤ al1 <;> simp [q, q2] at h
    · subst e
      rw [Int32.lt_iff_toInt_lt]
      by_cases q : ah1 < bl1
      · simp [q] at h
      · by_cases q2 : bh1 ≤ al1
        · omega
        · simp [q, q2] at h
  · cases h
theorem ev_eq_rel {a b : ev_V} {t : Bool} {va vb : Value} (h : ev_eq a b = some t) (ha : ev_rel al ex a va) (hb : ev_rel al ex b vb) : ∃ x y : Int32, va = .int x ∧ vb = .int y ∧ (t = true → x = y) ∧ (t = false → ¬ x = y) := by
  unfold ev_eq at h
  split at h
  · rename_i al1 ah1 bl1 bh1 h1 h2
    obtain ⟨x, rfl⟩ := ev_bnd_int h1 ha
    obtain ⟨y, rfl⟩ := ev_bnd_int h2 hb
    have k1 := ev_bnd_rel h1 ha
    have k2 := ev_bnd_rel h2 hb
    dsimp only at k1 k2
    refine ⟨x, y, rfl, rfl, fun e => ?_, fun e => ?_⟩
    · subst e
      rw [← Int32.toInt_inj]
      by_cases q : ah1 < bl1
      · simp [q] at h
      · by_cases q2 : bh1 < al1
        · simp [q, q2] at h
        · simp only [q, q2, decide_false, cond_false] at h
          have hz := (ev_bif h).1
          simp only [Bool.and_eq_true, decide_eq_true_eq] at hz
          omega
    · subst e
      rw [← Int32.toInt_inj]
      by_cases q : ah1 < bl1
      · omega
      · by_cases q2 : bh1 < al1
        · omega
        · simp only [q, q2, decide_false, cond_false] at h
          cases (ev_bif h).2
  · cases h
theorem ev_not_some {o : Option Bool} {t : Bool} (h : ev_not o = some t) : o = some (!t) := by
  cases o with
  | none => cases h
  | some b => cases b <;> cases h <;> rfl
theorem ev_lv_look : ∀ {L : List (Nat × ev_V)} {lv : List (Nat × Value)}, ev_lv al ex L lv → ∀ {i : Nat} {x : ev_V}, ev_look L i = some x → ∃ (k : Nat) (v : Value), lv[k]? = some (i, v) ∧ ev_rel al ex x v
  | [], _, _, i, x, hk => by simp [ev_look] at hk
  | (j, x0) :: L, (j', v) :: lv, hs, i, x, hk => by
    by_cases e : j = i
    · subst e
      simp [ev_look] at hk
      subst hk
      have e1 : j = j' := hs.1
      subst e1
      exact ⟨0, v, by simp, hs.2.2.1⟩
    · have e2 : Nat.beq j i = false := by
        cases hq : Nat.beq j i with
        | false => rfl
        | true => exact absurd (Nat.eq_of_beq_eq_true hq) e
      simp [ev_look, e2] at hk
      obtain ⟨k, v', h1, h2⟩ := ev_lv_look hs.2.2.2 hk
      exact ⟨k + 1, v', by simpa using h1, h2⟩
  | _ :: _, [], hs, _, _, _ => hs.elim
theorem ev_lv_del : ∀ {L : List (Nat × ev_V)} {lv : List (Nat × Value)}, ev_lv al ex L lv → ∀ (i : Nat), ev_lv al ex (ev_del L i) (lv.filter (fun q => !(q.1 == i) && !(q.1 + 1 == i && q.2.category == 2)))
  | [], [], _, i => by simp [ev_del, ev_lv]
  | (j, x0) :: L, (j', v) :: lv, hs, i => by
    have e1 : j = j' := hs.1
    subst e1
    have hc : v.category = 1 := hs.2.1
    by_cases e : j = i
    · subst e
      simp [ev_del, hc]
      have := ev_lv_del hs.2.2.2 j
      simpa using this
    · have e2 : Nat.beq j i = false := by
        cases hq : Nat.beq j i with
        | false => rfl
        | true => exact absurd (Nat.eq_of_beq_eq_true hq) e
      have := ev_lv_del hs.2.2.2 i
      simp only [ev_del, e2, cond_false]
      rw [List.filter_cons, if_pos (by simp [e, hc])]
      exact ⟨rfl, hc, hs.2.2.1, this⟩
  | [], _ :: _, hs, _ => hs.elim
  | _ :: _, [], hs, _ => hs.elim
theorem ev_ix_some {N : Nat} {x : ev_V} {i : Nat} (h : ev_ix N x = some i) : ∃ z : Int32, x = .inl (.int z) ∧ vp_in z N ∧ z.toNatClampNeg = i ∧ i < N := by
  unfold ev_ix at h
  split at h
  · rename_i z hz
    by_cases h0 : z < 0
    · simp [h0] at h
    · simp only [h0, decide_false, cond_false] at h
      cases hb : Nat.ble N z.toNatClampNeg with
      | true => rw [hb] at h; cases h
      | false =>
        rw [hb] at h
        cases h
        have hl : ¬ N ≤ z.toNatClampNeg := fun q => by rw [Nat.ble_eq_true_of_le q] at hb; cases hb
        exact ⟨z, ev_int_some hz, fun q => q.elim h0 hl, rfl, Nat.not_le.mp hl⟩
  · cases h
theorem ev_w_get {w : List ev_C} {ws : va_W} (h : ev_w al ex tys w ws) {q : Nat} {x : ev_C} (hx : w[q]? = some x) {a : Nat} (ha : al[q]? = some a) : ∃ E, ws[q]? = some (a, E) ∧ ev_cell al ex tys x E := by
  obtain ⟨a', E, h1, h2, h3⟩ := h.2.2 q x hx
  cases h1.symm.trans ha
  exact ⟨E, h2, h3⟩
theorem ev_set_self {α : Type} {l : List α} {q : Nat} {a : α} (h : l[q]? = some a) : l.set q a = l := by
  apply List.ext_getElem?
  intro i
  by_cases e : q = i
  · subst e
    rw [List.getElem?_set_self (List.getElem?_eq_some_iff.mp h).1, h]
  · rw [List.getElem?_set_ne e]
theorem ev_w_set {w : List ev_C} {ws : va_W} (h : ev_w al ex tys w ws) {q a : Nat} (ha : al[q]? = some a) {x : ev_C} {E : va_E} (hc : ev_cell al ex tys x E) : ev_w al ex tys (w.set q x) (ws.set q (a, E)) := by
  refine ⟨?_, by simp [h.2.1], fun k y hy => ?_⟩
  · rw [List.map_set, h.1]
    exact ev_set_self ha
  · by_cases e : q = k
    · subst e
      have hl : q < w.length := by
        have := (List.getElem?_eq_some_iff.mp hy).1
        simpa using this
      rw [List.getElem?_set_self hl] at hy
      cases hy
      exact ⟨a, E, ha, by rw [List.getElem?_set_self (by rw [← h.2.1]; exact hl)], hc⟩
    · rw [List.getElem?_set_ne e] at hy
      obtain ⟨a', E', h1, h2, h3⟩ := h.2.2 k y hy
      exact ⟨a', E', h1, by rw [List.getElem?_set_ne e]; exact h2, h3⟩
theorem ev_w_push {w : List ev_C} {ws : va_W} (h : ev_w al ex tys w ws) (q : Nat) {x : ev_C} {E : va_E} (hc : ev_cell (al ++ [q]) ex tys x E) : ev_w (al ++ [q]) ex tys (w ++ [x]) (ws ++ [(q, E)]) := by
  have hl : al.length = w.length := by rw [← h.1, List.length_map, h.2.1]
  refine ⟨by simp [h.1], by simp [h.2.1], fun k y hy => ?_⟩
  by_cases e : k < w.length
  · rw [List.getElem?_append_left e] at hy
    obtain ⟨a', E', h1, h2, h3⟩ := h.2.2 k y hy
    exact ⟨a', E', by rw [List.getElem?_append_left (by omega)]; exact h1, by rw [List.getElem?_append_left (by rw [← h.2.1]; exact e)]; exact h2, ev_cell.mono (List.prefix_append _ _) h3⟩
  · have hz := (List.getElem?_eq_some_iff.mp hy).1
    simp at hz
    have ek : k = w.length := by omega
    subst ek
    simp at hy
    subst hy
    refine ⟨q, E, ?_, ?_, hc⟩
    · rw [← hl]; simp
    · rw [h.2.1]; simp
end EvPure
end
section
/-! The evaluator's steps hold of the machine: 'ev_G f': from every state that the frame f stands for, the machine comes to Q -/
def ev_G (p : Program) (l : Launch) (e : Env) (R : Room) (s : State) (m : MethodId) (args : Array Value) (below : List Frame) (meth : Method) (c : Code) (Q : State → Prop) (D : va_G) (cl : List vw_C) (tys : List (ClassId × FieldType)) (A : Nat → Prop) (ex : Nat → Nat) (al0 : List Nat) (nL : Nat) (f : ev_F) : Prop :=
  ∀ (al : List Nat) (ws : va_W) (H : Heap) (locs : List Loc) (ls : Array Slot) (lv : List (Nat × Value)) (st : List Value), al0 <+: al → ev_w al ex tys f.2.2.2.1 ws → va_P D cl ws H → va_D A ws → va_S A s.heap H locs → lv_has ls nL lv → ev_lv al ex f.2.1 lv → ev_st al ex f.2.2.1 st →
    W p l e R s m args below meth c H locs f.2.2.2.2.1 f.2.2.2.2.2 Q (F0 m f.1 ls st)
section EvStep
variable {p : Program} {l : Launch} {e : Env} {R : Room} {s : State} {m : MethodId} {args : Array Value} {below : List Frame} {meth : Method} {c : Code} {Q : State → Prop} {D : va_G} {cl : List vw_C} {tys : List (ClassId × FieldType)} {A : Nat → Prop} {ex : Nat → Nat} {al0 : List Nat} {nL : Nat}
variable {pc k n : Nat} {L : List (Nat × ev_V)} {S : List ev_V} {w : List ev_C} {cc : ByteArray}
theorem es_const {x : ev_V} {v : Value} {len : Nat} (hv : ∀ al, ev_rel al ex x v)
    (row : ∀ {H : Heap} {locs : List Loc} {ls : Array Slot} {st : List Value}, W p l e R s m args below meth c H locs k n Q (F0 m (pc + len) ls (v :: st)) → W p l e R s m args below meth c H locs k n Q (F0 m pc ls st))
    (h : ev_G p l e R s m args below meth c Q D cl tys A ex al0 nL (pc + len, L, x :: S, w, k, n)) : ev_G p l e R s m args below meth c Q D cl tys A ex al0 nL (pc, L, S, w, k, n) := by
  intro al ws H locs ls lv st h1 h2 h3 h4 h5 h6 h7 h8
  exact row (h al ws H locs ls lv (v :: st) h1 h2 h3 h4 h5 h6 h7 ⟨hv al, h8⟩)
theorem es_loadI {i len : Nat} {f' : ev_F} (hf : ev_load ev_isI i len (pc, L, S, w, k, n) = some f')
    (row : ∀ {H : Heap} {locs : List Loc} {ls : Array Slot} {st : List Value} {x : Int32}, ls[i]? = some (.val (.int x)) → W p l e R s m args below meth c H locs k n Q (F0 m (pc + len) ls (.int x :: st)) → W p l e R s m args below meth c H locs k n Q (F0 m pc ls st))
    (h : ev_G p l e R s m args below meth c Q D cl tys A ex al0 nL f') : ev_G p l e R s m args below meth c Q D cl tys A ex al0 nL (pc, L, S, w, k, n) := by
  intro al ws H locs ls lv st h1 h2 h3 h4 h5 h6 h7 h8
  unfold ev_load at hf
  dsimp only at hf
  split at hf
  · rename_i x hx
    cases hi : ev_isI x with
    | false => rw [hi] at hf; cases hf
    | true =>
      rw [hi] at hf
      cases hf
      obtain ⟨q, v, g1, g2⟩ := ev_lv_look h7 hx
      obtain ⟨z, rfl⟩ := ev_rel_I hi g2
      exact row (lv_at h6 q g1) (h al ws H locs ls lv (.int z :: st) h1 h2 h3 h4 h5 h6 h7 ⟨g2, h8⟩)
  · cases hf
theorem es_loadR {i len : Nat} {f' : ev_F} (hf : ev_load ev_isR i len (pc, L, S, w, k, n) = some f')
    (row : ∀ {H : Heap} {locs : List Loc} {ls : Array Slot} {st : List Value} {x : Nat}, ls[i]? = some (.val (.ref x)) → W p l e R s m args below meth c H locs k n Q (F0 m (pc + len) ls (.ref x :: st)) → W p l e R s m args below meth c H locs k n Q (F0 m pc ls st))
    (rowN : ∀ {H : Heap} {locs : List Loc} {ls : Array Slot} {st : List Value}, ls[i]? = some (.val .null) → W p l e R s m args below meth c H locs k n Q (F0 m (pc + len) ls (.null :: st)) → W p l e R s m args below meth c H locs k n Q (F0 m pc ls st))
    (h : ev_G p l e R s m args below meth c Q D cl tys A ex al0 nL f') : ev_G p l e R s m args below meth c Q D cl tys A ex al0 nL (pc, L, S, w, k, n) := by
  intro al ws H locs ls lv st h1 h2 h3 h4 h5 h6 h7 h8
  unfold ev_load at hf
  dsimp only at hf
  split at hf
  · rename_i x hx
    cases hi : ev_isR x with
    | false => rw [hi] at hf; cases hf
    | true =>
      rw [hi] at hf
      cases hf
      obtain ⟨q, v, g1, g2⟩ := ev_lv_look h7 hx
      rcases ev_rel_R hi g2 with rfl | ⟨z, rfl⟩
      · exact rowN (lv_at h6 q g1) (h al ws H locs ls lv (.null :: st) h1 h2 h3 h4 h5 h6 h7 ⟨g2, h8⟩)
      · exact row (lv_at h6 q g1) (h al ws H locs ls lv (.ref z :: st) h1 h2 h3 h4 h5 h6 h7 ⟨g2, h8⟩)
  · cases hf
theorem es_storeI {i len : Nat} {f' : ev_F} (hf : ev_store ev_isI nL i len (pc, L, S, w, k, n) = some f')
    (row : ∀ {H : Heap} {locs : List Loc} {ls : Array Slot} {st : List Value} {lv lv' : List (Nat × Value)} {x : Int32}, lv_has ls nL lv → i < nL → (i, Value.int x) :: lv.filter (fun q => !(q.1 == i) && !(q.1 + 1 == i && q.2.category == 2)) = lv' → (∀ ls' : Array Slot, lv_has ls' nL lv' → W p l e R s m args below meth c H locs k n Q (F0 m (pc + len) ls' st)) → W p l e R s m args below meth c H locs k n Q (F0 m pc ls (.int x :: st)))
    (h : ev_G p l e R s m args below meth c Q D cl tys A ex al0 nL f') : ev_G p l e R s m args below meth c Q D cl tys A ex al0 nL (pc, L, S, w, k, n) := by
  intro al ws H locs ls lv st h1 h2 h3 h4 h5 h6 h7 h8
  unfold ev_store at hf
  split at hf
  · rename_i pc' L' v S' w' c' n' heq
    cases heq
    cases hi : (ev_isI v && Nat.blt i nL) with
    | false => rw [hi] at hf; cases hf
    | true =>
      rw [hi] at hf
      cases hf
      simp only [Bool.and_eq_true] at hi
      obtain ⟨v', st', rfl, g1, g2⟩ := ev_st_cons h8
      obtain ⟨z, rfl⟩ := ev_rel_I hi.1 g1
      have hlt : i < nL := by
        have h9 : i + 1 ≤ nL := by simpa [Nat.blt] using hi.2
        exact h9
      exact row h6 hlt rfl (fun ls' hl' => h al ws H locs ls' _ st' h1 h2 h3 h4 h5 hl' ⟨rfl, rfl, g1, ev_lv_del h7 i⟩ g2)
  · cases hf
theorem es_storeR {i len : Nat} {f' : ev_F} (hf : ev_store ev_isR nL i len (pc, L, S, w, k, n) = some f')
    (row : ∀ {H : Heap} {locs : List Loc} {ls : Array Slot} {st : List Value} {lv lv' : List (Nat × Value)} {x : Nat}, lv_has ls nL lv → i < nL → (i, Value.ref x) :: lv.filter (fun q => !(q.1 == i) && !(q.1 + 1 == i && q.2.category == 2)) = lv' → (∀ ls' : Array Slot, lv_has ls' nL lv' → W p l e R s m args below meth c H locs k n Q (F0 m (pc + len) ls' st)) → W p l e R s m args below meth c H locs k n Q (F0 m pc ls (.ref x :: st)))
    (rowN : ∀ {H : Heap} {locs : List Loc} {ls : Array Slot} {st : List Value} {lv lv' : List (Nat × Value)}, lv_has ls nL lv → i < nL → (i, Value.null) :: lv.filter (fun q => !(q.1 == i) && !(q.1 + 1 == i && q.2.category == 2)) = lv' → (∀ ls' : Array Slot, lv_has ls' nL lv' → W p l e R s m args below meth c H locs k n Q (F0 m (pc + len) ls' st)) → W p l e R s m args below meth c H locs k n Q (F0 m pc ls (.null :: st)))
    (h : ev_G p l e R s m args below meth c Q D cl tys A ex al0 nL f') : ev_G p l e R s m args below meth c Q D cl tys A ex al0 nL (pc, L, S, w, k, n) := by
  intro al ws H locs ls lv st h1 h2 h3 h4 h5 h6 h7 h8
  unfold ev_store at hf
  split at hf
  · rename_i pc' L' v S' w' c' n' heq
    cases heq
    cases hi : (ev_isR v && Nat.blt i nL) with
    | false => rw [hi] at hf; cases hf
    | true =>
      rw [hi] at hf
      cases hf
      simp only [Bool.and_eq_true] at hi
      obtain ⟨v', st', rfl, g1, g2⟩ := ev_st_cons h8
      have hlt : i < nL := by
        have h9 : i + 1 ≤ nL := by simpa [Nat.blt] using hi.2
        exact h9
      rcases ev_rel_R hi.1 g1 with rfl | ⟨z, rfl⟩
      · exact rowN h6 hlt rfl (fun ls' hl' => h al ws H locs ls' _ st' h1 h2 h3 h4 h5 hl' ⟨rfl, rfl, g1, ev_lv_del h7 i⟩ g2)
      · exact row h6 hlt rfl (fun ls' hl' => h al ws H locs ls' _ st' h1 h2 h3 h4 h5 hl' ⟨rfl, rfl, g1, ev_lv_del h7 i⟩ g2)
  · cases hf
theorem es_iinc {i : Nat} {d : Int} {v r : ev_V} (hl : ev_look L i = some v) (hr : ev_op1 (fun x => x + Int32.ofInt d) v = some r) (hi : i < nL)
    (row : ∀ {H : Heap} {locs : List Loc} {ls : Array Slot} {st : List Value} {lv lv' : List (Nat × Value)} {q : Nat} {x y : Int32}, lv_has ls nL lv → lv[q]? = some (i, .int x) → x + Int32.ofInt d = y → i < nL → (i, Value.int y) :: lv.filter (fun q => !(q.1 == i) && !(q.1 + 1 == i && q.2.category == 2)) = lv' → (∀ ls' : Array Slot, lv_has ls' nL lv' → W p l e R s m args below meth c H locs k n Q (F0 m (pc + 3) ls' st)) → W p l e R s m args below meth c H locs k n Q (F0 m pc ls st))
    (h : ev_G p l e R s m args below meth c Q D cl tys A ex al0 nL (pc + 3, (i, r) :: ev_del L i, S, w, k, n)) : ev_G p l e R s m args below meth c Q D cl tys A ex al0 nL (pc, L, S, w, k, n) := by
  intro al ws H locs ls lv st h1 h2 h3 h4 h5 h6 h7 h8
  obtain ⟨q, v', g1, g2⟩ := ev_lv_look h7 hl
  obtain ⟨x, rfl, g3⟩ := ev_op1_rel hr g2
  exact row h6 g1 rfl hi rfl (fun ls' hl' => h al ws H locs ls' _ st h1 h2 h3 h4 h5 hl' ⟨rfl, rfl, g3, ev_lv_del h7 i⟩ h8)
theorem es_bin {g : Int32 → Int32 → Int32} {f' : ev_F} (hf : ev_bin g (pc, L, S, w, k, n) = some f')
    (row : ∀ {H : Heap} {locs : List Loc} {ls : Array Slot} {st : List Value} {x y : Int32}, W p l e R s m args below meth c H locs k n Q (F0 m (pc + 1) ls (.int (g x y) :: st)) → W p l e R s m args below meth c H locs k n Q (F0 m pc ls (.int y :: .int x :: st)))
    (h : ev_G p l e R s m args below meth c Q D cl tys A ex al0 nL f') : ev_G p l e R s m args below meth c Q D cl tys A ex al0 nL (pc, L, S, w, k, n) := by
  intro al ws H locs ls lv st h1 h2 h3 h4 h5 h6 h7 h8
  unfold ev_bin at hf
  split at hf
  · rename_i pc' L' b a S' w' c' n' heq
    cases heq
    split at hf
    · rename_i r hr
      cases hf
      obtain ⟨vb, st1, rfl, g1, g2⟩ := ev_st_cons h8
      obtain ⟨va, st2, rfl, g3, g4⟩ := ev_st_cons g2
      obtain ⟨x, y, rfl, rfl, g5⟩ := ev_op2_rel hr g3 g1
      exact row (h al ws H locs ls lv _ h1 h2 h3 h4 h5 h6 h7 ⟨g5, g4⟩)
    · cases hf
  · cases hf
theorem es_un {g : Int32 → Int32} {f' : ev_F} (hf : ev_un g (pc, L, S, w, k, n) = some f')
    (row : ∀ {H : Heap} {locs : List Loc} {ls : Array Slot} {st : List Value} {x : Int32}, W p l e R s m args below meth c H locs k n Q (F0 m (pc + 1) ls (.int (g x) :: st)) → W p l e R s m args below meth c H locs k n Q (F0 m pc ls (.int x :: st)))
    (h : ev_G p l e R s m args below meth c Q D cl tys A ex al0 nL f') : ev_G p l e R s m args below meth c Q D cl tys A ex al0 nL (pc, L, S, w, k, n) := by
  intro al ws H locs ls lv st h1 h2 h3 h4 h5 h6 h7 h8
  unfold ev_un at hf
  split at hf
  · rename_i pc' L' a S' w' c' n' heq
    cases heq
    split at hf
    · rename_i r hr
      cases hf
      obtain ⟨va, st1, rfl, g1, g2⟩ := ev_st_cons h8
      obtain ⟨x, rfl, g5⟩ := ev_op1_rel hr g1
      exact row (h al ws H locs ls lv _ h1 h2 h3 h4 h5 h6 h7 ⟨g5, g2⟩)
    · cases hf
  · cases hf
theorem ev_go_some {t : Option Bool} {a b q : Nat} (h : ev_go t a b = some q) : (t = some true ∧ q = a) ∨ (t = some false ∧ q = b) := by
  cases t with
  | none => cases h
  | some t => cases t <;> cases h <;> simp
/-- a branch on two ints -/
theorem es_jump2 {K : ClassFile.Cond} {off : Int} {tgt : Nat} {f' : ev_F} (hx : p.tables.exec = Jvm.exec) (hb : c.code = cc) (hd : decode cc pc = .ok (.if_icmp K off, 3)) (ht : (pc : Int) + off = (tgt : Int))
    (hf : ev_jump K true [tgt] (pc, L, S, w, k, n) = some f') (h : ev_G p l e R s m args below meth c Q D cl tys A ex al0 nL f') : ev_G p l e R s m args below meth c Q D cl tys A ex al0 nL (pc, L, S, w, k, n) := by
  intro al ws H locs ls lv st h1 h2 h3 h4 h5 h6 h7 h8
  unfold ev_jump at hf
  dsimp only at hf
  split at hf
  · rename_i pc' L' b a S' w' c' n' heq
    cases heq
    split at hf
    · rename_i q hq
      cases hf
      obtain ⟨vb, st1, rfl, g1, g2⟩ := ev_st_cons h8
      obtain ⟨va, st2, rfl, g3, g4⟩ := ev_st_cons g2
      have go := h al ws H locs ls lv st2 h1 h2 h3 h4 h5 h6 h7 g4
      rcases ev_go_some hq with ⟨ht1, rfl⟩ | ⟨ht1, rfl⟩
      · cases K with
        | eq =>
          obtain ⟨x, y, rfl, rfl, j1, j2⟩ := ev_eq_rel ht1 g3 g1
          exact lv_icmp_eq hx hb hd ht (fun _ => go) (fun z => absurd (j1 rfl) z)
        | ne =>
          obtain ⟨x, y, rfl, rfl, j1, j2⟩ := ev_eq_rel (ev_not_some ht1) g3 g1
          exact lv_icmp_ne hx hb hd ht (fun _ => go) (fun z => absurd z (j2 rfl))
        | lt =>
          obtain ⟨x, y, rfl, rfl, j1, j2⟩ := ev_lt_rel ht1 g3 g1
          exact lv_icmp_lt hx hb hd ht (fun _ => go) (fun z => absurd (j1 rfl) z)
        | ge =>
          obtain ⟨x, y, rfl, rfl, j1, j2⟩ := ev_lt_rel (ev_not_some ht1) g3 g1
          exact lv_icmp_ge hx hb hd ht (fun _ => go) (fun z => absurd (Int32.not_lt.mp (j2 rfl)) z)
        | gt =>
          obtain ⟨y, x, rfl, rfl, j1, j2⟩ := ev_lt_rel ht1 g1 g3
          exact lv_icmp_gt hx hb hd ht (fun _ => go) (fun z => absurd (j1 rfl) z)
        | le =>
          obtain ⟨y, x, rfl, rfl, j1, j2⟩ := ev_lt_rel (ev_not_some ht1) g1 g3
          exact lv_icmp_le hx hb hd ht (fun _ => go) (fun z => absurd (Int32.not_lt.mp (j2 rfl)) z)
      · cases K with
        | eq =>
          obtain ⟨x, y, rfl, rfl, j1, j2⟩ := ev_eq_rel ht1 g3 g1
          exact lv_icmp_eq hx hb hd ht (fun z => absurd z (j2 rfl)) (fun _ => go)
        | ne =>
          obtain ⟨x, y, rfl, rfl, j1, j2⟩ := ev_eq_rel (ev_not_some ht1) g3 g1
          exact lv_icmp_ne hx hb hd ht (fun z => absurd (j1 rfl) z) (fun _ => go)
        | lt =>
          obtain ⟨x, y, rfl, rfl, j1, j2⟩ := ev_lt_rel ht1 g3 g1
          exact lv_icmp_lt hx hb hd ht (fun z => absurd z (j2 rfl)) (fun _ => go)
        | ge =>
          obtain ⟨x, y, rfl, rfl, j1, j2⟩ := ev_lt_rel (ev_not_some ht1) g3 g1
          exact lv_icmp_ge hx hb hd ht (fun z => absurd (j1 rfl) (Int32.not_lt.mpr z)) (fun _ => go)
        | gt =>
          obtain ⟨y, x, rfl, rfl, j1, j2⟩ := ev_lt_rel ht1 g1 g3
          exact lv_icmp_gt hx hb hd ht (fun z => absurd z (j2 rfl)) (fun _ => go)
        | le =>
          obtain ⟨y, x, rfl, rfl, j1, j2⟩ := ev_lt_rel (ev_not_some ht1) g1 g3
          exact lv_icmp_le hx hb hd ht (fun z => absurd (j1 rfl) (Int32.not_lt.mpr z)) (fun _ => go)
    · cases hf
  · rename_i heq _
    cases heq
  · cases hf
/-- a branch on an int against 0 -/
theorem es_jump1 {K : ClassFile.Cond} {off : Int} {tgt : Nat} {f' : ev_F} (hx : p.tables.exec = Jvm.exec) (hb : c.code = cc) (hd : decode cc pc = .ok (.ifCond K off, 3)) (ht : (pc : Int) + off = (tgt : Int))
    (hf : ev_jump K false [tgt] (pc, L, S, w, k, n) = some f') (h : ev_G p l e R s m args below meth c Q D cl tys A ex al0 nL f') : ev_G p l e R s m args below meth c Q D cl tys A ex al0 nL (pc, L, S, w, k, n) := by
  intro al ws H locs ls lv st h1 h2 h3 h4 h5 h6 h7 h8
  unfold ev_jump at hf
  dsimp only at hf
  split at hf
  · rename_i heq _
    cases heq
  · rename_i pc' L' a S' w' c' n' heq
    cases heq
    split at hf
    · rename_i q hq
      cases hf
      obtain ⟨va, st2, rfl, g3, g4⟩ := ev_st_cons h8
      have g1 : ev_rel al ex ev_zero (.int 0) := rfl
      have go := h al ws H locs ls lv st2 h1 h2 h3 h4 h5 h6 h7 g4
      rcases ev_go_some hq with ⟨ht1, rfl⟩ | ⟨ht1, rfl⟩
      · cases K with
        | eq =>
          obtain ⟨x, y, rfl, e, j1, j2⟩ := ev_eq_rel ht1 g3 g1
          cases e
          exact lv_if_eq hx hb hd ht (fun _ => go) (fun z => absurd (j1 rfl) z)
        | ne =>
          obtain ⟨x, y, rfl, e, j1, j2⟩ := ev_eq_rel (ev_not_some ht1) g3 g1
          cases e
          exact lv_if_ne hx hb hd ht (fun _ => go) (fun z => absurd z (j2 rfl))
        | lt =>
          obtain ⟨x, y, rfl, e, j1, j2⟩ := ev_lt_rel ht1 g3 g1
          cases e
          exact lv_if_lt hx hb hd ht (fun _ => go) (fun z => absurd (j1 rfl) z)
        | ge =>
          obtain ⟨x, y, rfl, e, j1, j2⟩ := ev_lt_rel (ev_not_some ht1) g3 g1
          cases e
          exact lv_if_ge hx hb hd ht (fun _ => go) (fun z => absurd (Int32.not_lt.mp (j2 rfl)) z)
        | gt =>
          obtain ⟨y, x, e, rfl, j1, j2⟩ := ev_lt_rel ht1 g1 g3
          cases e
          exact lv_if_gt hx hb hd ht (fun _ => go) (fun z => absurd (j1 rfl) z)
        | le =>
          obtain ⟨y, x, e, rfl, j1, j2⟩ := ev_lt_rel (ev_not_some ht1) g1 g3
          cases e
          exact lv_if_le hx hb hd ht (fun _ => go) (fun z => absurd (Int32.not_lt.mp (j2 rfl)) z)
      · cases K with
        | eq =>
          obtain ⟨x, y, rfl, e, j1, j2⟩ := ev_eq_rel ht1 g3 g1
          cases e
          exact lv_if_eq hx hb hd ht (fun z => absurd z (j2 rfl)) (fun _ => go)
        | ne =>
          obtain ⟨x, y, rfl, e, j1, j2⟩ := ev_eq_rel (ev_not_some ht1) g3 g1
          cases e
          exact lv_if_ne hx hb hd ht (fun z => absurd (j1 rfl) z) (fun _ => go)
        | lt =>
          obtain ⟨x, y, rfl, e, j1, j2⟩ := ev_lt_rel ht1 g3 g1
          cases e
          exact lv_if_lt hx hb hd ht (fun z => absurd z (j2 rfl)) (fun _ => go)
        | ge =>
          obtain ⟨x, y, rfl, e, j1, j2⟩ := ev_lt_rel (ev_not_some ht1) g3 g1
          cases e
          exact lv_if_ge hx hb hd ht (fun z => absurd (j1 rfl) (Int32.not_lt.mpr z)) (fun _ => go)
        | gt =>
          obtain ⟨y, x, e, rfl, j1, j2⟩ := ev_lt_rel ht1 g1 g3
          cases e
          exact lv_if_gt hx hb hd ht (fun z => absurd z (j2 rfl)) (fun _ => go)
        | le =>
          obtain ⟨y, x, e, rfl, j1, j2⟩ := ev_lt_rel (ev_not_some ht1) g1 g3
          cases e
          exact lv_if_le hx hb hd ht (fun z => absurd (j1 rfl) (Int32.not_lt.mpr z)) (fun _ => go)
    · cases hf
  · cases hf
theorem ev_null_rel {al : List Nat} {x : ev_V} {v : Value} {b : Bool} (hx : ev_null x = some b) (h : ev_rel al ex x v) : (b = true ∧ v = .null) ∨ (b = false ∧ ∃ a, v = .ref a) := by
  rcases x with (z | o)
  · cases z with
    | ref q => obtain ⟨a, -, h⟩ := h; cases hx; exact Or.inr ⟨rfl, a, h⟩
    | retAddr j => cases hx; exact Or.inr ⟨rfl, _, h⟩
    | null => cases hx; exact Or.inl ⟨rfl, h⟩
    | _ => cases hx
  · cases o with
    | none => cases hx; exact Or.inr ⟨rfl, h⟩
    | some o => cases hx
theorem es_jnullT {off : Int} {tgt : Nat} {f' : ev_F} (hx : p.tables.exec = Jvm.exec) (hb : c.code = cc) (hd : decode cc pc = .ok (.ifnull off, 3)) (ht : (pc : Int) + off = (tgt : Int))
    (hf : ev_jnull true [tgt] (pc, L, S, w, k, n) = some f') (h : ev_G p l e R s m args below meth c Q D cl tys A ex al0 nL f') : ev_G p l e R s m args below meth c Q D cl tys A ex al0 nL (pc, L, S, w, k, n) := by
  intro al ws H locs ls lv st h1 h2 h3 h4 h5 h6 h7 h8
  unfold ev_jnull at hf
  split at hf
  · rename_i tg pc' L' a S' w' c' n' e1 e2
    cases e1
    cases e2
    split at hf
    · rename_i b hq
      cases hf
      obtain ⟨va, st2, rfl, g3, g4⟩ := ev_st_cons h8
      have go := h al ws H locs ls lv st2 h1 h2 h3 h4 h5 h6 h7 g4
      rcases ev_null_rel hq g3 with ⟨rfl, rfl⟩ | ⟨rfl, a', rfl⟩
      · exact lv_ifnullN hx hb hd ht go
      · exact lv_ifnull hx hb hd go
    · cases hf
  · cases hf
theorem es_jnullF {off : Int} {tgt : Nat} {f' : ev_F} (hx : p.tables.exec = Jvm.exec) (hb : c.code = cc) (hd : decode cc pc = .ok (.ifnonnull off, 3)) (ht : (pc : Int) + off = (tgt : Int))
    (hf : ev_jnull false [tgt] (pc, L, S, w, k, n) = some f') (h : ev_G p l e R s m args below meth c Q D cl tys A ex al0 nL f') : ev_G p l e R s m args below meth c Q D cl tys A ex al0 nL (pc, L, S, w, k, n) := by
  intro al ws H locs ls lv st h1 h2 h3 h4 h5 h6 h7 h8
  unfold ev_jnull at hf
  split at hf
  · rename_i tg pc' L' a S' w' c' n' e1 e2
    cases e1
    cases e2
    split at hf
    · rename_i b hq
      cases hf
      obtain ⟨va, st2, rfl, g3, g4⟩ := ev_st_cons h8
      have go := h al ws H locs ls lv st2 h1 h2 h3 h4 h5 h6 h7 g4
      rcases ev_null_rel hq g3 with ⟨rfl, rfl⟩ | ⟨rfl, a', rfl⟩
      · exact lv_ifnonnullN hx hb hd go
      · exact lv_ifnonnull hx hb hd ht go
    · cases hf
  · cases hf
end EvStep
end
section
/-! The evaluator's steps on the heap -/
/-- the types of arrays that worlds hold, by number -/
def ev_tys : List FieldType := [.int, .byte, .long, .object "java/lang/String", .array .long, .object "PathProverModel$Module", .object "PathProverModel$Bits", .object "PathProverModel$Node", .object "PathProverModel$Instance"]
section EvHeap
variable {p : Program} {l : Launch} {e : Env} {R : Room} {s : State} {m : MethodId} {args : Array Value} {below : List Frame} {meth : Method} {c : Code} {Q : State → Prop} {D : va_G} {cl : List vw_C} {tys : List (ClassId × FieldType)} {A : Nat → Prop} {ex : Nat → Nat} {al0 : List Nat} {nL : Nat}
variable {pc k n : Nat} {L : List (Nat × ev_V)} {S : List ev_V} {w : List ev_C} {cc : ByteArray} {own : String} {Ts : List Cond}
theorem ev_ty (hT : tys.map Prod.snd = ev_tys) {t : Nat} {cA : ClassId} {ty : FieldType} (h : tys[t]? = some (cA, ty)) : ev_tys[t]? = some ty := by
  rw [← hT, List.getElem?_map, h]
  rfl
/-- a field of an object, read -/
theorem es_get {index ci q N : Nat} {C : String} {T : u_T} {fs : List ev_V} {v : ev_V} (hx : p.tables.exec = Jvm.exec) (hb : c.code = cc) (hd : decode cc pc = .ok (.getfield index, 3)) (hts : ∀ w ∈ Ts, w.before args s = true) (hin : ∀ w ∈ u_ws C T N, w ∈ Ts) (hown : s.vm.findClass own = some m.cls) (hK : va_K D cl tys s) (hc : cl[ci]? = some (C, T, N)) {j : Nat} (hj : j < N) (hC : (T j).1 = C)
    (hlink : (Cond.fieldLink own index C (T j).2.1 (T j).2.2.1).before args s = true ∨ ∃ host, (Cond.fieldLinkNest own index C (T j).2.1 (T j).2.2.1 host).before args s = true)
    (hw : w[q]? = some (.inl (ci, fs))) (hv : fs[j]? = some v)
    (h : ev_G p l e R s m args below meth c Q D cl tys A ex al0 nL (pc + 3, L, v :: S, w, k, n)) : ev_G p l e R s m args below meth c Q D cl tys A ex al0 nL (pc, L, .inl (.ref q) :: S, w, k, n) := by
  intro al ws H locs ls lv st h1 h2 h3 h4 h5 h6 h7 h8
  obtain ⟨va, st1, rfl, ⟨a, g0, rfl⟩, g2⟩ := ev_st_cons h8
  obtain ⟨E, g3, vs, rfl, g4⟩ := ev_w_get h2 hw g0
  obtain ⟨v', g5, g6⟩ := ev_st_get g4 hv
  have go := h al ws H locs ls lv (v' :: st1) h1 h2 h3 h4 h5 h6 h7 ⟨g6, g2⟩
  rcases hlink with hlink | ⟨host, hlink⟩
  · exact va_get hx hb hts hin hown hK h3 q g3 hc j hj hlink (fun x hq => by rw [hC] at hq; exact hq) g5 hd go
  · exact va_getN hx hb hts hin hown hK h3 q g3 hc j hj hlink (fun x hq => by rw [hC] at hq; exact hq) g5 hd go
theorem ev_fit_rel {al : List Nat} {tc : Nat} {x : ev_V} {v : Value} {ty : FieldType} (hf : ev_fit tc x = true) (hr : ev_rel al ex x v)
    (ht : (tc = 0 ∧ ty = .int) ∨ (tc = 1 ∧ ty = .boolean) ∨ (tc = 2 ∧ ((∃ C, ty = .object C) ∨ ∃ t, ty = .array t))) : narrow ty v = v ∧ fits ty v = true := by
  rcases ht with ⟨rfl, rfl⟩ | ⟨rfl, rfl⟩ | ⟨rfl, ht⟩
  · obtain ⟨z, rfl⟩ := ev_rel_I (x := x) hf hr
    exact ⟨rfl, rfl⟩
  · have hf : ev_bit x = true := hf
    rcases x with (z | o)
    · cases z with
      | int z =>
        have e : v = .int z := hr
        subst e
        simp [ev_bit] at hf
        rcases hf with rfl | rfl
        · exact ⟨by decide +kernel, by decide +kernel⟩
        · exact ⟨by decide +kernel, by decide +kernel⟩
      | _ => simp [ev_bit] at hf
    · simp [ev_bit] at hf
  · have hf : ev_isR x = true := hf
    rcases ev_rel_R hf hr with rfl | ⟨a, rfl⟩
    · rcases ht with ⟨C, rfl⟩ | ⟨t, rfl⟩ <;> exact ⟨rfl, rfl⟩
    · rcases ht with ⟨C, rfl⟩ | ⟨t, rfl⟩ <;> exact ⟨rfl, rfl⟩
/-- a field of an object, written -/
theorem es_put {index ci q N tc : Nat} {C : String} {T : u_T} {fs : List ev_V} {v : ev_V} (hx : p.tables.exec = Jvm.exec) (hb : c.code = cc) (hd : decode cc pc = .ok (.putfield index, 3)) (hts : ∀ w ∈ Ts, w.before args s = true) (hin : ∀ w ∈ u_ws C T N, w ∈ Ts) (ty0 : Nat → FieldType) (hty : ∀ j, j < N → parseFieldDescriptor (T j).2.2.1 = some (ty0 j)) (hnm : ∀ a, a < N → ∀ b, b < N → a ≠ b → (T a).2.1 ≠ (T b).2.1) (hown : s.vm.findClass own = some m.cls) (hK : va_K D cl tys s) (hc : cl[ci]? = some (C, T, N)) {j : Nat} (hj : j < N) (hC : (T j).1 = C)
    (hlink : (Cond.fieldLink own index C (T j).2.1 (T j).2.2.1).before args s = true ∧ ((T j).2.2.2 = false ∨ ((T j).2.2.2 = true ∧ meth.name = "<init>" ∧ C = own)) ∨ ∃ host, (Cond.fieldLinkNest own index C (T j).2.1 (T j).2.2.1 host).before args s = true ∧ (T j).2.2.2 = false)
    (htc : (tc = 0 ∧ ty0 j = .int) ∨ (tc = 1 ∧ ty0 j = .boolean) ∨ (tc = 2 ∧ ((∃ C, ty0 j = .object C) ∨ ∃ t, ty0 j = .array t)))
    (hw : w[q]? = some (.inl (ci, fs))) (hv : ev_fit tc v = true) (hl : j < fs.length)
    (h : ev_G p l e R s m args below meth c Q D cl tys A ex al0 nL (pc + 3, L, S, w.set q (.inl (ci, fs.set j v)), k, n)) : ev_G p l e R s m args below meth c Q D cl tys A ex al0 nL (pc, L, v :: .inl (.ref q) :: S, w, k, n) := by
  intro al ws H locs ls lv st h1 h2 h3 h4 h5 h6 h7 h8
  obtain ⟨v', st0, rfl, g8, g9⟩ := ev_st_cons h8
  obtain ⟨va, st1, rfl, ⟨a, g0, rfl⟩, g2⟩ := ev_st_cons g9
  obtain ⟨E, g3, vs, rfl, g4⟩ := ev_w_get h2 hw g0
  obtain ⟨hn, hfi⟩ := ev_fit_rel (ty := ty0 j) hv g8 htc
  have hl' : j < vs.length := by rw [← ev_st_len g4]; exact hl
  have go : ∀ (H1 : Heap) (locs1 : List Loc), va_P D cl (ws.set q (a, .inr (ci, vs.set j v'))) H1 → va_D A (ws.set q (a, .inr (ci, vs.set j v'))) → va_S A s.heap H1 locs1 → W p l e R s m args below meth c H1 locs1 k n Q (F0 m (pc + 3) ls st1) :=
    fun H1 locs1 i1 i2 i3 => h al _ H1 locs1 ls lv st1 h1 (ev_w_set h2 g0 ⟨_, rfl, ev_st_set g4 j g8⟩) i1 i2 i3 h6 h7 g2
  rcases hlink with ⟨hlink, hfin | ⟨hfin, hin2, hCo⟩⟩ | ⟨host, hlink, hfin⟩
  · exact va_put hx hb hts hin ty0 hty hnm hown hK h3 h4 h5 q g3 hc j hj hlink (fun x hq => by rw [hC] at hq; exact hq) hfin (hty j hj) hn hfi hl' hd go
  · exact va_putF hx hb hts hin ty0 hty hnm hown hK h3 h4 h5 q g3 hc j hj hlink (fun x hq => by rw [hC] at hq; exact hq) hfin hin2 (hC.trans hCo) (hty j hj) hn hfi hl' hd go
  · exact va_putN hx hb hts hin ty0 hty hnm hown hK h3 h4 h5 q g3 hc j hj hlink (fun x hq => by rw [hC] at hq; exact hq) hfin (hty j hj) hn hfi hl' hd go
/-- the length of an array of the world -/
theorem es_alen {q t N : Nat} {d : ev_V} {wr : List (Nat × ev_V)} (hx : p.tables.exec = Jvm.exec) (hb : c.code = cc) (hd : decode cc pc = .ok (.arraylength, 1)) (hK : va_K D cl tys s) (hw : w[q]? = some (.inr (t, N, d, wr)))
    (h : ev_G p l e R s m args below meth c Q D cl tys A ex al0 nL (pc + 1, L, .inl (.int (Int32.ofNat N)) :: S, w, k, n)) : ev_G p l e R s m args below meth c Q D cl tys A ex al0 nL (pc, L, .inl (.ref q) :: S, w, k, n) := by
  intro al ws H locs ls lv st h1 h2 h3 h4 h5 h6 h7 h8
  obtain ⟨va, st1, rfl, ⟨a, g0, rfl⟩, g2⟩ := ev_st_cons h8
  obtain ⟨E, g3, cA, ty, g4, g5⟩ := ev_w_get h2 hw g0
  have go := h al ws H locs ls lv (.int (Int32.ofNat N) :: st1) h1 h2 h3 h4 h5 h6 h7 ⟨rfl, g2⟩
  have he : ∃ x : vp_A, E = .inl (cA, x) ∧ x.1 = N := by
    unfold ev_arr at g5
    split at g5
    all_goals (obtain ⟨f, rfl, -⟩ := g5; exact ⟨_, rfl, rfl⟩)
  obtain ⟨x, rfl, hxN⟩ := he
  exact va_alen hx hb hK h3 q t g3 g4 (by rw [hxN]) hd go
/-- loads -/
theorem es_ald0 {q N i : Nat} {x d : ev_V} {wr : List (Nat × ev_V)} (hx : p.tables.exec = Jvm.exec) (hb : c.code = cc) (hd : decode cc pc = .ok (.iaload, 1)) (hK : va_K D cl tys s) (hT : tys.map Prod.snd = ev_tys) (hw : w[q]? = some (.inr (0, N, d, wr))) (hi : ev_ix N x = some i)
    (h : ev_G p l e R s m args below meth c Q D cl tys A ex al0 nL (pc + 1, L, ev_at d wr i :: S, w, k, n)) : ev_G p l e R s m args below meth c Q D cl tys A ex al0 nL (pc, L, x :: .inl (.ref q) :: S, w, k, n) := by
  intro al ws H locs ls lv st h1 h2 h3 h4 h5 h6 h7 h8
  obtain ⟨vx, st0, rfl, g8, g9⟩ := ev_st_cons h8
  obtain ⟨va, st1, rfl, ⟨a, g0, rfl⟩, g2⟩ := ev_st_cons g9
  obtain ⟨z, rfl, g6, g7, g10⟩ := ev_ix_some hi
  have e : vx = .int z := g8
  subst e
  obtain ⟨E, g3, cA, ty, g4, f, rfl, g5⟩ := ev_w_get h2 hw g0
  cases ev_ty hT g4
  have go := h al ws H locs ls lv (.int (f i) :: st1) h1 h2 h3 h4 h5 h6 h7 ⟨g5 i g10, g2⟩
  rw [← g7] at go
  exact va_iald hx hb hK h3 q 0 g3 g4 g6 hd go
theorem es_ald1 {q N i : Nat} {x d : ev_V} {wr : List (Nat × ev_V)} (hx : p.tables.exec = Jvm.exec) (hb : c.code = cc) (hd : decode cc pc = .ok (.baload, 1)) (hK : va_K D cl tys s) (hT : tys.map Prod.snd = ev_tys) (hw : w[q]? = some (.inr (1, N, d, wr))) (hi : ev_ix N x = some i)
    (h : ev_G p l e R s m args below meth c Q D cl tys A ex al0 nL (pc + 1, L, ev_at d wr i :: S, w, k, n)) : ev_G p l e R s m args below meth c Q D cl tys A ex al0 nL (pc, L, x :: .inl (.ref q) :: S, w, k, n) := by
  intro al ws H locs ls lv st h1 h2 h3 h4 h5 h6 h7 h8
  obtain ⟨vx, st0, rfl, g8, g9⟩ := ev_st_cons h8
  obtain ⟨va, st1, rfl, ⟨a, g0, rfl⟩, g2⟩ := ev_st_cons g9
  obtain ⟨z, rfl, g6, g7, g10⟩ := ev_ix_some hi
  have e : vx = .int z := g8
  subst e
  obtain ⟨E, g3, cA, ty, g4, f, rfl, g5⟩ := ev_w_get h2 hw g0
  cases ev_ty hT g4
  have go := h al ws H locs ls lv (.int (f i) :: st1) h1 h2 h3 h4 h5 h6 h7 ⟨g5 i g10, g2⟩
  rw [← g7] at go
  exact va_bald hx hb hK h3 q 1 g3 g4 g6 hd go
theorem es_ald2 {q N i : Nat} {x d : ev_V} {wr : List (Nat × ev_V)} (hx : p.tables.exec = Jvm.exec) (hb : c.code = cc) (hd : decode cc pc = .ok (.laload, 1)) (hK : va_K D cl tys s) (hT : tys.map Prod.snd = ev_tys) (hw : w[q]? = some (.inr (2, N, d, wr))) (hi : ev_ix N x = some i)
    (h : ev_G p l e R s m args below meth c Q D cl tys A ex al0 nL (pc + 1, L, ev_at d wr i :: S, w, k, n)) : ev_G p l e R s m args below meth c Q D cl tys A ex al0 nL (pc, L, x :: .inl (.ref q) :: S, w, k, n) := by
  intro al ws H locs ls lv st h1 h2 h3 h4 h5 h6 h7 h8
  obtain ⟨vx, st0, rfl, g8, g9⟩ := ev_st_cons h8
  obtain ⟨va, st1, rfl, ⟨a, g0, rfl⟩, g2⟩ := ev_st_cons g9
  obtain ⟨z, rfl, g6, g7, g10⟩ := ev_ix_some hi
  have e : vx = .int z := g8
  subst e
  obtain ⟨E, g3, cA, ty, g4, f, rfl, g5⟩ := ev_w_get h2 hw g0
  cases ev_ty hT g4
  have go := h al ws H locs ls lv (.long (f i) :: st1) h1 h2 h3 h4 h5 h6 h7 ⟨g5 i g10, g2⟩
  rw [← g7] at go
  exact va_lald hx hb hK h3 q 2 g3 g4 g6 hd go
theorem ev_at_cons {d r : ev_V} {wr : List (Nat × ev_V)} {i j : Nat} : ev_at d ((i, r) :: wr) j = if i = j then r else ev_at d wr j := by
  by_cases e : i = j
  · subst e
    simp [ev_at, ev_look]
  · have e2 : Nat.beq i j = false := by
      cases hq : Nat.beq i j with
      | false => rfl
      | true => exact absurd (Nat.eq_of_beq_eq_true hq) e
    simp [ev_at, ev_look, e2, e]
theorem es_ast0 {q N i : Nat} {v x d r : ev_V} {wr : List (Nat × ev_V)} (hx : p.tables.exec = Jvm.exec) (hb : c.code = cc) (hd : decode cc pc = .ok (.iastore, 1)) (hK : va_K D cl tys s) (hT : tys.map Prod.snd = ev_tys) (hw : w[q]? = some (.inr (0, N, d, wr))) (hi : ev_ix N x = some i) (hr : ev_put 0 v = some r)
    (h : ev_G p l e R s m args below meth c Q D cl tys A ex al0 nL (pc + 1, L, S, w.set q (.inr (0, N, d, (i, r) :: wr)), k, n)) : ev_G p l e R s m args below meth c Q D cl tys A ex al0 nL (pc, L, v :: x :: .inl (.ref q) :: S, w, k, n) := by
  intro al ws H locs ls lv st h1 h2 h3 h4 h5 h6 h7 h8
  obtain ⟨v', st00, rfl, g80, g90⟩ := ev_st_cons h8
  obtain ⟨vx, st0, rfl, g8, g9⟩ := ev_st_cons g90
  obtain ⟨va, st1, rfl, ⟨a, g0, rfl⟩, g2⟩ := ev_st_cons g9
  obtain ⟨z, rfl, g6, g7, g10⟩ := ev_ix_some hi
  have e : vx = .int z := g8
  subst e
  obtain ⟨E, g3, cA, ty, g4, f, rfl, g5⟩ := ev_w_get h2 hw g0
  cases ev_ty hT g4
  cases hI : ev_isI v with
  | false => simp [ev_put, hI] at hr
  | true =>
    simp [ev_put, hI] at hr
    subst hr
    obtain ⟨y, rfl⟩ := ev_rel_I hI g80
    refine va_iast hx hb hK h3 h4 h5 q 0 g3 g4 g6 hd fun H1 locs1 i1 i2 i3 => ?_
    refine h al _ H1 locs1 ls lv st1 h1 (ev_w_set h2 g0 ⟨cA, _, g4, _, rfl, fun j hj => ?_⟩) i1 i2 i3 h6 h7 g2
    rw [ev_at_cons]
    by_cases e : i = j
    · subst e
      rw [if_pos rfl, g7]
      simpa [upd] using g80
    · rw [if_neg e]
      have : upd f z.toNatClampNeg y j = f j := by simp [upd, g7, Ne.symm e]
      rw [this]
      exact g5 j hj
theorem es_ast1 {q N i : Nat} {v x d r : ev_V} {wr : List (Nat × ev_V)} (hx : p.tables.exec = Jvm.exec) (hb : c.code = cc) (hd : decode cc pc = .ok (.bastore, 1)) (hK : va_K D cl tys s) (hT : tys.map Prod.snd = ev_tys) (hw : w[q]? = some (.inr (1, N, d, wr))) (hi : ev_ix N x = some i) (hr : ev_put 1 v = some r)
    (h : ev_G p l e R s m args below meth c Q D cl tys A ex al0 nL (pc + 1, L, S, w.set q (.inr (1, N, d, (i, r) :: wr)), k, n)) : ev_G p l e R s m args below meth c Q D cl tys A ex al0 nL (pc, L, v :: x :: .inl (.ref q) :: S, w, k, n) := by
  intro al ws H locs ls lv st h1 h2 h3 h4 h5 h6 h7 h8
  obtain ⟨v', st00, rfl, g80, g90⟩ := ev_st_cons h8
  obtain ⟨vx, st0, rfl, g8, g9⟩ := ev_st_cons g90
  obtain ⟨va, st1, rfl, ⟨a, g0, rfl⟩, g2⟩ := ev_st_cons g9
  obtain ⟨z, rfl, g6, g7, g10⟩ := ev_ix_some hi
  have e : vx = .int z := g8
  subst e
  obtain ⟨E, g3, cA, ty, g4, f, rfl, g5⟩ := ev_w_get h2 hw g0
  cases ev_ty hT g4
  cases hI : ev_isI v with
  | false => simp [ev_put, hI] at hr
  | true =>
    simp [ev_put, hI] at hr
    subst hr
    obtain ⟨y, rfl⟩ := ev_rel_I hI g80
    have hby : ev_rel al ex (ev_byte v) (.int (vp_nar .byte y)) := by
      unfold ev_byte
      split
      · rename_i y2 hy2
        rw [ev_int_some hy2] at g80
        cases g80
        rfl
      · exact ev_top_rel _
    refine va_bast hx hb hK h3 h4 h5 q 1 g3 g4 g6 hd fun H1 locs1 i1 i2 i3 => ?_
    refine h al _ H1 locs1 ls lv st1 h1 (ev_w_set h2 g0 ⟨cA, _, g4, _, rfl, fun j hj => ?_⟩) i1 i2 i3 h6 h7 g2
    rw [ev_at_cons]
    by_cases e : i = j
    · subst e
      rw [if_pos rfl, g7]
      simpa [upd] using hby
    · rw [if_neg e]
      have : upd f z.toNatClampNeg (vp_nar .byte y) j = f j := by simp [upd, g7, Ne.symm e]
      rw [this]
      exact g5 j hj
theorem es_ast2 {q N i : Nat} {x d : ev_V} {y : Int64} {wr : List (Nat × ev_V)} (hx : p.tables.exec = Jvm.exec) (hb : c.code = cc) (hd : decode cc pc = .ok (.lastore, 1)) (hK : va_K D cl tys s) (hT : tys.map Prod.snd = ev_tys) (hw : w[q]? = some (.inr (2, N, d, wr))) (hi : ev_ix N x = some i)
    (h : ev_G p l e R s m args below meth c Q D cl tys A ex al0 nL (pc + 1, L, S, w.set q (.inr (2, N, d, (i, .inl (.long y)) :: wr)), k, n)) : ev_G p l e R s m args below meth c Q D cl tys A ex al0 nL (pc, L, .inl (.long y) :: x :: .inl (.ref q) :: S, w, k, n) := by
  intro al ws H locs ls lv st h1 h2 h3 h4 h5 h6 h7 h8
  obtain ⟨v', st00, rfl, g80, g90⟩ := ev_st_cons h8
  obtain ⟨vx, st0, rfl, g8, g9⟩ := ev_st_cons g90
  obtain ⟨va, st1, rfl, ⟨a, g0, rfl⟩, g2⟩ := ev_st_cons g9
  obtain ⟨z, rfl, g6, g7, g10⟩ := ev_ix_some hi
  have e : vx = .int z := g8
  subst e
  have e : v' = .long y := g80
  subst e
  obtain ⟨E, g3, cA, ty, g4, f, rfl, g5⟩ := ev_w_get h2 hw g0
  cases ev_ty hT g4
  refine va_last hx hb hK h3 h4 h5 q 2 g3 g4 g6 hd fun H1 locs1 i1 i2 i3 => ?_
  refine h al _ H1 locs1 ls lv st1 h1 (ev_w_set h2 g0 ⟨cA, _, g4, _, rfl, fun j hj => ?_⟩) i1 i2 i3 h6 h7 g2
  rw [ev_at_cons]
  by_cases e : i = j
  · subst e
    rw [if_pos rfl, g7]
    simp [vp_updL, ev_rel]
  · rw [if_neg e]
    have : vp_updL f z.toNatClampNeg y j = f j := by simp [vp_updL, g7, Ne.symm e]
    rw [this]
    exact g5 j hj
end EvHeap
end
section
/-! The evaluator's steps: new objects and arrays; outer objects (String constants, the script) -/
section EvNew
variable {p : Program} {l : Launch} {e : Env} {R : Room} {s : State} {m : MethodId} {args : Array Value} {below : List Frame} {meth : Method} {c : Code} {Q : State → Prop} {D : va_G} {cl : List vw_C} {tys : List (ClassId × FieldType)} {A : Nat → Prop} {ex : Nat → Nat} {al0 : List Nat} {nL : Nat}
variable {pc k n : Nat} {L : List (Nat × ev_V)} {S : List ev_V} {w : List ev_C} {cc : ByteArray} {own : String} {Ts : List Cond}
theorem ev_len {al : List Nat} {ws : va_W} (h : ev_w al ex tys w ws) : al.length = w.length := by rw [← h.1, List.length_map, h.2.1]
/-- a new array of numbers -/
theorem es_newa {atype : ArrayType} {t N : Nat} {i : Int32} (hx : p.tables.exec = Jvm.exec) (hb : c.code = cc) (hd : decode cc pc = .ok (.newarray atype, 2)) (harr : (Cond.arrayClass (newarray.typeOf atype)).before args s = true) (hK : va_K D cl tys s) (hT : tys.map Prod.snd = ev_tys) (hA : ∀ q, s.heap.size ≤ q → A q)
    (ht : t < 3) (hty : ev_tys[t]? = some (newarray.typeOf atype)) (hi : ¬ i < 0) (hN : i.toNatClampNeg = N) (hby : N * ev_bytes t ≤ 536870912) (hcells : k + 1 ≤ R.cells) (hslots : n + N ≤ R.slots)
    (h : ev_G p l e R s m args below meth c Q D cl tys A ex al0 nL (pc + 2, L, .inl (.ref w.length) :: S, w ++ [.inr (t, N, ev_dflt t, [])], k + 1, n + N)) : ev_G p l e R s m args below meth c Q D cl tys A ex al0 nL (pc, L, .inl (.int i) :: S, w, k, n) := by
  intro al ws H locs ls lv st h1 h2 h3 h4 h5 h6 h7 h8
  obtain ⟨va, st1, rfl, g1, g2⟩ := ev_st_cons h8
  have g1 : va = .int i := g1
  subst g1
  obtain ⟨ct, hct⟩ : ∃ ct, tys[t]? = some (ct, newarray.typeOf atype) := by
    have : (tys.map Prod.snd)[t]? = some (newarray.typeOf atype) := by rw [hT]; exact hty
    rw [List.getElem?_map] at this
    cases hq : tys[t]? with
    | none => rw [hq] at this; cases this
    | some z =>
      rw [hq] at this
      obtain ⟨z1, z2⟩ := z
      cases this
      exact ⟨z1, rfl⟩
  have key : ∀ (q : Nat) (cA : ClassId) (H1 : Heap) (a0 : vp_A), ev_arr (al ++ [q]) ex ct t N (ev_dflt t) [] (.inl (ct, a0)) → va_K D cl (tys ++ [(cA, newarray.typeOf atype)]) s → va_P D cl (ws ++ [(q, .inl (cA, a0))]) H1 → va_D A (ws ++ [(q, .inl (cA, a0))]) → va_S A s.heap H1 locs →
      W p l e R s m args below meth c H1 locs (k + 1) (n + N) Q (F0 m (pc + 2) ls (.ref q :: st1)) := by
    intro q cA H1 a0 harr' i1 i2 i3 i4
    have e1 := (i1.2 tys.length (cA, newarray.typeOf atype) (by simp)).2
    have e2 := (hK.2 t _ hct).2
    have e3 : cA = ct := by
      cases atype <;> exact Option.some.inj (e1.symm.trans e2)
    subst e3
    refine h (al ++ [q]) _ H1 locs ls lv (.ref q :: st1) (h1.trans (List.prefix_append _ _)) (ev_w_push h2 q ⟨cA, _, hct, harr'⟩) i2 i3 i4 h6 (ev_lv.mono (List.prefix_append _ _) h7) ⟨⟨q, ?_, rfl⟩, ev_st.mono (List.prefix_append _ _) g2⟩
    rw [← ev_len h2]
    simp
  have hcase : t = 0 ∨ t = 1 ∨ t = 2 := by omega
  rcases hcase with rfl | rfl | rfl
  · have e : newarray.typeOf atype = .int := by simpa [ev_tys] using hty.symm
    refine va_newa (a0 := (N, .inl (fun _ => 0))) hx hb harr e hK h3 h4 h5 hA (fun cA => rfl) hi hN (by simpa [ev_bytes, componentBytes] using hby) hcells hslots hd fun q cA H1 i1 i2 i3 i4 => ?_
    exact key q cA H1 _ ⟨_, rfl, fun i _ => rfl⟩ (by rw [e]; exact i1) i2 i3 i4
  · have e : newarray.typeOf atype = .byte := by simpa [ev_tys] using hty.symm
    refine va_newa (a0 := (N, .inl (fun _ => 0))) hx hb harr e hK h3 h4 h5 hA (fun cA => rfl) hi hN (by simpa [ev_bytes, componentBytes] using hby) hcells hslots hd fun q cA H1 i1 i2 i3 i4 => ?_
    exact key q cA H1 _ ⟨_, rfl, fun i _ => rfl⟩ (by rw [e]; exact i1) i2 i3 i4
  · have e : newarray.typeOf atype = .long := by simpa [ev_tys] using hty.symm
    refine va_newa (a0 := (N, .inr (.inl (fun _ => 0)))) hx hb harr e hK h3 h4 h5 hA (fun cA => rfl) hi hN (by simpa [ev_bytes, componentBytes] using hby) hcells hslots hd fun q cA H1 i1 i2 i3 i4 => ?_
    exact key q cA H1 _ ⟨_, rfl, fun i _ => rfl⟩ (by rw [e]; exact i1) i2 i3 i4
/-- a new array of references -/
theorem es_newq {index t N : Nat} {C : String} {i : Int32} (hx : p.tables.exec = Jvm.exec) (hb : c.code = cc) (hd : decode cc pc = .ok (.anewarray index, 3)) (hown : s.vm.findClass own = some m.cls) (hcl : (Cond.classLink own index C).before args s = true) (hover : va_AO C s) (hK : va_K D cl tys s) (hT : tys.map Prod.snd = ev_tys) (hA : ∀ q, s.heap.size ≤ q → A q)
    (ht : 2 < t) (hty : ev_tys[t]? = some (.object C)) (hi : ¬ i < 0) (hN : i.toNatClampNeg = N) (hby : N * ev_bytes t ≤ 536870912) (hcells : k + 1 ≤ R.cells) (hslots : n + N ≤ R.slots)
    (h : ev_G p l e R s m args below meth c Q D cl tys A ex al0 nL (pc + 3, L, .inl (.ref w.length) :: S, w ++ [.inr (t, N, ev_dflt t, [])], k + 1, n + N)) : ev_G p l e R s m args below meth c Q D cl tys A ex al0 nL (pc, L, .inl (.int i) :: S, w, k, n) := by
  intro al ws H locs ls lv st h1 h2 h3 h4 h5 h6 h7 h8
  obtain ⟨va, st1, rfl, g1, g2⟩ := ev_st_cons h8
  have g1 : va = .int i := g1
  subst g1
  obtain ⟨ct, hct⟩ : ∃ ct, tys[t]? = some (ct, .object C) := by
    have : (tys.map Prod.snd)[t]? = some (.object C) := by rw [hT]; exact hty
    rw [List.getElem?_map] at this
    cases hq : tys[t]? with
    | none => rw [hq] at this; cases this
    | some z =>
      rw [hq] at this
      obtain ⟨z1, z2⟩ := z
      cases this
      exact ⟨z1, rfl⟩
  obtain ⟨t', rfl⟩ : ∃ t', t = t' + 3 := ⟨t - 3, by omega⟩
  refine va_newq hx hb hown hcl hover hK h3 h4 h5 hA hi hN hby hcells hslots hd fun q cA H1 i1 i2 i3 i4 => ?_
  have e1 := (i1.2 tys.length (cA, .object C) (by simp)).2
  have e2 := (hK.2 (t' + 3) _ hct).2
  have e3 : cA = ct := by
    obtain ⟨_, _, _, _, _, z1⟩ := e1
    obtain ⟨_, _, _, _, _, z2⟩ := e2
    exact Option.some.inj (z1.symm.trans z2)
  subst e3
  refine h (al ++ [q]) _ H1 locs ls lv (.ref q :: st1) (h1.trans (List.prefix_append _ _)) (ev_w_push h2 q ⟨cA, _, hct, fun _ => none, rfl, fun i _ => rfl⟩) i2 i3 i4 h6 (ev_lv.mono (List.prefix_append _ _) h7) ⟨⟨q, ?_, rfl⟩, ev_st.mono (List.prefix_append _ _) g2⟩
  rw [← ev_len h2]
  simp
/-- a new array of arrays of numbers -/
theorem es_newA {index t N : Nat} {ft : FieldType} {i : Int32} (hx : p.tables.exec = Jvm.exec) (hb : c.code = cc) (hd : decode cc pc = .ok (.anewarray index, 3)) (hown : s.vm.findClass own = some m.cls) (hcl : (Cond.classLink own index (FieldType.array ft).toString).before args s = true) (hover : (Cond.arrayOver (.array ft)).before args s = true) (hK : va_K D cl tys s) (hT : tys.map Prod.snd = ev_tys) (hA : ∀ q, s.heap.size ≤ q → A q)
    (ht : 2 < t) (hty : ev_tys[t]? = some (.array ft)) (hi : ¬ i < 0) (hN : i.toNatClampNeg = N) (hby : N * ev_bytes t ≤ 536870912) (hcells : k + 1 ≤ R.cells) (hslots : n + N ≤ R.slots)
    (h : ev_G p l e R s m args below meth c Q D cl tys A ex al0 nL (pc + 3, L, .inl (.ref w.length) :: S, w ++ [.inr (t, N, ev_dflt t, [])], k + 1, n + N)) : ev_G p l e R s m args below meth c Q D cl tys A ex al0 nL (pc, L, .inl (.int i) :: S, w, k, n) := by
  intro al ws H locs ls lv st h1 h2 h3 h4 h5 h6 h7 h8
  obtain ⟨va, st1, rfl, g1, g2⟩ := ev_st_cons h8
  have g1 : va = .int i := g1
  subst g1
  obtain ⟨ct, hct⟩ : ∃ ct, tys[t]? = some (ct, .array ft) := by
    have : (tys.map Prod.snd)[t]? = some (.array ft) := by rw [hT]; exact hty
    rw [List.getElem?_map] at this
    cases hq : tys[t]? with
    | none => rw [hq] at this; cases this
    | some z =>
      rw [hq] at this
      obtain ⟨z1, z2⟩ := z
      cases this
      exact ⟨z1, rfl⟩
  obtain ⟨t', rfl⟩ : ∃ t', t = t' + 3 := ⟨t - 3, by omega⟩
  subst hN
  refine W.anewA hx hb hown hcl hover rfl hd rfl hi hby hcells hslots fun cA kA comp f1 f2 f3 f4 => ?_
  have e2 : s.vm.findClass ("[" ++ (FieldType.array ft).toString) = some ct := (hK.2 (t' + 3) _ hct).2
  have e3 : ct = cA := Option.some.inj (e2.symm.trans f1)
  rw [e3] at hct
  generalize hH1 : H.push ({ cls := cA, slots := Array.replicate i.toNatClampNeg .null, vm := .none } : Cell) = H1
  have z1 : H1.size = H.size + 1 := by rw [← hH1, Array.size_push]
  have ee : H1[H.size]? = some (arrV cA i.toNatClampNeg (fun _ => .null)) := by rw [← hH1, Array.getElem?_push_size, ← arrV_new]
  have o1 : ∀ q : Nat, q < H.size → H1[q]? = H[q]? := fun q hq => by rw [← hH1, Array.getElem?_push, if_neg (Nat.ne_of_lt hq)]
  have hk : ∀ (k : Nat) (x : Nat × va_E), ws[k]? = some x → H1[x.1]? = H[x.1]? := fun k x hx => o1 x.1 ((h3 k x hx).lt)
  refine h (al ++ [H.size]) (ws ++ [(H.size, .inl (cA, i.toNatClampNeg, .inr (.inr (.inr (.inr (fun _ => none))))))]) H1 locs ls lv (.ref H.size :: st1) (h1.trans (List.prefix_append _ _)) (ev_w_push h2 H.size ⟨cA, _, hct, fun _ => none, rfl, fun i _ => rfl⟩) ?_ ?_ ?_ h6 (ev_lv.mono (List.prefix_append _ _) h7) ⟨⟨H.size, ?_, rfl⟩, ev_st.mono (List.prefix_append _ _) g2⟩
  · refine (h3.kept hk).app (fun k x hx => ?_)
    have hz : k < 1 := (List.getElem?_eq_some_iff.mp hx).1
    rw [show k = 0 by omega] at hx
    cases hx
    show H1[H.size]? = some (vp_cell _ _)
    rw [vp_cell_q]
    exact ee
  · exact h4.push h3 rfl (hA _ h5.1)
  · exact ⟨Nat.le_trans h5.1 (by omega), fun x g1 g2 => (o1 x (Nat.lt_of_lt_of_le g1 h5.1)).trans (h5.2.1 x g1 g2), h5.2.2⟩
  · rw [← ev_len h2]
    simp
/-- a new object -/
theorem es_new {index ci N : Nat} {C : String} {T : u_T} {fs : List ev_V} {vs : List Value} (hx : p.tables.exec = Jvm.exec) (hb : c.code = cc) (hd : decode cc pc = .ok (.new index, 3)) (hts : ∀ w ∈ Ts, w.before args s = true) (hin : ∀ w ∈ u_ws C T N, w ∈ Ts) (ty : Nat → FieldType) (hty : ∀ j, j < N → parseFieldDescriptor (T j).2.2.1 = some (ty j)) (hown : s.vm.findClass own = some m.cls) (hcl : (Cond.classLink own index C).before args s = true) (hinst : (Cond.instantiable C N).before args s = true) (hini : (Cond.initialized C).before args s = true)
    (hK : va_K D cl tys s) (hA : ∀ q, s.heap.size ≤ q → A q) (hc : cl[ci]? = some (C, T, N)) (hvs : ∀ j, j < N → defaultValue (ty j) = vp_V vs j) (hfs : ∀ al, ev_st al ex fs vs) (hN : fs.length = N) (hcells : k + 1 ≤ R.cells) (hslots : n + fs.length ≤ R.slots)
    (h : ev_G p l e R s m args below meth c Q D cl tys A ex al0 nL (pc + 3, L, .inl (.ref w.length) :: S, w ++ [.inl (ci, fs)], k + 1, n + fs.length)) : ev_G p l e R s m args below meth c Q D cl tys A ex al0 nL (pc, L, S, w, k, n) := by
  intro al ws H locs ls lv st h1 h2 h3 h4 h5 h6 h7 h8
  subst hN
  refine va_new hx hb hts hin ty hty hown hcl hinst hini hK h3 h4 h5 hA hc hvs hcells hslots hd fun q H1 i2 i3 i4 => ?_
  refine h (al ++ [q]) _ H1 locs ls lv (.ref q :: st) (h1.trans (List.prefix_append _ _)) (ev_w_push h2 q ⟨vs, rfl, hfs _⟩) i2 i3 i4 h6 (ev_lv.mono (List.prefix_append _ _) h7) ⟨⟨q, ?_, rfl⟩, ev_st.mono (List.prefix_append _ _) h8⟩
  rw [← ev_len h2]
  simp
/-- a switch over a run of numbers -/
theorem es_tab {dflt lo hi : Int} {offs : Array Int} {len : Nat} {x : Int32} {tgt : Nat} (hx : p.tables.exec = Jvm.exec) (hb : c.code = cc) (hd : decode cc pc = .ok (.tableswitch dflt lo hi offs, len))
    (ht : ((x.toInt < lo ∨ hi < x.toInt) ∧ (pc : Int) + dflt = (tgt : Int)) ∨ (¬ x.toInt < lo ∧ ¬ hi < x.toInt ∧ ∃ off, offs[(x.toInt - lo).toNat]? = some off ∧ (pc : Int) + off = (tgt : Int)))
    (h : ev_G p l e R s m args below meth c Q D cl tys A ex al0 nL (tgt, L, S, w, k, n)) : ev_G p l e R s m args below meth c Q D cl tys A ex al0 nL (pc, L, .inl (.int x) :: S, w, k, n) := by
  intro al ws H locs ls lv st h1 h2 h3 h4 h5 h6 h7 h8
  obtain ⟨va, st1, rfl, g1, g2⟩ := ev_st_cons h8
  have g1 : va = .int x := g1
  subst g1
  have go := h al ws H locs ls lv st1 h1 h2 h3 h4 h5 h6 h7 g2
  rcases ht with ⟨q1, q2⟩ | ⟨q1, q2, off, q3, q4⟩
  · exact lv_tableOut hx hb hd q1 q2 go
  · exact lv_tableIn hx hb hd q1 q2 q3 q4 go
/-- a String constant stored into an array of Strings -/
theorem es_ast3 {q N i j : Nat} {x d : ev_V} {wr : List (Nat × ev_V)} (hx : p.tables.exec = Jvm.exec) (hb : c.code = cc) (hd : decode cc pc = .ok (.aastore, 1)) (hK : va_K D cl tys s) (hT : tys.map Prod.snd = ev_tys) (hO : va_O "java/lang/String" (ex j) A s s.heap) (hw : w[q]? = some (.inr (3, N, d, wr))) (hi : ev_ix N x = some i)
    (h : ev_G p l e R s m args below meth c Q D cl tys A ex al0 nL (pc + 1, L, S, w.set q (.inr (3, N, d, (i, .inl (.retAddr j)) :: wr)), k, n)) : ev_G p l e R s m args below meth c Q D cl tys A ex al0 nL (pc, L, .inl (.retAddr j) :: x :: .inl (.ref q) :: S, w, k, n) := by
  intro al ws H locs ls lv st h1 h2 h3 h4 h5 h6 h7 h8
  obtain ⟨v', st00, rfl, g80, g90⟩ := ev_st_cons h8
  obtain ⟨vx, st0, rfl, g8, g9⟩ := ev_st_cons g90
  obtain ⟨va, st1, rfl, ⟨a, g0, rfl⟩, g2⟩ := ev_st_cons g9
  obtain ⟨z, rfl, g6, g7, g10⟩ := ev_ix_some hi
  have e : vx = .int z := g8
  subst e
  have e : v' = .ref (ex j) := g80
  subst e
  obtain ⟨E, g3, cA, ty, g4, f, rfl, g5⟩ := ev_w_get h2 hw g0
  cases ev_ty hT g4
  obtain ⟨cell, c1, c2, c3⟩ := va_Orecv hO h5
  obtain ⟨kC, hkC, -⟩ := Vm.findClass_spec c3
  have hany : va_Any "java/lang/String" s H (ex j) := ⟨cell, c1, c2, ⟨kC, hkC⟩, fun comp hq => by
    cases c3.symm.trans hq
    exact va_asg _ _⟩
  refine va_astqM hx hb hK h3 h4 h5 q 3 g3 g4 hany g6 hd fun H1 locs1 i1 i2 i3 => ?_
  refine h al _ H1 locs1 ls lv st1 h1 (ev_w_set h2 g0 ⟨cA, _, g4, _, rfl, fun y hy => ?_⟩) i1 i2 i3 h6 h7 g2
  rw [ev_at_cons]
  by_cases e : i = y
  · subst e
    rw [if_pos rfl, g7]
    simp [va_up, va_rf, ev_rel]
  · rw [if_neg e]
    have : va_up f z.toNatClampNeg (some (ex j)) y = f y := by simp [va_up, g7, Ne.symm e]
    rw [this]
    exact g5 y hy
/-- an outer object's field -/
theorem es_getX {index j : Nat} {o nm ds : String} {v : ev_V} {v' : Value} (hx : p.tables.exec = Jvm.exec) (hb : c.code = cc) (hd : decode cc pc = .ok (.getfield index, 3)) (hown : s.vm.findClass own = some m.cls) (hE : va_OF o nm ds v' (ex j) A s s.heap) (hlink : (Cond.fieldLink own index o nm ds).before args s = true) (hv : ∀ al, ev_rel al ex v v')
    (h : ev_G p l e R s m args below meth c Q D cl tys A ex al0 nL (pc + 3, L, v :: S, w, k, n)) : ev_G p l e R s m args below meth c Q D cl tys A ex al0 nL (pc, L, .inl (.retAddr j) :: S, w, k, n) := by
  intro al ws H locs ls lv st h1 h2 h3 h4 h5 h6 h7 h8
  obtain ⟨va, st1, rfl, g1, g2⟩ := ev_st_cons h8
  have g1 : va = .ref (ex j) := g1
  subst g1
  exact vk_getf hx hb hE h5 hown hlink (fun x hq => hq) hd (h al ws H locs ls lv (v' :: st1) h1 h2 h3 h4 h5 h6 h7 ⟨hv al, g2⟩)
theorem es_alenX {j N : Nat} {ty : FieldType} {f : Nat → Value} (hx : p.tables.exec = Jvm.exec) (hb : c.code = cc) (hd : decode cc pc = .ok (.arraylength, 1)) (hE : va_T ty (ex j) N f A s s.heap)
    (h : ev_G p l e R s m args below meth c Q D cl tys A ex al0 nL (pc + 1, L, .inl (.int (Int32.ofNat N)) :: S, w, k, n)) : ev_G p l e R s m args below meth c Q D cl tys A ex al0 nL (pc, L, .inl (.retAddr j) :: S, w, k, n) := by
  intro al ws H locs ls lv st h1 h2 h3 h4 h5 h6 h7 h8
  obtain ⟨va, st1, rfl, g1, g2⟩ := ev_st_cons h8
  have g1 : va = .ref (ex j) := g1
  subst g1
  exact va_tlen hx hb hE h5 rfl hd (h al ws H locs ls lv (_ :: st1) h1 h2 h3 h4 h5 h6 h7 ⟨rfl, g2⟩)
theorem es_aldX {j N i : Nat} {x v : ev_V} {f : Nat → Value} (hx : p.tables.exec = Jvm.exec) (hb : c.code = cc) (hd : decode cc pc = .ok (.baload, 1)) (hE : va_T .byte (ex j) N f A s s.heap) (hi : ev_ix N x = some i) (hv : ∀ al, ev_rel al ex v (f i))
    (h : ev_G p l e R s m args below meth c Q D cl tys A ex al0 nL (pc + 1, L, v :: S, w, k, n)) : ev_G p l e R s m args below meth c Q D cl tys A ex al0 nL (pc, L, x :: .inl (.retAddr j) :: S, w, k, n) := by
  intro al ws H locs ls lv st h1 h2 h3 h4 h5 h6 h7 h8
  obtain ⟨vx, st0, rfl, g8, g9⟩ := ev_st_cons h8
  obtain ⟨va, st1, rfl, g1, g2⟩ := ev_st_cons g9
  have g1 : va = .ref (ex j) := g1
  subst g1
  obtain ⟨z, rfl, g6, g7, g10⟩ := ev_ix_some hi
  have e : vx = .int z := g8
  subst e
  exact va_tb hx hb hE h5 g6 (by rw [g7]) hd (h al ws H locs ls lv (_ :: st1) h1 h2 h3 h4 h5 h6 h7 ⟨hv al, g2⟩)
/-- the script's ints -/
theorem es_sld {j N i : Nat} {x v : ev_V} {xs : Nat → Int32} (hx : p.tables.exec = Jvm.exec) (hb : c.code = cc) (hd : decode cc pc = .ok (.iaload, 1)) (hX : va_X (ex j) N xs s s.heap) (hbl : ex j < s.heap.size) (hbA : ¬ A (ex j)) (hi : ev_ix N x = some i) (hv : ∀ al, ev_rel al ex v (.int (xs i)))
    (h : ev_G p l e R s m args below meth c Q D cl tys A ex al0 nL (pc + 1, L, v :: S, w, k, n)) : ev_G p l e R s m args below meth c Q D cl tys A ex al0 nL (pc, L, x :: .inl (.retAddr j) :: S, w, k, n) := by
  intro al ws H locs ls lv st h1 h2 h3 h4 h5 h6 h7 h8
  obtain ⟨vx, st0, rfl, g8, g9⟩ := ev_st_cons h8
  obtain ⟨va, st1, rfl, g1, g2⟩ := ev_st_cons g9
  have g1 : va = .ref (ex j) := g1
  subst g1
  obtain ⟨z, rfl, g6, g7, g10⟩ := ev_ix_some hi
  have e : vx = .int z := g8
  subst e
  have go := h al ws H locs ls lv (.int (xs i) :: st1) h1 h2 h3 h4 h5 h6 h7 ⟨hv al, g2⟩
  rw [← g7] at go
  exact va_sld hx hb hX hbl hbA h5 g6 hd go
theorem es_slen {j N : Nat} {xs : Nat → Int32} (hx : p.tables.exec = Jvm.exec) (hb : c.code = cc) (hd : decode cc pc = .ok (.arraylength, 1)) (hX : va_X (ex j) N xs s s.heap) (hbl : ex j < s.heap.size) (hbA : ¬ A (ex j))
    (h : ev_G p l e R s m args below meth c Q D cl tys A ex al0 nL (pc + 1, L, .inl (.int (Int32.ofNat N)) :: S, w, k, n)) : ev_G p l e R s m args below meth c Q D cl tys A ex al0 nL (pc, L, .inl (.retAddr j) :: S, w, k, n) := by
  intro al ws H locs ls lv st h1 h2 h3 h4 h5 h6 h7 h8
  obtain ⟨va, st1, rfl, g1, g2⟩ := ev_st_cons h8
  have g1 : va = .ref (ex j) := g1
  subst g1
  exact va_slen hx hb hX hbl hbA h5 hd (h al ws H locs ls lv (_ :: st1) h1 h2 h3 h4 h5 h6 h7 ⟨rfl, g2⟩)
end EvNew
end
