-- ===== PART A: goes FIRST, ahead of the names: the tables' words, and 'selects' of the private methods out of them =====
/-- a private method of a class that the tables say can be made, by its rows of tables_1 -/
def lw_okq (q : MethodName × Nat) : Prop := (q.1.cls ≠ "java/lang/invoke/MethodHandle" ∧ q.1.cls ≠ "java/lang/invoke/VarHandle") ∧ Cond.instantiable q.1.cls q.2 ∈ tables_1 ∧ Cond.privateMethod q.1 ∈ tables_1 ∧ Cond.instanceMethod q.1 ∈ tables_1
theorem lw_p0 : lw_okq (⟨"RefreshTrader$Layout", "reset", "()V"⟩, 7) := ⟨⟨by decide +kernel, by decide +kernel⟩, List.mem_of_getElem? (i := 76) (by decide +kernel), List.mem_of_getElem? (i := 82) (by decide +kernel), List.mem_of_getElem? (i := 83) (by decide +kernel)⟩
theorem lw_p1 : lw_okq (⟨"RefreshTrader$State", "reset", "()V"⟩, 9) := ⟨⟨by decide +kernel, by decide +kernel⟩, List.mem_of_getElem? (i := 129) (by decide +kernel), List.mem_of_getElem? (i := 253) (by decide +kernel), List.mem_of_getElem? (i := 254) (by decide +kernel)⟩
theorem lw_p2 : lw_okq (⟨"RefreshTrader$Banks", "reset", "()V"⟩, 7) := ⟨⟨by decide +kernel, by decide +kernel⟩, List.mem_of_getElem? (i := 135) (by decide +kernel), List.mem_of_getElem? (i := 269) (by decide +kernel), List.mem_of_getElem? (i := 270) (by decide +kernel)⟩
theorem lw_p3 : lw_okq (⟨"RefreshTrader$Rows", "reset", "()V"⟩, 5) := ⟨⟨by decide +kernel, by decide +kernel⟩, List.mem_of_getElem? (i := 180) (by decide +kernel), List.mem_of_getElem? (i := 274) (by decide +kernel), List.mem_of_getElem? (i := 275) (by decide +kernel)⟩
theorem lw_p4 : lw_okq (⟨"RefreshTrader$Requests", "reset", "()V"⟩, 8) := ⟨⟨by decide +kernel, by decide +kernel⟩, List.mem_of_getElem? (i := 210) (by decide +kernel), List.mem_of_getElem? (i := 279) (by decide +kernel), List.mem_of_getElem? (i := 280) (by decide +kernel)⟩
theorem lw_p5 : lw_okq (⟨"RefreshTrader$Input", "put", "(I)V"⟩, 6) := ⟨⟨by decide +kernel, by decide +kernel⟩, List.mem_of_getElem? (i := 47) (by decide +kernel), List.mem_of_getElem? (i := 947) (by decide +kernel), List.mem_of_getElem? (i := 948) (by decide +kernel)⟩
theorem lw_p6 : lw_okq (⟨"java/lang/Throwable", "fillInStackTrace", "(I)Ljava/lang/Throwable;"⟩, 6) := ⟨⟨by decide +kernel, by decide +kernel⟩, List.mem_of_getElem? (i := 994) (by decide +kernel), List.mem_of_getElem? (i := 992) (by decide +kernel), List.mem_of_getElem? (i := 993) (by decide +kernel)⟩
theorem lw_p7 : lw_okq (⟨"RefreshTrader$Parser", "read", "(I)I"⟩, 7) := ⟨⟨by decide +kernel, by decide +kernel⟩, List.mem_of_getElem? (i := 41) (by decide +kernel), List.mem_of_getElem? (i := 1023) (by decide +kernel), List.mem_of_getElem? (i := 1024) (by decide +kernel)⟩
theorem lw_p8 : lw_okq (⟨"RefreshTrader$Parser", "begin", "(I)V"⟩, 7) := ⟨⟨by decide +kernel, by decide +kernel⟩, List.mem_of_getElem? (i := 41) (by decide +kernel), List.mem_of_getElem? (i := 1027) (by decide +kernel), List.mem_of_getElem? (i := 1028) (by decide +kernel)⟩
theorem lw_p9 : lw_okq (⟨"RefreshTrader$Input", "open", "(I)V"⟩, 6) := ⟨⟨by decide +kernel, by decide +kernel⟩, List.mem_of_getElem? (i := 47) (by decide +kernel), List.mem_of_getElem? (i := 1033) (by decide +kernel), List.mem_of_getElem? (i := 1034) (by decide +kernel)⟩
theorem lw_p10 : lw_okq (⟨"RefreshTrader$Parser", "takeHead", "()Z"⟩, 7) := ⟨⟨by decide +kernel, by decide +kernel⟩, List.mem_of_getElem? (i := 41) (by decide +kernel), List.mem_of_getElem? (i := 1038) (by decide +kernel), List.mem_of_getElem? (i := 1039) (by decide +kernel)⟩
theorem lw_p11 : lw_okq (⟨"RefreshTrader$Input", "scan", "()V"⟩, 6) := ⟨⟨by decide +kernel, by decide +kernel⟩, List.mem_of_getElem? (i := 47) (by decide +kernel), List.mem_of_getElem? (i := 1042) (by decide +kernel), List.mem_of_getElem? (i := 1043) (by decide +kernel)⟩
theorem lw_p12 : lw_okq (⟨"RefreshTrader$Input", "isWord", "(Ljava/lang/String;)Z"⟩, 6) := ⟨⟨by decide +kernel, by decide +kernel⟩, List.mem_of_getElem? (i := 47) (by decide +kernel), List.mem_of_getElem? (i := 1050) (by decide +kernel), List.mem_of_getElem? (i := 1051) (by decide +kernel)⟩
theorem lw_p13 : lw_okq (⟨"RefreshTrader$Parser", "fail", "(I)Z"⟩, 7) := ⟨⟨by decide +kernel, by decide +kernel⟩, List.mem_of_getElem? (i := 41) (by decide +kernel), List.mem_of_getElem? (i := 1056) (by decide +kernel), List.mem_of_getElem? (i := 1057) (by decide +kernel)⟩
theorem lw_p14 : lw_okq (⟨"RefreshTrader$Parser", "takeNumber", "(II)Z"⟩, 7) := ⟨⟨by decide +kernel, by decide +kernel⟩, List.mem_of_getElem? (i := 41) (by decide +kernel), List.mem_of_getElem? (i := 1060) (by decide +kernel), List.mem_of_getElem? (i := 1061) (by decide +kernel)⟩
theorem lw_p15 : lw_okq (⟨"RefreshTrader$Input", "valueOfNumber", "()I"⟩, 6) := ⟨⟨by decide +kernel, by decide +kernel⟩, List.mem_of_getElem? (i := 47) (by decide +kernel), List.mem_of_getElem? (i := 1064) (by decide +kernel), List.mem_of_getElem? (i := 1065) (by decide +kernel)⟩
def lw_privs_1 : List (MethodName × Nat) := [(⟨"RefreshTrader$Layout", "reset", "()V"⟩, 7), (⟨"RefreshTrader$State", "reset", "()V"⟩, 9), (⟨"RefreshTrader$Banks", "reset", "()V"⟩, 7), (⟨"RefreshTrader$Rows", "reset", "()V"⟩, 5), (⟨"RefreshTrader$Requests", "reset", "()V"⟩, 8), (⟨"RefreshTrader$Input", "put", "(I)V"⟩, 6), (⟨"java/lang/Throwable", "fillInStackTrace", "(I)Ljava/lang/Throwable;"⟩, 6), (⟨"RefreshTrader$Parser", "read", "(I)I"⟩, 7), (⟨"RefreshTrader$Parser", "begin", "(I)V"⟩, 7), (⟨"RefreshTrader$Input", "open", "(I)V"⟩, 6), (⟨"RefreshTrader$Parser", "takeHead", "()Z"⟩, 7), (⟨"RefreshTrader$Input", "scan", "()V"⟩, 6), (⟨"RefreshTrader$Input", "isWord", "(Ljava/lang/String;)Z"⟩, 6), (⟨"RefreshTrader$Parser", "fail", "(I)Z"⟩, 7), (⟨"RefreshTrader$Parser", "takeNumber", "(II)Z"⟩, 7), (⟨"RefreshTrader$Input", "valueOfNumber", "()I"⟩, 6)]
theorem lw_r1 : ∀ q ∈ lw_privs_1, lw_okq q := List.forall_mem_cons.mpr ⟨lw_p0, List.forall_mem_cons.mpr ⟨lw_p1, List.forall_mem_cons.mpr ⟨lw_p2, List.forall_mem_cons.mpr ⟨lw_p3, List.forall_mem_cons.mpr ⟨lw_p4, List.forall_mem_cons.mpr ⟨lw_p5, List.forall_mem_cons.mpr ⟨lw_p6, List.forall_mem_cons.mpr ⟨lw_p7, List.forall_mem_cons.mpr ⟨lw_p8, List.forall_mem_cons.mpr ⟨lw_p9, List.forall_mem_cons.mpr ⟨lw_p10, List.forall_mem_cons.mpr ⟨lw_p11, List.forall_mem_cons.mpr ⟨lw_p12, List.forall_mem_cons.mpr ⟨lw_p13, List.forall_mem_cons.mpr ⟨lw_p14, List.forall_mem_cons.mpr ⟨lw_p15, fun _ h => absurd h List.not_mem_nil⟩⟩⟩⟩⟩⟩⟩⟩⟩⟩⟩⟩⟩⟩⟩⟩
theorem lw_p16 : lw_okq (⟨"RefreshTrader$Parser", "takeSemicolon", "()Z"⟩, 7) := ⟨⟨by decide +kernel, by decide +kernel⟩, List.mem_of_getElem? (i := 41) (by decide +kernel), List.mem_of_getElem? (i := 1068) (by decide +kernel), List.mem_of_getElem? (i := 1069) (by decide +kernel)⟩
theorem lw_p17 : lw_okq (⟨"RefreshTrader$Parser", "takeStatement", "()Z"⟩, 7) := ⟨⟨by decide +kernel, by decide +kernel⟩, List.mem_of_getElem? (i := 41) (by decide +kernel), List.mem_of_getElem? (i := 1072) (by decide +kernel), List.mem_of_getElem? (i := 1073) (by decide +kernel)⟩
theorem lw_p18 : lw_okq (⟨"RefreshTrader$Parser", "takeWeak", "()Z"⟩, 7) := ⟨⟨by decide +kernel, by decide +kernel⟩, List.mem_of_getElem? (i := 41) (by decide +kernel), List.mem_of_getElem? (i := 1077) (by decide +kernel), List.mem_of_getElem? (i := 1078) (by decide +kernel)⟩
theorem lw_p19 : lw_okq (⟨"RefreshTrader$Parser", "takeAsk", "()Z"⟩, 7) := ⟨⟨by decide +kernel, by decide +kernel⟩, List.mem_of_getElem? (i := 41) (by decide +kernel), List.mem_of_getElem? (i := 1085) (by decide +kernel), List.mem_of_getElem? (i := 1086) (by decide +kernel)⟩
theorem lw_p20 : lw_okq (⟨"RefreshTrader$Requests", "add", "(III)I"⟩, 8) := ⟨⟨by decide +kernel, by decide +kernel⟩, List.mem_of_getElem? (i := 210) (by decide +kernel), List.mem_of_getElem? (i := 1089) (by decide +kernel), List.mem_of_getElem? (i := 1090) (by decide +kernel)⟩
theorem lw_p21 : lw_okq (⟨"RefreshTrader$Parser", "takeTrading", "()Z"⟩, 7) := ⟨⟨by decide +kernel, by decide +kernel⟩, List.mem_of_getElem? (i := 41) (by decide +kernel), List.mem_of_getElem? (i := 1094) (by decide +kernel), List.mem_of_getElem? (i := 1095) (by decide +kernel)⟩
theorem lw_p22 : lw_okq (⟨"RefreshTrader$Parser", "takeSetting", "(I)Z"⟩, 7) := ⟨⟨by decide +kernel, by decide +kernel⟩, List.mem_of_getElem? (i := 41) (by decide +kernel), List.mem_of_getElem? (i := 1108) (by decide +kernel), List.mem_of_getElem? (i := 1109) (by decide +kernel)⟩
theorem lw_p23 : lw_okq (⟨"RefreshTrader$Layout", "copyFrom", "(LRefreshTrader$Layout;)V"⟩, 7) := ⟨⟨by decide +kernel, by decide +kernel⟩, List.mem_of_getElem? (i := 76) (by decide +kernel), List.mem_of_getElem? (i := 1116) (by decide +kernel), List.mem_of_getElem? (i := 1117) (by decide +kernel)⟩
theorem lw_p24 : lw_okq (⟨"RefreshTrader$State", "copyFrom", "(LRefreshTrader$State;)V"⟩, 9) := ⟨⟨by decide +kernel, by decide +kernel⟩, List.mem_of_getElem? (i := 129) (by decide +kernel), List.mem_of_getElem? (i := 1121) (by decide +kernel), List.mem_of_getElem? (i := 1122) (by decide +kernel)⟩
theorem lw_p25 : lw_okq (⟨"RefreshTrader$Banks", "copyFrom", "(LRefreshTrader$Banks;)V"⟩, 7) := ⟨⟨by decide +kernel, by decide +kernel⟩, List.mem_of_getElem? (i := 135) (by decide +kernel), List.mem_of_getElem? (i := 1125) (by decide +kernel), List.mem_of_getElem? (i := 1126) (by decide +kernel)⟩
theorem lw_p26 : lw_okq (⟨"RefreshTrader$Rows", "copyFrom", "(LRefreshTrader$Rows;)V"⟩, 5) := ⟨⟨by decide +kernel, by decide +kernel⟩, List.mem_of_getElem? (i := 180) (by decide +kernel), List.mem_of_getElem? (i := 1130) (by decide +kernel), List.mem_of_getElem? (i := 1131) (by decide +kernel)⟩
theorem lw_p27 : lw_okq (⟨"RefreshTrader$Requests", "copyFrom", "(LRefreshTrader$Requests;)V"⟩, 8) := ⟨⟨by decide +kernel, by decide +kernel⟩, List.mem_of_getElem? (i := 210) (by decide +kernel), List.mem_of_getElem? (i := 1135) (by decide +kernel), List.mem_of_getElem? (i := 1136) (by decide +kernel)⟩
theorem lw_p28 : lw_okq (⟨"RefreshTrader$History", "clear", "()V"⟩, 3) := ⟨⟨by decide +kernel, by decide +kernel⟩, List.mem_of_getElem? (i := 392) (by decide +kernel), List.mem_of_getElem? (i := 1140) (by decide +kernel), List.mem_of_getElem? (i := 1141) (by decide +kernel)⟩
theorem lw_p29 : lw_okq (⟨"RefreshTrader$Snapshots", "clear", "()V"⟩, 2) := ⟨⟨by decide +kernel, by decide +kernel⟩, List.mem_of_getElem? (i := 412) (by decide +kernel), List.mem_of_getElem? (i := 1144) (by decide +kernel), List.mem_of_getElem? (i := 1145) (by decide +kernel)⟩
theorem lw_p30 : lw_okq (⟨"RefreshTrader$History", "remember", "(LRefreshTrader$State;)V"⟩, 3) := ⟨⟨by decide +kernel, by decide +kernel⟩, List.mem_of_getElem? (i := 392) (by decide +kernel), List.mem_of_getElem? (i := 1159) (by decide +kernel), List.mem_of_getElem? (i := 1160) (by decide +kernel)⟩
theorem lw_p31 : lw_okq (⟨"RefreshTrader", "requireBank", "(I)V"⟩, 9) := ⟨⟨by decide +kernel, by decide +kernel⟩, List.mem_of_getElem? (i := 33) (by decide +kernel), List.mem_of_getElem? (i := 1181) (by decide +kernel), List.mem_of_getElem? (i := 1182) (by decide +kernel)⟩
def lw_privs_2 : List (MethodName × Nat) := [(⟨"RefreshTrader$Parser", "takeSemicolon", "()Z"⟩, 7), (⟨"RefreshTrader$Parser", "takeStatement", "()Z"⟩, 7), (⟨"RefreshTrader$Parser", "takeWeak", "()Z"⟩, 7), (⟨"RefreshTrader$Parser", "takeAsk", "()Z"⟩, 7), (⟨"RefreshTrader$Requests", "add", "(III)I"⟩, 8), (⟨"RefreshTrader$Parser", "takeTrading", "()Z"⟩, 7), (⟨"RefreshTrader$Parser", "takeSetting", "(I)Z"⟩, 7), (⟨"RefreshTrader$Layout", "copyFrom", "(LRefreshTrader$Layout;)V"⟩, 7), (⟨"RefreshTrader$State", "copyFrom", "(LRefreshTrader$State;)V"⟩, 9), (⟨"RefreshTrader$Banks", "copyFrom", "(LRefreshTrader$Banks;)V"⟩, 7), (⟨"RefreshTrader$Rows", "copyFrom", "(LRefreshTrader$Rows;)V"⟩, 5), (⟨"RefreshTrader$Requests", "copyFrom", "(LRefreshTrader$Requests;)V"⟩, 8), (⟨"RefreshTrader$History", "clear", "()V"⟩, 3), (⟨"RefreshTrader$Snapshots", "clear", "()V"⟩, 2), (⟨"RefreshTrader$History", "remember", "(LRefreshTrader$State;)V"⟩, 3), (⟨"RefreshTrader", "requireBank", "(I)V"⟩, 9)]
theorem lw_r2 : ∀ q ∈ lw_privs_2, lw_okq q := List.forall_mem_cons.mpr ⟨lw_p16, List.forall_mem_cons.mpr ⟨lw_p17, List.forall_mem_cons.mpr ⟨lw_p18, List.forall_mem_cons.mpr ⟨lw_p19, List.forall_mem_cons.mpr ⟨lw_p20, List.forall_mem_cons.mpr ⟨lw_p21, List.forall_mem_cons.mpr ⟨lw_p22, List.forall_mem_cons.mpr ⟨lw_p23, List.forall_mem_cons.mpr ⟨lw_p24, List.forall_mem_cons.mpr ⟨lw_p25, List.forall_mem_cons.mpr ⟨lw_p26, List.forall_mem_cons.mpr ⟨lw_p27, List.forall_mem_cons.mpr ⟨lw_p28, List.forall_mem_cons.mpr ⟨lw_p29, List.forall_mem_cons.mpr ⟨lw_p30, List.forall_mem_cons.mpr ⟨lw_p31, fun _ h => absurd h List.not_mem_nil⟩⟩⟩⟩⟩⟩⟩⟩⟩⟩⟩⟩⟩⟩⟩⟩
theorem lw_p32 : lw_okq (⟨"RefreshTrader$Layout", "hasBank", "(I)Z"⟩, 7) := ⟨⟨by decide +kernel, by decide +kernel⟩, List.mem_of_getElem? (i := 76) (by decide +kernel), List.mem_of_getElem? (i := 1185) (by decide +kernel), List.mem_of_getElem? (i := 1186) (by decide +kernel)⟩
theorem lw_p33 : lw_okq (⟨"RefreshTrader$State", "canTake", "(I)Z"⟩, 9) := ⟨⟨by decide +kernel, by decide +kernel⟩, List.mem_of_getElem? (i := 129) (by decide +kernel), List.mem_of_getElem? (i := 1206) (by decide +kernel), List.mem_of_getElem? (i := 1207) (by decide +kernel)⟩
theorem lw_p34 : lw_okq (⟨"RefreshTrader$State", "isHot", "(I)Z"⟩, 9) := ⟨⟨by decide +kernel, by decide +kernel⟩, List.mem_of_getElem? (i := 129) (by decide +kernel), List.mem_of_getElem? (i := 1210) (by decide +kernel), List.mem_of_getElem? (i := 1211) (by decide +kernel)⟩
theorem lw_p35 : lw_okq (⟨"RefreshTrader$State", "moveDebt", "(II)V"⟩, 9) := ⟨⟨by decide +kernel, by decide +kernel⟩, List.mem_of_getElem? (i := 129) (by decide +kernel), List.mem_of_getElem? (i := 1230) (by decide +kernel), List.mem_of_getElem? (i := 1231) (by decide +kernel)⟩
theorem lw_p36 : lw_okq (⟨"RefreshTrader", "requireRow", "(II)V"⟩, 9) := ⟨⟨by decide +kernel, by decide +kernel⟩, List.mem_of_getElem? (i := 33) (by decide +kernel), List.mem_of_getElem? (i := 1242) (by decide +kernel), List.mem_of_getElem? (i := 1243) (by decide +kernel)⟩
theorem lw_p37 : lw_okq (⟨"RefreshTrader$Layout", "hasRow", "(I)Z"⟩, 7) := ⟨⟨by decide +kernel, by decide +kernel⟩, List.mem_of_getElem? (i := 76) (by decide +kernel), List.mem_of_getElem? (i := 1246) (by decide +kernel), List.mem_of_getElem? (i := 1247) (by decide +kernel)⟩
theorem lw_p38 : lw_okq (⟨"RefreshTrader$Requests", "come", "(I)V"⟩, 8) := ⟨⟨by decide +kernel, by decide +kernel⟩, List.mem_of_getElem? (i := 210) (by decide +kernel), List.mem_of_getElem? (i := 1253) (by decide +kernel), List.mem_of_getElem? (i := 1254) (by decide +kernel)⟩
theorem lw_p39 : lw_okq (⟨"RefreshTrader$Requests", "has", "(I)Z"⟩, 8) := ⟨⟨by decide +kernel, by decide +kernel⟩, List.mem_of_getElem? (i := 210) (by decide +kernel), List.mem_of_getElem? (i := 1257) (by decide +kernel), List.mem_of_getElem? (i := 1258) (by decide +kernel)⟩
theorem lw_p40 : lw_okq (⟨"RefreshTrader$Ticker", "run", "(LRefreshTrader$State;I)I"⟩, 7) := ⟨⟨by decide +kernel, by decide +kernel⟩, List.mem_of_getElem? (i := 357) (by decide +kernel), List.mem_of_getElem? (i := 1267) (by decide +kernel), List.mem_of_getElem? (i := 1268) (by decide +kernel)⟩
theorem lw_p41 : lw_okq (⟨"RefreshTrader$Ticker", "tick", "(LRefreshTrader$State;)I"⟩, 7) := ⟨⟨by decide +kernel, by decide +kernel⟩, List.mem_of_getElem? (i := 357) (by decide +kernel), List.mem_of_getElem? (i := 1271) (by decide +kernel), List.mem_of_getElem? (i := 1272) (by decide +kernel)⟩
theorem lw_p42 : lw_okq (⟨"RefreshTrader$Ticker", "letRequestsCome", "(LRefreshTrader$State;)V"⟩, 7) := ⟨⟨by decide +kernel, by decide +kernel⟩, List.mem_of_getElem? (i := 357) (by decide +kernel), List.mem_of_getElem? (i := 1275) (by decide +kernel), List.mem_of_getElem? (i := 1276) (by decide +kernel)⟩
theorem lw_p43 : lw_okq (⟨"RefreshTrader$Ticker", "raiseDebts", "(LRefreshTrader$State;)V"⟩, 7) := ⟨⟨by decide +kernel, by decide +kernel⟩, List.mem_of_getElem? (i := 357) (by decide +kernel), List.mem_of_getElem? (i := 1280) (by decide +kernel), List.mem_of_getElem? (i := 1281) (by decide +kernel)⟩
theorem lw_p44 : lw_okq (⟨"RefreshTrader$Ticker", "tradeDebts", "(LRefreshTrader$State;)V"⟩, 7) := ⟨⟨by decide +kernel, by decide +kernel⟩, List.mem_of_getElem? (i := 357) (by decide +kernel), List.mem_of_getElem? (i := 1284) (by decide +kernel), List.mem_of_getElem? (i := 1285) (by decide +kernel)⟩
theorem lw_p45 : lw_okq (⟨"RefreshTrader$Ticker", "coolestTaker", "(LRefreshTrader$State;)I"⟩, 7) := ⟨⟨by decide +kernel, by decide +kernel⟩, List.mem_of_getElem? (i := 357) (by decide +kernel), List.mem_of_getElem? (i := 1289) (by decide +kernel), List.mem_of_getElem? (i := 1290) (by decide +kernel)⟩
theorem lw_p46 : lw_okq (⟨"RefreshTrader$Ticker", "lookAt", "(LRefreshTrader$State;I)V"⟩, 7) := ⟨⟨by decide +kernel, by decide +kernel⟩, List.mem_of_getElem? (i := 357) (by decide +kernel), List.mem_of_getElem? (i := 1296) (by decide +kernel), List.mem_of_getElem? (i := 1297) (by decide +kernel)⟩
theorem lw_p47 : lw_okq (⟨"RefreshTrader$Layout", "coolBoundOf", "(II)I"⟩, 7) := ⟨⟨by decide +kernel, by decide +kernel⟩, List.mem_of_getElem? (i := 76) (by decide +kernel), List.mem_of_getElem? (i := 1305) (by decide +kernel), List.mem_of_getElem? (i := 1306) (by decide +kernel)⟩
def lw_privs_3 : List (MethodName × Nat) := [(⟨"RefreshTrader$Layout", "hasBank", "(I)Z"⟩, 7), (⟨"RefreshTrader$State", "canTake", "(I)Z"⟩, 9), (⟨"RefreshTrader$State", "isHot", "(I)Z"⟩, 9), (⟨"RefreshTrader$State", "moveDebt", "(II)V"⟩, 9), (⟨"RefreshTrader", "requireRow", "(II)V"⟩, 9), (⟨"RefreshTrader$Layout", "hasRow", "(I)Z"⟩, 7), (⟨"RefreshTrader$Requests", "come", "(I)V"⟩, 8), (⟨"RefreshTrader$Requests", "has", "(I)Z"⟩, 8), (⟨"RefreshTrader$Ticker", "run", "(LRefreshTrader$State;I)I"⟩, 7), (⟨"RefreshTrader$Ticker", "tick", "(LRefreshTrader$State;)I"⟩, 7), (⟨"RefreshTrader$Ticker", "letRequestsCome", "(LRefreshTrader$State;)V"⟩, 7), (⟨"RefreshTrader$Ticker", "raiseDebts", "(LRefreshTrader$State;)V"⟩, 7), (⟨"RefreshTrader$Ticker", "tradeDebts", "(LRefreshTrader$State;)V"⟩, 7), (⟨"RefreshTrader$Ticker", "coolestTaker", "(LRefreshTrader$State;)I"⟩, 7), (⟨"RefreshTrader$Ticker", "lookAt", "(LRefreshTrader$State;I)V"⟩, 7), (⟨"RefreshTrader$Layout", "coolBoundOf", "(II)I"⟩, 7)]
theorem lw_r3 : ∀ q ∈ lw_privs_3, lw_okq q := List.forall_mem_cons.mpr ⟨lw_p32, List.forall_mem_cons.mpr ⟨lw_p33, List.forall_mem_cons.mpr ⟨lw_p34, List.forall_mem_cons.mpr ⟨lw_p35, List.forall_mem_cons.mpr ⟨lw_p36, List.forall_mem_cons.mpr ⟨lw_p37, List.forall_mem_cons.mpr ⟨lw_p38, List.forall_mem_cons.mpr ⟨lw_p39, List.forall_mem_cons.mpr ⟨lw_p40, List.forall_mem_cons.mpr ⟨lw_p41, List.forall_mem_cons.mpr ⟨lw_p42, List.forall_mem_cons.mpr ⟨lw_p43, List.forall_mem_cons.mpr ⟨lw_p44, List.forall_mem_cons.mpr ⟨lw_p45, List.forall_mem_cons.mpr ⟨lw_p46, List.forall_mem_cons.mpr ⟨lw_p47, fun _ h => absurd h List.not_mem_nil⟩⟩⟩⟩⟩⟩⟩⟩⟩⟩⟩⟩⟩⟩⟩⟩
theorem lw_p48 : lw_okq (⟨"RefreshTrader$Requests", "inLineOf", "(II)I"⟩, 8) := ⟨⟨by decide +kernel, by decide +kernel⟩, List.mem_of_getElem? (i := 210) (by decide +kernel), List.mem_of_getElem? (i := 1312) (by decide +kernel), List.mem_of_getElem? (i := 1313) (by decide +kernel)⟩
theorem lw_p49 : lw_okq (⟨"RefreshTrader$Ticker", "wishOf", "(LRefreshTrader$State;I)I"⟩, 7) := ⟨⟨by decide +kernel, by decide +kernel⟩, List.mem_of_getElem? (i := 357) (by decide +kernel), List.mem_of_getElem? (i := 1316) (by decide +kernel), List.mem_of_getElem? (i := 1317) (by decide +kernel)⟩
theorem lw_p50 : lw_okq (⟨"RefreshTrader$Ticker", "grantWishes", "(LRefreshTrader$State;)V"⟩, 7) := ⟨⟨by decide +kernel, by decide +kernel⟩, List.mem_of_getElem? (i := 357) (by decide +kernel), List.mem_of_getElem? (i := 1321) (by decide +kernel), List.mem_of_getElem? (i := 1322) (by decide +kernel)⟩
theorem lw_p51 : lw_okq (⟨"RefreshTrader$Ticker", "firstUngranted", "(LRefreshTrader$State;)I"⟩, 7) := ⟨⟨by decide +kernel, by decide +kernel⟩, List.mem_of_getElem? (i := 357) (by decide +kernel), List.mem_of_getElem? (i := 1328) (by decide +kernel), List.mem_of_getElem? (i := 1329) (by decide +kernel)⟩
theorem lw_p52 : lw_okq (⟨"RefreshTrader$Ticker", "isAhead", "(LRefreshTrader$State;II)Z"⟩, 7) := ⟨⟨by decide +kernel, by decide +kernel⟩, List.mem_of_getElem? (i := 357) (by decide +kernel), List.mem_of_getElem? (i := 1335) (by decide +kernel), List.mem_of_getElem? (i := 1336) (by decide +kernel)⟩
theorem lw_p53 : lw_okq (⟨"RefreshTrader$Ticker", "act", "(LRefreshTrader$State;I)V"⟩, 7) := ⟨⟨by decide +kernel, by decide +kernel⟩, List.mem_of_getElem? (i := 357) (by decide +kernel), List.mem_of_getElem? (i := 1339) (by decide +kernel), List.mem_of_getElem? (i := 1340) (by decide +kernel)⟩
theorem lw_p54 : lw_okq (⟨"RefreshTrader$State", "refresh", "(II)V"⟩, 9) := ⟨⟨by decide +kernel, by decide +kernel⟩, List.mem_of_getElem? (i := 129) (by decide +kernel), List.mem_of_getElem? (i := 1343) (by decide +kernel), List.mem_of_getElem? (i := 1344) (by decide +kernel)⟩
theorem lw_p55 : lw_okq (⟨"RefreshTrader$Rows", "touch", "(I)V"⟩, 5) := ⟨⟨by decide +kernel, by decide +kernel⟩, List.mem_of_getElem? (i := 180) (by decide +kernel), List.mem_of_getElem? (i := 1348) (by decide +kernel), List.mem_of_getElem? (i := 1349) (by decide +kernel)⟩
theorem lw_p56 : lw_okq (⟨"RefreshTrader$State", "serve", "(II)V"⟩, 9) := ⟨⟨by decide +kernel, by decide +kernel⟩, List.mem_of_getElem? (i := 129) (by decide +kernel), List.mem_of_getElem? (i := 1352) (by decide +kernel), List.mem_of_getElem? (i := 1353) (by decide +kernel)⟩
theorem lw_p57 : lw_okq (⟨"RefreshTrader$Ticker", "growRows", "(LRefreshTrader$State;)I"⟩, 7) := ⟨⟨by decide +kernel, by decide +kernel⟩, List.mem_of_getElem? (i := 357) (by decide +kernel), List.mem_of_getElem? (i := 1357) (by decide +kernel), List.mem_of_getElem? (i := 1358) (by decide +kernel)⟩
theorem lw_p58 : lw_okq (⟨"RefreshTrader$Rows", "grow", "(II)I"⟩, 5) := ⟨⟨by decide +kernel, by decide +kernel⟩, List.mem_of_getElem? (i := 180) (by decide +kernel), List.mem_of_getElem? (i := 1361) (by decide +kernel), List.mem_of_getElem? (i := 1362) (by decide +kernel)⟩
theorem lw_p59 : lw_okq (⟨"RefreshTrader$Ticker", "coolBanks", "(LRefreshTrader$State;)V"⟩, 7) := ⟨⟨by decide +kernel, by decide +kernel⟩, List.mem_of_getElem? (i := 357) (by decide +kernel), List.mem_of_getElem? (i := 1365) (by decide +kernel), List.mem_of_getElem? (i := 1366) (by decide +kernel)⟩
theorem lw_p60 : lw_okq (⟨"RefreshTraderLaw$Memory", "wish", "(LRefreshTraderLaw$Bank;)I"⟩, 17) := ⟨⟨by decide +kernel, by decide +kernel⟩, List.mem_of_getElem? (i := 492) (by decide +kernel), List.mem_of_getElem? (i := 1398) (by decide +kernel), List.mem_of_getElem? (i := 1399) (by decide +kernel)⟩
theorem lw_p61 : lw_okq (⟨"RefreshTraderLaw$Memory", "ahead", "(LRefreshTraderLaw$Bank;LRefreshTraderLaw$Bank;)Z"⟩, 17) := ⟨⟨by decide +kernel, by decide +kernel⟩, List.mem_of_getElem? (i := 492) (by decide +kernel), List.mem_of_getElem? (i := 1405) (by decide +kernel), List.mem_of_getElem? (i := 1406) (by decide +kernel)⟩
theorem lw_p62 : lw_okq (⟨"RefreshTrader$Requests", "countOfBank", "(II)I"⟩, 8) := ⟨⟨by decide +kernel, by decide +kernel⟩, List.mem_of_getElem? (i := 210) (by decide +kernel), List.mem_of_getElem? (i := 1421) (by decide +kernel), List.mem_of_getElem? (i := 1422) (by decide +kernel)⟩
theorem lw_p63 : lw_okq (⟨"RefreshTrader", "requireRequest", "(I)V"⟩, 9) := ⟨⟨by decide +kernel, by decide +kernel⟩, List.mem_of_getElem? (i := 33) (by decide +kernel), List.mem_of_getElem? (i := 1441) (by decide +kernel), List.mem_of_getElem? (i := 1442) (by decide +kernel)⟩
def lw_privs_4 : List (MethodName × Nat) := [(⟨"RefreshTrader$Requests", "inLineOf", "(II)I"⟩, 8), (⟨"RefreshTrader$Ticker", "wishOf", "(LRefreshTrader$State;I)I"⟩, 7), (⟨"RefreshTrader$Ticker", "grantWishes", "(LRefreshTrader$State;)V"⟩, 7), (⟨"RefreshTrader$Ticker", "firstUngranted", "(LRefreshTrader$State;)I"⟩, 7), (⟨"RefreshTrader$Ticker", "isAhead", "(LRefreshTrader$State;II)Z"⟩, 7), (⟨"RefreshTrader$Ticker", "act", "(LRefreshTrader$State;I)V"⟩, 7), (⟨"RefreshTrader$State", "refresh", "(II)V"⟩, 9), (⟨"RefreshTrader$Rows", "touch", "(I)V"⟩, 5), (⟨"RefreshTrader$State", "serve", "(II)V"⟩, 9), (⟨"RefreshTrader$Ticker", "growRows", "(LRefreshTrader$State;)I"⟩, 7), (⟨"RefreshTrader$Rows", "grow", "(II)I"⟩, 5), (⟨"RefreshTrader$Ticker", "coolBanks", "(LRefreshTrader$State;)V"⟩, 7), (⟨"RefreshTraderLaw$Memory", "wish", "(LRefreshTraderLaw$Bank;)I"⟩, 17), (⟨"RefreshTraderLaw$Memory", "ahead", "(LRefreshTraderLaw$Bank;LRefreshTraderLaw$Bank;)Z"⟩, 17), (⟨"RefreshTrader$Requests", "countOfBank", "(II)I"⟩, 8), (⟨"RefreshTrader", "requireRequest", "(I)V"⟩, 9)]
theorem lw_r4 : ∀ q ∈ lw_privs_4, lw_okq q := List.forall_mem_cons.mpr ⟨lw_p48, List.forall_mem_cons.mpr ⟨lw_p49, List.forall_mem_cons.mpr ⟨lw_p50, List.forall_mem_cons.mpr ⟨lw_p51, List.forall_mem_cons.mpr ⟨lw_p52, List.forall_mem_cons.mpr ⟨lw_p53, List.forall_mem_cons.mpr ⟨lw_p54, List.forall_mem_cons.mpr ⟨lw_p55, List.forall_mem_cons.mpr ⟨lw_p56, List.forall_mem_cons.mpr ⟨lw_p57, List.forall_mem_cons.mpr ⟨lw_p58, List.forall_mem_cons.mpr ⟨lw_p59, List.forall_mem_cons.mpr ⟨lw_p60, List.forall_mem_cons.mpr ⟨lw_p61, List.forall_mem_cons.mpr ⟨lw_p62, List.forall_mem_cons.mpr ⟨lw_p63, fun _ h => absurd h List.not_mem_nil⟩⟩⟩⟩⟩⟩⟩⟩⟩⟩⟩⟩⟩⟩⟩⟩
theorem lw_p64 : lw_okq (⟨"RefreshTrader$Requests", "countIn", "(I)I"⟩, 8) := ⟨⟨by decide +kernel, by decide +kernel⟩, List.mem_of_getElem? (i := 210) (by decide +kernel), List.mem_of_getElem? (i := 1451) (by decide +kernel), List.mem_of_getElem? (i := 1452) (by decide +kernel)⟩
theorem lw_p65 : lw_okq (⟨"RefreshTrader", "countLostRows", "()I"⟩, 9) := ⟨⟨by decide +kernel, by decide +kernel⟩, List.mem_of_getElem? (i := 33) (by decide +kernel), List.mem_of_getElem? (i := 1455) (by decide +kernel), List.mem_of_getElem? (i := 1456) (by decide +kernel)⟩
theorem lw_p66 : lw_okq (⟨"RefreshTrader", "countHotBanks", "()I"⟩, 9) := ⟨⟨by decide +kernel, by decide +kernel⟩, List.mem_of_getElem? (i := 33) (by decide +kernel), List.mem_of_getElem? (i := 1459) (by decide +kernel), List.mem_of_getElem? (i := 1460) (by decide +kernel)⟩
theorem lw_p67 : lw_okq (⟨"RefreshTrader", "timeOfTrialLoss", "(I)I"⟩, 9) := ⟨⟨by decide +kernel, by decide +kernel⟩, List.mem_of_getElem? (i := 33) (by decide +kernel), List.mem_of_getElem? (i := 1511) (by decide +kernel), List.mem_of_getElem? (i := 1512) (by decide +kernel)⟩
theorem lw_p68 : lw_okq (⟨"RefreshTrader", "requireTicksAhead", "(I)V"⟩, 9) := ⟨⟨by decide +kernel, by decide +kernel⟩, List.mem_of_getElem? (i := 33) (by decide +kernel), List.mem_of_getElem? (i := 1519) (by decide +kernel), List.mem_of_getElem? (i := 1520) (by decide +kernel)⟩
theorem lw_p69 : lw_okq (⟨"RefreshTrader", "lossesWithTrading", "(ZI)I"⟩, 9) := ⟨⟨by decide +kernel, by decide +kernel⟩, List.mem_of_getElem? (i := 33) (by decide +kernel), List.mem_of_getElem? (i := 1527) (by decide +kernel), List.mem_of_getElem? (i := 1528) (by decide +kernel)⟩
def lw_privs_5 : List (MethodName × Nat) := [(⟨"RefreshTrader$Requests", "countIn", "(I)I"⟩, 8), (⟨"RefreshTrader", "countLostRows", "()I"⟩, 9), (⟨"RefreshTrader", "countHotBanks", "()I"⟩, 9), (⟨"RefreshTrader", "timeOfTrialLoss", "(I)I"⟩, 9), (⟨"RefreshTrader", "requireTicksAhead", "(I)V"⟩, 9), (⟨"RefreshTrader", "lossesWithTrading", "(ZI)I"⟩, 9)]
theorem lw_r5 : ∀ q ∈ lw_privs_5, lw_okq q := List.forall_mem_cons.mpr ⟨lw_p64, List.forall_mem_cons.mpr ⟨lw_p65, List.forall_mem_cons.mpr ⟨lw_p66, List.forall_mem_cons.mpr ⟨lw_p67, List.forall_mem_cons.mpr ⟨lw_p68, List.forall_mem_cons.mpr ⟨lw_p69, fun _ h => absurd h List.not_mem_nil⟩⟩⟩⟩⟩⟩
def lw_privs : List (MethodName × Nat) := lw_privs_1 ++ (lw_privs_2 ++ (lw_privs_3 ++ (lw_privs_4 ++ (lw_privs_5))))
def lw_tbl : List Cond := k2_sels lw_privs ++ tables_1
theorem lw_privs_ok : ∀ q ∈ lw_privs, lw_okq q := by
  show ∀ q ∈ lw_privs_1 ++ (lw_privs_2 ++ (lw_privs_3 ++ (lw_privs_4 ++ (lw_privs_5)))), lw_okq q
  exact List.forall_mem_append.mpr ⟨lw_r1, List.forall_mem_append.mpr ⟨lw_r2, List.forall_mem_append.mpr ⟨lw_r3, List.forall_mem_append.mpr ⟨lw_r4, lw_r5⟩⟩⟩⟩
/-- the streams that the claim lets the run draw from -/
abbrev lw_cs : List Choice := [Jvm.Choice.named "NaN.bits"]
theorem lw_bits : nanBits ∈ lw_cs := by first | decide | exact List.mem_cons_self | simp [lw_cs, nanBits]

def RX0 : String := "RefreshTrader$Banks"
def TX0 : u_T := fun k => match k with
  | 0 => ("RefreshTrader$Banks", "debt", "[I", true)
  | 1 => ("RefreshTrader$Banks", "heat", "[I", true)
  | 2 => ("RefreshTrader$Banks", "refreshes", "[I", true)
  | 3 => ("RefreshTrader$Banks", "given", "[I", true)
  | 4 => ("RefreshTrader$Banks", "taken", "[I", true)
  | 5 => ("RefreshTrader$Banks", "wish", "[I", true)
  | _ => ("RefreshTrader$Banks", "granted", "[I", true)
def tyX0 : Nat → FieldType := fun k => match k with
  | 0 => .array .int
  | 1 => .array .int
  | 2 => .array .int
  | 3 => .array .int
  | 4 => .array .int
  | 5 => .array .int
  | _ => .array .int
abbrev wsX00 : List Cond := u_ws RX0 TX0 7
theorem nmX0 : ∀ a, a < 7 → ∀ b, b < 7 → a ≠ b → (TX0 a).2.1 ≠ (TX0 b).2.1 := by decide +kernel
theorem tyX0_ok : ∀ k, k < 7 → parseFieldDescriptor (TX0 k).2.2.1 = some (tyX0 k) := by decide +kernel
def RX1 : String := "RefreshTrader$History"
def TX1 : u_T := fun k => match k with
  | 0 => ("RefreshTrader$History", "states", "[LRefreshTrader$State;", true)
  | 1 => ("RefreshTrader$History", "end", "I", false)
  | _ => ("RefreshTrader$History", "count", "I", false)
def tyX1 : Nat → FieldType := fun k => match k with
  | 0 => .array (.object "RefreshTrader$State")
  | 1 => .int
  | _ => .int
abbrev wsX10 : List Cond := u_ws RX1 TX1 3
theorem nmX1 : ∀ a, a < 3 → ∀ b, b < 3 → a ≠ b → (TX1 a).2.1 ≠ (TX1 b).2.1 := by decide +kernel
theorem tyX1_ok : ∀ k, k < 3 → parseFieldDescriptor (TX1 k).2.2.1 = some (tyX1 k) := by decide +kernel
def RX2 : String := "RefreshTrader$Input"
def TX2 : u_T := fun k => match k with
  | 0 => ("RefreshTrader$Input", "bytes", "[B", true)
  | 1 => ("RefreshTrader$Input", "length", "I", false)
  | 2 => ("RefreshTrader$Input", "textLength", "I", false)
  | 3 => ("RefreshTrader$Input", "kind", "I", false)
  | 4 => ("RefreshTrader$Input", "start", "I", false)
  | _ => ("RefreshTrader$Input", "end", "I", false)
def tyX2 : Nat → FieldType := fun k => match k with
  | 0 => .array .byte
  | 1 => .int
  | 2 => .int
  | 3 => .int
  | 4 => .int
  | _ => .int
abbrev wsX20 : List Cond := u_ws RX2 TX2 6
theorem nmX2 : ∀ a, a < 6 → ∀ b, b < 6 → a ≠ b → (TX2 a).2.1 ≠ (TX2 b).2.1 := by decide +kernel
theorem tyX2_ok : ∀ k, k < 6 → parseFieldDescriptor (TX2 k).2.2.1 = some (tyX2 k) := by decide +kernel
def RX3 : String := "RefreshTrader$Layout"
def TX3 : u_T := fun k => match k with
  | 0 => ("RefreshTrader$Layout", "banks", "I", false)
  | 1 => ("RefreshTrader$Layout", "rows", "I", false)
  | 2 => ("RefreshTrader$Layout", "bound", "I", false)
  | 3 => ("RefreshTrader$Layout", "interval", "I", false)
  | 4 => ("RefreshTrader$Layout", "textRequests", "I", false)
  | 5 => ("RefreshTrader$Layout", "weakBound", "[I", true)
  | _ => ("RefreshTrader$Layout", "weakFrom", "[I", true)
def tyX3 : Nat → FieldType := fun k => match k with
  | 0 => .int
  | 1 => .int
  | 2 => .int
  | 3 => .int
  | 4 => .int
  | 5 => .array .int
  | _ => .array .int
abbrev wsX30 : List Cond := u_ws RX3 TX3 7
theorem nmX3 : ∀ a, a < 7 → ∀ b, b < 7 → a ≠ b → (TX3 a).2.1 ≠ (TX3 b).2.1 := by decide +kernel
theorem tyX3_ok : ∀ k, k < 7 → parseFieldDescriptor (TX3 k).2.2.1 = some (tyX3 k) := by decide +kernel
def RX4 : String := "RefreshTrader$Parser"
def TX4 : u_T := fun k => match k with
  | 0 => ("RefreshTrader$Parser", "input", "LRefreshTrader$Input;", true)
  | 1 => ("RefreshTrader$Parser", "layout", "LRefreshTrader$Layout;", true)
  | 2 => ("RefreshTrader$Parser", "state", "LRefreshTrader$State;", true)
  | 3 => ("RefreshTrader$Parser", "isTold", "[Z", true)
  | 4 => ("RefreshTrader$Parser", "value", "I", false)
  | 5 => ("RefreshTrader$Parser", "errorCode", "I", false)
  | _ => ("RefreshTrader$Parser", "errorPosition", "I", false)
def tyX4 : Nat → FieldType := fun k => match k with
  | 0 => .object "RefreshTrader$Input"
  | 1 => .object "RefreshTrader$Layout"
  | 2 => .object "RefreshTrader$State"
  | 3 => .array .boolean
  | 4 => .int
  | 5 => .int
  | _ => .int
abbrev wsX40 : List Cond := u_ws RX4 TX4 7
theorem nmX4 : ∀ a, a < 7 → ∀ b, b < 7 → a ≠ b → (TX4 a).2.1 ≠ (TX4 b).2.1 := by decide +kernel
theorem tyX4_ok : ∀ k, k < 7 → parseFieldDescriptor (TX4 k).2.2.1 = some (tyX4 k) := by decide +kernel
def RX5 : String := "RefreshTrader$Requests"
def TX5 : u_T := fun k => match k with
  | 0 => ("RefreshTrader$Requests", "count", "I", false)
  | 1 => ("RefreshTrader$Requests", "came", "I", false)
  | 2 => ("RefreshTrader$Requests", "bank", "[I", true)
  | 3 => ("RefreshTrader$Requests", "row", "[I", true)
  | 4 => ("RefreshTrader$Requests", "comesAt", "[I", true)
  | 5 => ("RefreshTrader$Requests", "phase", "[I", true)
  | 6 => ("RefreshTrader$Requests", "servedAt", "[I", true)
  | _ => ("RefreshTrader$Requests", "line", "[I", true)
def tyX5 : Nat → FieldType := fun k => match k with
  | 0 => .int
  | 1 => .int
  | 2 => .array .int
  | 3 => .array .int
  | 4 => .array .int
  | 5 => .array .int
  | 6 => .array .int
  | _ => .array .int
abbrev wsX50 : List Cond := u_ws RX5 TX5 8
theorem nmX5 : ∀ a, a < 8 → ∀ b, b < 8 → a ≠ b → (TX5 a).2.1 ≠ (TX5 b).2.1 := by decide +kernel
theorem tyX5_ok : ∀ k, k < 8 → parseFieldDescriptor (TX5 k).2.2.1 = some (tyX5 k) := by decide +kernel
def RX6 : String := "RefreshTrader$Rows"
def TX6 : u_T := fun k => match k with
  | 0 => ("RefreshTrader$Rows", "age", "[I", true)
  | 1 => ("RefreshTrader$Rows", "lost", "[I", true)
  | 2 => ("RefreshTrader$Rows", "refreshes", "[I", true)
  | 3 => ("RefreshTrader$Rows", "accesses", "[I", true)
  | _ => ("RefreshTrader$Rows", "losses", "[I", true)
def tyX6 : Nat → FieldType := fun k => match k with
  | 0 => .array .int
  | 1 => .array .int
  | 2 => .array .int
  | 3 => .array .int
  | _ => .array .int
abbrev wsX60 : List Cond := u_ws RX6 TX6 5
theorem nmX6 : ∀ a, a < 5 → ∀ b, b < 5 → a ≠ b → (TX6 a).2.1 ≠ (TX6 b).2.1 := by decide +kernel
theorem tyX6_ok : ∀ k, k < 5 → parseFieldDescriptor (TX6 k).2.2.1 = some (tyX6 k) := by decide +kernel
def RX7 : String := "RefreshTrader$Snapshots"
def TX7 : u_T := fun k => match k with
  | 0 => ("RefreshTrader$Snapshots", "states", "[LRefreshTrader$State;", true)
  | _ => ("RefreshTrader$Snapshots", "isSaved", "[Z", true)
def tyX7 : Nat → FieldType := fun k => match k with
  | 0 => .array (.object "RefreshTrader$State")
  | _ => .array .boolean
abbrev wsX70 : List Cond := u_ws RX7 TX7 2
theorem nmX7 : ∀ a, a < 2 → ∀ b, b < 2 → a ≠ b → (TX7 a).2.1 ≠ (TX7 b).2.1 := by decide +kernel
theorem tyX7_ok : ∀ k, k < 2 → parseFieldDescriptor (TX7 k).2.2.1 = some (tyX7 k) := by decide +kernel
def RX8 : String := "RefreshTrader$State"
def TX8 : u_T := fun k => match k with
  | 0 => ("RefreshTrader$State", "time", "I", false)
  | 1 => ("RefreshTrader$State", "trading", "Z", false)
  | 2 => ("RefreshTrader$State", "sumOfWaits", "I", false)
  | 3 => ("RefreshTrader$State", "greatestOfWaits", "I", false)
  | 4 => ("RefreshTrader$State", "settings", "[I", true)
  | 5 => ("RefreshTrader$State", "sums", "[I", true)
  | 6 => ("RefreshTrader$State", "banks", "LRefreshTrader$Banks;", true)
  | 7 => ("RefreshTrader$State", "rows", "LRefreshTrader$Rows;", true)
  | _ => ("RefreshTrader$State", "requests", "LRefreshTrader$Requests;", true)
def tyX8 : Nat → FieldType := fun k => match k with
  | 0 => .int
  | 1 => .boolean
  | 2 => .int
  | 3 => .int
  | 4 => .array .int
  | 5 => .array .int
  | 6 => .object "RefreshTrader$Banks"
  | 7 => .object "RefreshTrader$Rows"
  | _ => .object "RefreshTrader$Requests"
abbrev wsX80 : List Cond := u_ws RX8 TX8 9
theorem nmX8 : ∀ a, a < 9 → ∀ b, b < 9 → a ≠ b → (TX8 a).2.1 ≠ (TX8 b).2.1 := by decide +kernel
theorem tyX8_ok : ∀ k, k < 9 → parseFieldDescriptor (TX8 k).2.2.1 = some (tyX8 k) := by decide +kernel
def RX9 : String := "RefreshTrader$Ticker"
def TX9 : u_T := fun k => match k with
  | 0 => ("RefreshTrader$Ticker", "layout", "LRefreshTrader$Layout;", true)
  | 1 => ("RefreshTrader$Ticker", "bound", "[I", true)
  | 2 => ("RefreshTrader$Ticker", "weakestRow", "[I", true)
  | 3 => ("RefreshTrader$Ticker", "leastRemains", "[I", true)
  | 4 => ("RefreshTrader$Ticker", "firstWaiting", "[I", true)
  | 5 => ("RefreshTrader$Ticker", "touched", "[I", true)
  | _ => ("RefreshTrader$Ticker", "serving", "[I", true)
def tyX9 : Nat → FieldType := fun k => match k with
  | 0 => .object "RefreshTrader$Layout"
  | 1 => .array .int
  | 2 => .array .int
  | 3 => .array .int
  | 4 => .array .int
  | 5 => .array .int
  | _ => .array .int
abbrev wsX90 : List Cond := u_ws RX9 TX9 7
theorem nmX9 : ∀ a, a < 7 → ∀ b, b < 7 → a ≠ b → (TX9 a).2.1 ≠ (TX9 b).2.1 := by decide +kernel
theorem tyX9_ok : ∀ k, k < 7 → parseFieldDescriptor (TX9 k).2.2.1 = some (tyX9 k) := by decide +kernel
def RX10 : String := "RefreshTrader"
def TX10 : u_T := fun k => match k with
  | 0 => ("RefreshTrader", "parser", "LRefreshTrader$Parser;", true)
  | 1 => ("RefreshTrader", "input", "LRefreshTrader$Input;", true)
  | 2 => ("RefreshTrader", "ticker", "LRefreshTrader$Ticker;", true)
  | 3 => ("RefreshTrader", "layout", "LRefreshTrader$Layout;", true)
  | 4 => ("RefreshTrader", "now", "LRefreshTrader$State;", true)
  | 5 => ("RefreshTrader", "trial", "LRefreshTrader$State;", true)
  | 6 => ("RefreshTrader", "history", "LRefreshTrader$History;", true)
  | 7 => ("RefreshTrader", "snapshots", "LRefreshTrader$Snapshots;", true)
  | _ => ("RefreshTrader", "lastErrorPosition", "I", false)
def tyX10 : Nat → FieldType := fun k => match k with
  | 0 => .object "RefreshTrader$Parser"
  | 1 => .object "RefreshTrader$Input"
  | 2 => .object "RefreshTrader$Ticker"
  | 3 => .object "RefreshTrader$Layout"
  | 4 => .object "RefreshTrader$State"
  | 5 => .object "RefreshTrader$State"
  | 6 => .object "RefreshTrader$History"
  | 7 => .object "RefreshTrader$Snapshots"
  | _ => .int
abbrev wsX100 : List Cond := u_ws RX10 TX10 9
theorem nmX10 : ∀ a, a < 9 → ∀ b, b < 9 → a ≠ b → (TX10 a).2.1 ≠ (TX10 b).2.1 := by decide +kernel
theorem tyX10_ok : ∀ k, k < 9 → parseFieldDescriptor (TX10 k).2.2.1 = some (tyX10 k) := by decide +kernel
def RX11 : String := "RefreshTraderLaw$Bank"
def TX11 : u_T := fun k => match k with
  | 0 => ("RefreshTraderLaw$Bank", "debt", "I", false)
  | 1 => ("RefreshTraderLaw$Bank", "heat", "I", false)
  | 2 => ("RefreshTraderLaw$Bank", "served", "I", false)
  | 3 => ("RefreshTraderLaw$Bank", "refreshed", "I", false)
  | 4 => ("RefreshTraderLaw$Bank", "gave", "I", false)
  | 5 => ("RefreshTraderLaw$Bank", "took", "I", false)
  | 6 => ("RefreshTraderLaw$Bank", "wish", "I", false)
  | 7 => ("RefreshTraderLaw$Bank", "granted", "I", false)
  | 8 => ("RefreshTraderLaw$Bank", "waiting", "I", false)
  | 9 => ("RefreshTraderLaw$Bank", "weak", "I", false)
  | 10 => ("RefreshTraderLaw$Bank", "touches", "I", false)
  | 11 => ("RefreshTraderLaw$Bank", "serves", "I", false)
  | 12 => ("RefreshTraderLaw$Bank", "wasHot", "Z", false)
  | 13 => ("RefreshTraderLaw$Bank", "own", "[I", true)
  | 14 => ("RefreshTraderLaw$Bank", "from", "[I", true)
  | 15 => ("RefreshTraderLaw$Bank", "age", "[I", true)
  | 16 => ("RefreshTraderLaw$Bank", "refreshes", "[I", true)
  | 17 => ("RefreshTraderLaw$Bank", "accesses", "[I", true)
  | 18 => ("RefreshTraderLaw$Bank", "losses", "[I", true)
  | 19 => ("RefreshTraderLaw$Bank", "queue", "[I", true)
  | _ => ("RefreshTraderLaw$Bank", "lost", "[Z", true)
def tyX11 : Nat → FieldType := fun k => match k with
  | 0 => .int
  | 1 => .int
  | 2 => .int
  | 3 => .int
  | 4 => .int
  | 5 => .int
  | 6 => .int
  | 7 => .int
  | 8 => .int
  | 9 => .int
  | 10 => .int
  | 11 => .int
  | 12 => .boolean
  | 13 => .array .int
  | 14 => .array .int
  | 15 => .array .int
  | 16 => .array .int
  | 17 => .array .int
  | 18 => .array .int
  | 19 => .array .int
  | _ => .array .boolean
abbrev wsX110 : List Cond := u_ws RX11 TX11 21
theorem nmX11 : ∀ a, a < 21 → ∀ b, b < 21 → a ≠ b → (TX11 a).2.1 ≠ (TX11 b).2.1 := by decide +kernel
theorem tyX11_ok : ∀ k, k < 21 → parseFieldDescriptor (TX11 k).2.2.1 = some (tyX11 k) := by decide +kernel
def RX12 : String := "RefreshTraderLaw$Memory"
def TX12 : u_T := fun k => match k with
  | 0 => ("RefreshTraderLaw$Memory", "banks", "I", false)
  | 1 => ("RefreshTraderLaw$Memory", "rows", "I", false)
  | 2 => ("RefreshTraderLaw$Memory", "bound", "I", false)
  | 3 => ("RefreshTraderLaw$Memory", "interval", "I", false)
  | 4 => ("RefreshTraderLaw$Memory", "time", "I", false)
  | 5 => ("RefreshTraderLaw$Memory", "requests", "I", false)
  | 6 => ("RefreshTraderLaw$Memory", "waits", "I", false)
  | 7 => ("RefreshTraderLaw$Memory", "longest", "I", false)
  | 8 => ("RefreshTraderLaw$Memory", "trading", "Z", false)
  | 9 => ("RefreshTraderLaw$Memory", "set", "[I", true)
  | 10 => ("RefreshTraderLaw$Memory", "accounts", "[I", true)
  | 11 => ("RefreshTraderLaw$Memory", "bank", "[I", true)
  | 12 => ("RefreshTraderLaw$Memory", "row", "[I", true)
  | 13 => ("RefreshTraderLaw$Memory", "tick", "[I", true)
  | 14 => ("RefreshTraderLaw$Memory", "state", "[I", true)
  | 15 => ("RefreshTraderLaw$Memory", "servedAt", "[I", true)
  | _ => ("RefreshTraderLaw$Memory", "all", "[LRefreshTraderLaw$Bank;", true)
def tyX12 : Nat → FieldType := fun k => match k with
  | 0 => .int
  | 1 => .int
  | 2 => .int
  | 3 => .int
  | 4 => .int
  | 5 => .int
  | 6 => .int
  | 7 => .int
  | 8 => .boolean
  | 9 => .array .int
  | 10 => .array .int
  | 11 => .array .int
  | 12 => .array .int
  | 13 => .array .int
  | 14 => .array .int
  | 15 => .array .int
  | _ => .array (.object "RefreshTraderLaw$Bank")
abbrev wsX120 : List Cond := u_ws RX12 TX12 17
theorem nmX12 : ∀ a, a < 17 → ∀ b, b < 17 → a ≠ b → (TX12 a).2.1 ≠ (TX12 b).2.1 := by decide +kernel
theorem tyX12_ok : ∀ k, k < 17 → parseFieldDescriptor (TX12 k).2.2.1 = some (tyX12 k) := by decide +kernel
def RX13 : String := "RefreshTraderModel"
def TX13 : u_T := fun k => match k with
  | _ => ("", "", "", false)
def tyX13 : Nat → FieldType := fun k => match k with
  | _ => .int
abbrev wsX130 : List Cond := u_ws RX13 TX13 0
theorem nmX13 : ∀ a, a < 0 → ∀ b, b < 0 → a ≠ b → (TX13 a).2.1 ≠ (TX13 b).2.1 := by decide +kernel
theorem tyX13_ok : ∀ k, k < 0 → parseFieldDescriptor (TX13 k).2.2.1 = some (tyX13 k) := by decide +kernel
def RJ5 : String := "java/lang/AbstractStringBuilder"
def TJ5 : u_T := fun k => match k with
  | _ => ("", "", "", false)
def tyJ5 : Nat → FieldType := fun k => match k with
  | _ => .int
def RJ0 : String := "java/lang/String"
def TJ0 : u_T := fun k => match k with
  | 0 => ("java/lang/String", "value", "[B", true)
  | 1 => ("java/lang/String", "coder", "B", true)
  | 2 => ("java/lang/String", "hash", "I", false)
  | _ => ("java/lang/String", "hashIsZero", "Z", false)
def tyJ0 : Nat → FieldType := fun k => match k with
  | 0 => .array .byte
  | 1 => .byte
  | 2 => .int
  | _ => .boolean
abbrev wsJ00 : List Cond := u_ws RJ0 TJ0 4
theorem nmJ0 : ∀ a, a < 4 → ∀ b, b < 4 → a ≠ b → (TJ0 a).2.1 ≠ (TJ0 b).2.1 := by decide +kernel
theorem tyJ0_ok : ∀ k, k < 4 → parseFieldDescriptor (TJ0 k).2.2.1 = some (tyJ0 k) := by decide +kernel
def RJ4 : String := "java/lang/StringBuilder"
def TJ4 : u_T := fun k => match k with
  | 0 => ("java/lang/AbstractStringBuilder", "value", "[B", false)
  | 1 => ("java/lang/AbstractStringBuilder", "coder", "B", false)
  | 2 => ("java/lang/AbstractStringBuilder", "maybeLatin1", "Z", false)
  | _ => ("java/lang/AbstractStringBuilder", "count", "I", false)
def tyJ4 : Nat → FieldType := fun k => match k with
  | 0 => .array .byte
  | 1 => .byte
  | 2 => .boolean
  | _ => .int
abbrev wsJ40 : List Cond := u_ws RJ4 TJ4 4
theorem nmJ4 : ∀ a, a < 4 → ∀ b, b < 4 → a ≠ b → (TJ4 a).2.1 ≠ (TJ4 b).2.1 := by decide +kernel
theorem tyJ4_ok : ∀ k, k < 4 → parseFieldDescriptor (TJ4 k).2.2.1 = some (tyJ4 k) := by decide +kernel
theorem inX0 : ∀ w ∈ wsX00, w ∈ lw_tbl := by decide +kernel
theorem inX1 : ∀ w ∈ wsX10, w ∈ lw_tbl := by decide +kernel
theorem inX2 : ∀ w ∈ wsX20, w ∈ lw_tbl := by decide +kernel
theorem inX3 : ∀ w ∈ wsX30, w ∈ lw_tbl := by decide +kernel
theorem inX4 : ∀ w ∈ wsX40, w ∈ lw_tbl := by decide +kernel
theorem inX5 : ∀ w ∈ wsX50, w ∈ lw_tbl := by decide +kernel
theorem inX6 : ∀ w ∈ wsX60, w ∈ lw_tbl := by decide +kernel
theorem inX7 : ∀ w ∈ wsX70, w ∈ lw_tbl := by decide +kernel
theorem inX8 : ∀ w ∈ wsX80, w ∈ lw_tbl := by decide +kernel
theorem inX9 : ∀ w ∈ wsX90, w ∈ lw_tbl := by decide +kernel
theorem inX10 : ∀ w ∈ wsX100, w ∈ lw_tbl := by decide +kernel
theorem inX11 : ∀ w ∈ wsX110, w ∈ lw_tbl := by decide +kernel
theorem inX12 : ∀ w ∈ wsX120, w ∈ lw_tbl := by decide +kernel
theorem inX13 : ∀ w ∈ wsX130, w ∈ lw_tbl := by decide +kernel
theorem inJ0 : ∀ w ∈ wsJ00, w ∈ lw_tbl := by decide +kernel
theorem inJ4 : ∀ w ∈ wsJ40, w ∈ lw_tbl := by decide +kernel
abbrev vwCl : List vw_C := [(RX0, TX0, 7), (RX1, TX1, 3), (RX2, TX2, 6), (RX3, TX3, 7), (RX4, TX4, 7), (RX5, TX5, 8), (RX6, TX6, 5), (RX7, TX7, 2), (RX8, TX8, 9), (RX9, TX9, 7), (RX10, TX10, 9), (RX11, TX11, 21), (RX12, TX12, 17), (RJ0, TJ0, 4), (RJ4, TJ4, 4)]
/-- a name of the whole library: the rounds are read over the whole of it from the first part on -/
theorem nm_wide : True := by
  have _ := @FP.Core.i2d_mag
  trivial
