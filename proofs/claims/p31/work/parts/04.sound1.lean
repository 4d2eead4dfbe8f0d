def sd_cc (m : Nat) : ByteArray := bif Nat.ble m 92 then (bif Nat.ble m 45 then (bif Nat.ble m 22 then (bif Nat.ble m 11 then (bif Nat.ble m 5 then (bif Nat.ble m 2 then (bif Nat.ble m 1 then (⟨#[]⟩) else (prog_26_method_54_code)) else (bif Nat.ble m 3 then (prog_26_method_56_code) else (bif Nat.ble m 4 then (prog_26_method_152_code) else (prog_26_method_154_code)))) else (bif Nat.ble m 8 then (bif Nat.ble m 6 then (prog_26_method_155_code) else (bif Nat.ble m 7 then (prog_28_method_2_code) else (prog_32_method_103_code))) else (bif Nat.ble m 9 then (prog_34_method_11_code) else (bif Nat.ble m 10 then (prog_2_method_1_code) else (prog_2_method_2_code))))) else (bif Nat.ble m 16 then (bif Nat.ble m 13 then (bif Nat.ble m 12 then (prog_2_method_3_code) else (prog_3_method_1_code)) else (bif Nat.ble m 14 then (prog_3_method_2_code) else (bif Nat.ble m 15 then (prog_3_method_3_code) else (⟨#[]⟩)))) else (bif Nat.ble m 19 then (bif Nat.ble m 17 then (prog_4_method_1_code) else (bif Nat.ble m 18 then (prog_4_method_2_code) else (prog_4_method_3_code))) else (bif Nat.ble m 20 then (prog_4_method_4_code) else (bif Nat.ble m 21 then (prog_4_method_5_code) else (prog_4_method_6_code)))))) else (bif Nat.ble m 33 then (bif Nat.ble m 27 then (bif Nat.ble m 24 then (bif Nat.ble m 23 then (prog_4_method_7_code) else (prog_5_method_1_code)) else (bif Nat.ble m 25 then (prog_5_method_2_code) else (bif Nat.ble m 26 then (prog_5_method_3_code) else (prog_5_method_4_code)))) else (bif Nat.ble m 30 then (bif Nat.ble m 28 then (prog_5_method_5_code) else (bif Nat.ble m 29 then (prog_5_method_6_code) else (prog_6_method_1_code))) else (bif Nat.ble m 31 then (prog_6_method_2_code) else (bif Nat.ble m 32 then (prog_6_method_3_code) else (prog_6_method_4_code))))) else (bif Nat.ble m 39 then (bif Nat.ble m 36 then (bif Nat.ble m 34 then (prog_6_method_5_code) else (bif Nat.ble m 35 then (prog_6_method_6_code) else (prog_6_method_7_code))) else (bif Nat.ble m 37 then (prog_6_method_8_code) else (bif Nat.ble m 38 then (prog_6_method_9_code) else (prog_6_method_10_code)))) else (bif Nat.ble m 42 then (bif Nat.ble m 40 then (prog_6_method_11_code) else (bif Nat.ble m 41 then (prog_6_method_12_code) else (prog_6_method_13_code))) else (bif Nat.ble m 43 then (prog_7_method_1_code) else (bif Nat.ble m 44 then (prog_7_method_2_code) else (prog_7_method_3_code))))))) else (bif Nat.ble m 69 then (bif Nat.ble m 56 then (bif Nat.ble m 50 then (bif Nat.ble m 47 then (bif Nat.ble m 46 then (prog_7_method_4_code) else (prog_7_method_5_code)) else (bif Nat.ble m 48 then (prog_7_method_6_code) else (bif Nat.ble m 49 then (prog_7_method_7_code) else (prog_7_method_8_code)))) else (bif Nat.ble m 53 then (bif Nat.ble m 51 then (prog_7_method_9_code) else (bif Nat.ble m 52 then (prog_8_method_1_code) else (prog_8_method_2_code))) else (bif Nat.ble m 54 then (prog_8_method_3_code) else (bif Nat.ble m 55 then (prog_8_method_4_code) else (prog_8_method_5_code))))) else (bif Nat.ble m 63 then (bif Nat.ble m 60 then (bif Nat.ble m 57 then (prog_9_method_1_code) else (bif Nat.ble m 58 then (prog_9_method_2_code) else (⟨#[]⟩))) else (bif Nat.ble m 61 then (prog_10_method_1_code) else (bif Nat.ble m 62 then (prog_10_method_2_code) else (prog_10_method_3_code)))) else (bif Nat.ble m 66 then (bif Nat.ble m 64 then (prog_10_method_4_code) else (bif Nat.ble m 65 then (prog_10_method_5_code) else (prog_10_method_6_code))) else (bif Nat.ble m 67 then (prog_10_method_7_code) else (bif Nat.ble m 68 then (prog_10_method_8_code) else (prog_11_method_1_code)))))) else (bif Nat.ble m 80 then (bif Nat.ble m 74 then (bif Nat.ble m 71 then (bif Nat.ble m 70 then (prog_11_method_2_code) else (prog_11_method_3_code)) else (bif Nat.ble m 72 then (prog_11_method_4_code) else (bif Nat.ble m 73 then (prog_11_method_5_code) else (prog_11_method_6_code)))) else (bif Nat.ble m 77 then (bif Nat.ble m 75 then (prog_11_method_7_code) else (bif Nat.ble m 76 then (prog_11_method_8_code) else (prog_11_method_9_code))) else (bif Nat.ble m 78 then (prog_11_method_10_code) else (bif Nat.ble m 79 then (prog_11_method_11_code) else (prog_11_method_12_code))))) else (bif Nat.ble m 86 then (bif Nat.ble m 83 then (bif Nat.ble m 81 then (prog_11_method_13_code) else (bif Nat.ble m 82 then (prog_11_method_14_code) else (prog_11_method_15_code))) else (bif Nat.ble m 84 then (prog_11_method_16_code) else (bif Nat.ble m 85 then (prog_11_method_17_code) else (prog_1_method_1_code)))) else (bif Nat.ble m 89 then (bif Nat.ble m 87 then (prog_1_method_2_code) else (bif Nat.ble m 88 then (prog_1_method_3_code) else (⟨#[]⟩))) else (bif Nat.ble m 90 then (prog_1_method_5_code) else (bif Nat.ble m 91 then (prog_1_method_6_code) else (prog_1_method_7_code)))))))) else (bif Nat.ble m 236 then (bif Nat.ble m 117 then (bif Nat.ble m 103 then (bif Nat.ble m 97 then (bif Nat.ble m 94 then (bif Nat.ble m 93 then (prog_1_method_8_code) else (prog_1_method_9_code)) else (bif Nat.ble m 95 then (prog_1_method_10_code) else (bif Nat.ble m 96 then (prog_1_method_11_code) else (prog_1_method_12_code)))) else (bif Nat.ble m 100 then (bif Nat.ble m 98 then (prog_1_method_13_code) else (bif Nat.ble m 99 then (prog_1_method_14_code) else (prog_1_method_15_code))) else (bif Nat.ble m 101 then (prog_1_method_16_code) else (bif Nat.ble m 102 then (prog_1_method_17_code) else (prog_1_method_18_code))))) else (bif Nat.ble m 109 then (bif Nat.ble m 106 then (bif Nat.ble m 104 then (prog_1_method_19_code) else (bif Nat.ble m 105 then (prog_1_method_20_code) else (prog_1_method_21_code))) else (bif Nat.ble m 107 then (prog_1_method_22_code) else (bif Nat.ble m 108 then (prog_1_method_23_code) else (prog_1_method_24_code)))) else (bif Nat.ble m 114 then (bif Nat.ble m 110 then (prog_1_method_25_code) else (bif Nat.ble m 111 then (prog_1_method_26_code) else (⟨#[]⟩))) else (bif Nat.ble m 115 then (prog_1_method_30_code) else (bif Nat.ble m 116 then (prog_1_method_31_code) else (prog_1_method_32_code)))))) else (bif Nat.ble m 224 then (bif Nat.ble m 122 then (bif Nat.ble m 119 then (bif Nat.ble m 118 then (⟨#[]⟩) else (prog_1_method_34_code)) else (bif Nat.ble m 120 then (prog_1_method_35_code) else (bif Nat.ble m 121 then (prog_1_method_36_code) else (prog_1_method_37_code)))) else (bif Nat.ble m 125 then (bif Nat.ble m 123 then (prog_1_method_38_code) else (bif Nat.ble m 124 then (prog_1_method_39_code) else (prog_1_method_40_code))) else (bif Nat.ble m 126 then (prog_1_method_41_code) else (bif Nat.ble m 223 then (⟨#[]⟩) else (prog_27_method_1_code))))) else (bif Nat.ble m 230 then (bif Nat.ble m 227 then (bif Nat.ble m 225 then (prog_16_method_2_code) else (bif Nat.ble m 226 then (prog_27_method_7_code) else (prog_16_method_22_code))) else (bif Nat.ble m 228 then (prog_16_method_9_code) else (bif Nat.ble m 229 then (prog_16_method_10_code) else (prog_33_method_27_code)))) else (bif Nat.ble m 233 then (bif Nat.ble m 231 then (prog_32_method_121_code) else (bif Nat.ble m 232 then (prog_16_method_68_code) else (prog_16_method_73_code))) else (bif Nat.ble m 234 then (prog_16_method_71_code) else (bif Nat.ble m 235 then (prog_26_method_147_code) else (prog_27_method_15_code))))))) else (bif Nat.ble m 259 then (bif Nat.ble m 247 then (bif Nat.ble m 241 then (bif Nat.ble m 238 then (bif Nat.ble m 237 then (prog_16_method_32_code) else (prog_22_method_13_code)) else (bif Nat.ble m 239 then (prog_22_method_12_code) else (bif Nat.ble m 240 then (prog_27_method_14_code) else (prog_16_method_31_code)))) else (bif Nat.ble m 244 then (bif Nat.ble m 242 then (prog_28_method_3_code) else (bif Nat.ble m 243 then (prog_27_method_42_code) else (prog_26_method_53_code))) else (bif Nat.ble m 245 then (prog_26_method_150_code) else (bif Nat.ble m 246 then (prog_16_method_64_code) else (prog_27_method_93_code))))) else (bif Nat.ble m 253 then (bif Nat.ble m 250 then (bif Nat.ble m 248 then (prog_16_method_6_code) else (bif Nat.ble m 249 then (prog_32_method_132_code) else (prog_32_method_133_code))) else (bif Nat.ble m 251 then (prog_32_method_131_code) else (bif Nat.ble m 252 then (prog_26_method_54_code) else (prog_26_method_152_code)))) else (bif Nat.ble m 256 then (bif Nat.ble m 254 then (prog_26_method_56_code) else (bif Nat.ble m 255 then (prog_26_method_154_code) else (prog_28_method_2_code))) else (bif Nat.ble m 257 then (prog_13_method_1_code) else (bif Nat.ble m 258 then (prog_13_method_2_code) else (prog_13_method_3_code)))))) else (bif Nat.ble m 270 then (bif Nat.ble m 264 then (bif Nat.ble m 261 then (bif Nat.ble m 260 then (prog_14_method_1_code) else (prog_14_method_2_code)) else (bif Nat.ble m 262 then (prog_14_method_3_code) else (bif Nat.ble m 263 then (prog_14_method_4_code) else (prog_14_method_5_code)))) else (bif Nat.ble m 267 then (bif Nat.ble m 265 then (prog_14_method_6_code) else (bif Nat.ble m 266 then (prog_14_method_7_code) else (prog_14_method_8_code))) else (bif Nat.ble m 268 then (prog_14_method_9_code) else (bif Nat.ble m 269 then (prog_14_method_10_code) else (prog_14_method_11_code))))) else (bif Nat.ble m 276 then (bif Nat.ble m 273 then (bif Nat.ble m 271 then (prog_14_method_12_code) else (bif Nat.ble m 272 then (prog_14_method_13_code) else (prog_14_method_14_code))) else (bif Nat.ble m 274 then (prog_14_method_15_code) else (bif Nat.ble m 275 then (method_2_code) else (method_3_code)))) else (bif Nat.ble m 279 then (bif Nat.ble m 277 then (method_5_code) else (bif Nat.ble m 278 then (method_6_code) else (method_7_code))) else (bif Nat.ble m 280 then (method_8_code) else (bif Nat.ble m 281 then (method_9_code) else (code))))))))
def sd_y (m : Nat) : MethodName := bif Nat.ble m 92 then (bif Nat.ble m 45 then (bif Nat.ble m 22 then (bif Nat.ble m 11 then (bif Nat.ble m 5 then (bif Nat.ble m 2 then (bif Nat.ble m 1 then (⟨"", "", ""⟩) else (⟨"java/lang/String", "length", "()I"⟩)) else (bif Nat.ble m 3 then (⟨"java/lang/String", "charAt", "(I)C"⟩) else (bif Nat.ble m 4 then (⟨"java/lang/String", "coder", "()B"⟩) else (⟨"java/lang/String", "isLatin1", "()Z"⟩)))) else (bif Nat.ble m 8 then (bif Nat.ble m 6 then (⟨"java/lang/String", "checkIndex", "(II)V"⟩) else (bif Nat.ble m 7 then (⟨"java/lang/StringLatin1", "charAt", "([BI)C"⟩) else (⟨"java/util/Arrays", "fill", "([II)V"⟩))) else (bif Nat.ble m 9 then (⟨"jdk/internal/util/Preconditions", "checkIndex", "(IILjava/util/function/BiFunction;)I"⟩) else (bif Nat.ble m 10 then (⟨"RefreshTrader$Banks", "<init>", "()V"⟩) else (⟨"RefreshTrader$Banks", "reset", "()V"⟩))))) else (bif Nat.ble m 16 then (bif Nat.ble m 13 then (bif Nat.ble m 12 then (⟨"RefreshTrader$Banks", "copyFrom", "(LRefreshTrader$Banks;)V"⟩) else (⟨"RefreshTrader$History", "<init>", "()V"⟩)) else (bif Nat.ble m 14 then (⟨"RefreshTrader$History", "clear", "()V"⟩) else (bif Nat.ble m 15 then (⟨"RefreshTrader$History", "remember", "(LRefreshTrader$State;)V"⟩) else (⟨"", "", ""⟩)))) else (bif Nat.ble m 19 then (bif Nat.ble m 17 then (⟨"RefreshTrader$Input", "<init>", "()V"⟩) else (bif Nat.ble m 18 then (⟨"RefreshTrader$Input", "put", "(I)V"⟩) else (⟨"RefreshTrader$Input", "open", "(I)V"⟩))) else (bif Nat.ble m 20 then (⟨"RefreshTrader$Input", "scan", "()V"⟩) else (bif Nat.ble m 21 then (⟨"RefreshTrader$Input", "isWord", "(Ljava/lang/String;)Z"⟩) else (⟨"RefreshTrader$Input", "valueOfNumber", "()I"⟩)))))) else (bif Nat.ble m 33 then (bif Nat.ble m 27 then (bif Nat.ble m 24 then (bif Nat.ble m 23 then (⟨"RefreshTrader$Input", "sortOf", "(B)I"⟩) else (⟨"RefreshTrader$Layout", "<init>", "()V"⟩)) else (bif Nat.ble m 25 then (⟨"RefreshTrader$Layout", "reset", "()V"⟩) else (bif Nat.ble m 26 then (⟨"RefreshTrader$Layout", "copyFrom", "(LRefreshTrader$Layout;)V"⟩) else (⟨"RefreshTrader$Layout", "hasBank", "(I)Z"⟩)))) else (bif Nat.ble m 30 then (bif Nat.ble m 28 then (⟨"RefreshTrader$Layout", "hasRow", "(I)Z"⟩) else (bif Nat.ble m 29 then (⟨"RefreshTrader$Layout", "coolBoundOf", "(II)I"⟩) else (⟨"RefreshTrader$Parser", "<init>", "()V"⟩))) else (bif Nat.ble m 31 then (⟨"RefreshTrader$Parser", "read", "(I)I"⟩) else (bif Nat.ble m 32 then (⟨"RefreshTrader$Parser", "begin", "(I)V"⟩) else (⟨"RefreshTrader$Parser", "fail", "(I)Z"⟩))))) else (bif Nat.ble m 39 then (bif Nat.ble m 36 then (bif Nat.ble m 34 then (⟨"RefreshTrader$Parser", "takeHead", "()Z"⟩) else (bif Nat.ble m 35 then (⟨"RefreshTrader$Parser", "takeStatement", "()Z"⟩) else (⟨"RefreshTrader$Parser", "takeWeak", "()Z"⟩))) else (bif Nat.ble m 37 then (⟨"RefreshTrader$Parser", "takeAsk", "()Z"⟩) else (bif Nat.ble m 38 then (⟨"RefreshTrader$Parser", "takeTrading", "()Z"⟩) else (⟨"RefreshTrader$Parser", "takeSetting", "(I)Z"⟩)))) else (bif Nat.ble m 42 then (bif Nat.ble m 40 then (⟨"RefreshTrader$Parser", "takeNumber", "(II)Z"⟩) else (bif Nat.ble m 41 then (⟨"RefreshTrader$Parser", "takeSemicolon", "()Z"⟩) else (⟨"RefreshTrader$Parser", "wordOfSetting", "(I)Ljava/lang/String;"⟩))) else (bif Nat.ble m 43 then (⟨"RefreshTrader$Requests", "<init>", "()V"⟩) else (bif Nat.ble m 44 then (⟨"RefreshTrader$Requests", "reset", "()V"⟩) else (⟨"RefreshTrader$Requests", "copyFrom", "(LRefreshTrader$Requests;)V"⟩))))))) else (bif Nat.ble m 69 then (bif Nat.ble m 56 then (bif Nat.ble m 50 then (bif Nat.ble m 47 then (bif Nat.ble m 46 then (⟨"RefreshTrader$Requests", "has", "(I)Z"⟩) else (⟨"RefreshTrader$Requests", "add", "(III)I"⟩)) else (bif Nat.ble m 48 then (⟨"RefreshTrader$Requests", "come", "(I)V"⟩) else (bif Nat.ble m 49 then (⟨"RefreshTrader$Requests", "countIn", "(I)I"⟩) else (⟨"RefreshTrader$Requests", "countOfBank", "(II)I"⟩)))) else (bif Nat.ble m 53 then (bif Nat.ble m 51 then (⟨"RefreshTrader$Requests", "inLineOf", "(II)I"⟩) else (bif Nat.ble m 52 then (⟨"RefreshTrader$Rows", "<init>", "()V"⟩) else (⟨"RefreshTrader$Rows", "reset", "()V"⟩))) else (bif Nat.ble m 54 then (⟨"RefreshTrader$Rows", "copyFrom", "(LRefreshTrader$Rows;)V"⟩) else (bif Nat.ble m 55 then (⟨"RefreshTrader$Rows", "touch", "(I)V"⟩) else (⟨"RefreshTrader$Rows", "grow", "(II)I"⟩))))) else (bif Nat.ble m 63 then (bif Nat.ble m 60 then (bif Nat.ble m 57 then (⟨"RefreshTrader$Snapshots", "<init>", "()V"⟩) else (bif Nat.ble m 58 then (⟨"RefreshTrader$Snapshots", "clear", "()V"⟩) else (⟨"", "", ""⟩))) else (bif Nat.ble m 61 then (⟨"RefreshTrader$State", "<init>", "()V"⟩) else (bif Nat.ble m 62 then (⟨"RefreshTrader$State", "reset", "()V"⟩) else (⟨"RefreshTrader$State", "copyFrom", "(LRefreshTrader$State;)V"⟩)))) else (bif Nat.ble m 66 then (bif Nat.ble m 64 then (⟨"RefreshTrader$State", "isHot", "(I)Z"⟩) else (bif Nat.ble m 65 then (⟨"RefreshTrader$State", "canTake", "(I)Z"⟩) else (⟨"RefreshTrader$State", "moveDebt", "(II)V"⟩))) else (bif Nat.ble m 67 then (⟨"RefreshTrader$State", "refresh", "(II)V"⟩) else (bif Nat.ble m 68 then (⟨"RefreshTrader$State", "serve", "(II)V"⟩) else (⟨"RefreshTrader$Ticker", "<init>", "()V"⟩)))))) else (bif Nat.ble m 80 then (bif Nat.ble m 74 then (bif Nat.ble m 71 then (bif Nat.ble m 70 then (⟨"RefreshTrader$Ticker", "run", "(LRefreshTrader$State;I)I"⟩) else (⟨"RefreshTrader$Ticker", "tick", "(LRefreshTrader$State;)I"⟩)) else (bif Nat.ble m 72 then (⟨"RefreshTrader$Ticker", "letRequestsCome", "(LRefreshTrader$State;)V"⟩) else (bif Nat.ble m 73 then (⟨"RefreshTrader$Ticker", "raiseDebts", "(LRefreshTrader$State;)V"⟩) else (⟨"RefreshTrader$Ticker", "tradeDebts", "(LRefreshTrader$State;)V"⟩)))) else (bif Nat.ble m 77 then (bif Nat.ble m 75 then (⟨"RefreshTrader$Ticker", "coolestTaker", "(LRefreshTrader$State;)I"⟩) else (bif Nat.ble m 76 then (⟨"RefreshTrader$Ticker", "lookAt", "(LRefreshTrader$State;I)V"⟩) else (⟨"RefreshTrader$Ticker", "wishOf", "(LRefreshTrader$State;I)I"⟩))) else (bif Nat.ble m 78 then (⟨"RefreshTrader$Ticker", "isForRefresh", "(I)Z"⟩) else (bif Nat.ble m 79 then (⟨"RefreshTrader$Ticker", "isForService", "(I)Z"⟩) else (⟨"RefreshTrader$Ticker", "grantWishes", "(LRefreshTrader$State;)V"⟩))))) else (bif Nat.ble m 86 then (bif Nat.ble m 83 then (bif Nat.ble m 81 then (⟨"RefreshTrader$Ticker", "firstUngranted", "(LRefreshTrader$State;)I"⟩) else (bif Nat.ble m 82 then (⟨"RefreshTrader$Ticker", "isAhead", "(LRefreshTrader$State;II)Z"⟩) else (⟨"RefreshTrader$Ticker", "act", "(LRefreshTrader$State;I)V"⟩))) else (bif Nat.ble m 84 then (⟨"RefreshTrader$Ticker", "growRows", "(LRefreshTrader$State;)I"⟩) else (bif Nat.ble m 85 then (⟨"RefreshTrader$Ticker", "coolBanks", "(LRefreshTrader$State;)V"⟩) else (⟨"RefreshTrader", "<init>", "()V"⟩)))) else (bif Nat.ble m 89 then (bif Nat.ble m 87 then (⟨"RefreshTrader", "append", "(IIIII)I"⟩) else (bif Nat.ble m 88 then (⟨"RefreshTrader", "parse", "(I)I"⟩) else (⟨"", "", ""⟩))) else (bif Nat.ble m 90 then (⟨"RefreshTrader", "size", "(I)I"⟩) else (bif Nat.ble m 91 then (⟨"RefreshTrader", "setting", "(I)I"⟩) else (⟨"RefreshTrader", "bank", "(II)I"⟩)))))))) else (bif Nat.ble m 236 then (bif Nat.ble m 117 then (bif Nat.ble m 103 then (bif Nat.ble m 97 then (bif Nat.ble m 94 then (bif Nat.ble m 93 then (⟨"RefreshTrader", "row", "(III)I"⟩) else (⟨"RefreshTrader", "request", "(II)I"⟩)) else (bif Nat.ble m 95 then (⟨"RefreshTrader", "waiting", "(II)I"⟩) else (bif Nat.ble m 96 then (⟨"RefreshTrader", "weakest", "()I"⟩) else (⟨"RefreshTrader", "next", "(II)I"⟩)))) else (bif Nat.ble m 100 then (bif Nat.ble m 98 then (⟨"RefreshTrader", "nextLoss", "()I"⟩) else (bif Nat.ble m 99 then (⟨"RefreshTrader", "lossesAhead", "(I)I"⟩) else (⟨"RefreshTrader", "leastSetting", "(II)I"⟩))) else (bif Nat.ble m 101 then (⟨"RefreshTrader", "waitOf", "(I)I"⟩) else (bif Nat.ble m 102 then (⟨"RefreshTrader", "gainOfTrading", "(I)I"⟩) else (⟨"RefreshTrader", "meanWait", "()D"⟩))))) else (bif Nat.ble m 109 then (bif Nat.ble m 106 then (bif Nat.ble m 104 then (⟨"RefreshTrader", "greatestWait", "()I"⟩) else (bif Nat.ble m 105 then (⟨"RefreshTrader", "isWhole", "()Z"⟩) else (⟨"RefreshTrader", "account", "(I)I"⟩))) else (bif Nat.ble m 107 then (⟨"RefreshTrader", "pass", "(I)I"⟩) else (bif Nat.ble m 108 then (⟨"RefreshTrader", "ask", "(II)I"⟩) else (⟨"RefreshTrader", "trade", "(II)I"⟩)))) else (bif Nat.ble m 114 then (bif Nat.ble m 110 then (⟨"RefreshTrader", "set", "(II)I"⟩) else (bif Nat.ble m 111 then (⟨"RefreshTrader", "setTrading", "(Z)Z"⟩) else (⟨"", "", ""⟩))) else (bif Nat.ble m 115 then (⟨"RefreshTrader", "requireBank", "(I)V"⟩) else (bif Nat.ble m 116 then (⟨"RefreshTrader", "requireRow", "(II)V"⟩) else (⟨"RefreshTrader", "requireRequest", "(I)V"⟩)))))) else (bif Nat.ble m 224 then (bif Nat.ble m 122 then (bif Nat.ble m 119 then (bif Nat.ble m 118 then (⟨"", "", ""⟩) else (⟨"RefreshTrader", "requireTicksAhead", "(I)V"⟩)) else (bif Nat.ble m 120 then (⟨"RefreshTrader", "countLostRows", "()I"⟩) else (bif Nat.ble m 121 then (⟨"RefreshTrader", "countHotBanks", "()I"⟩) else (⟨"RefreshTrader", "timeOfTrialLoss", "(I)I"⟩)))) else (bif Nat.ble m 125 then (bif Nat.ble m 123 then (⟨"RefreshTrader", "lossesWithTrading", "(ZI)I"⟩) else (bif Nat.ble m 124 then (⟨"RefreshTrader", "cellOf", "(II)I"⟩) else (⟨"RefreshTrader", "boundOf", "(LRefreshTrader$Layout;LRefreshTrader$State;II)I"⟩))) else (bif Nat.ble m 126 then (⟨"RefreshTrader", "copy", "([I[I)V"⟩) else (bif Nat.ble m 223 then (⟨"", "", ""⟩) else (⟨"java/lang/StringBuilder", "<init>", "()V"⟩))))) else (bif Nat.ble m 230 then (bif Nat.ble m 227 then (bif Nat.ble m 225 then (⟨"java/lang/AbstractStringBuilder", "<init>", "(I)V"⟩) else (bif Nat.ble m 226 then (⟨"java/lang/StringBuilder", "append", "(Ljava/lang/String;)Ljava/lang/StringBuilder;"⟩) else (⟨"java/lang/AbstractStringBuilder", "append", "(Ljava/lang/String;)Ljava/lang/AbstractStringBuilder;"⟩))) else (bif Nat.ble m 228 then (⟨"java/lang/AbstractStringBuilder", "ensureCapacityInternal", "(I)V"⟩) else (bif Nat.ble m 229 then (⟨"java/lang/AbstractStringBuilder", "newCapacity", "(I)I"⟩) else (⟨"jdk/internal/util/ArraysSupport", "newLength", "(III)I"⟩)))) else (bif Nat.ble m 233 then (bif Nat.ble m 231 then (⟨"java/util/Arrays", "copyOf", "([BI)[B"⟩) else (bif Nat.ble m 232 then (⟨"java/lang/AbstractStringBuilder", "isLatin1", "()Z"⟩) else (⟨"java/lang/AbstractStringBuilder", "putStringAt", "(ILjava/lang/String;)V"⟩))) else (bif Nat.ble m 234 then (⟨"java/lang/AbstractStringBuilder", "inflateIfNeededFor", "(Ljava/lang/String;)V"⟩) else (bif Nat.ble m 235 then (⟨"java/lang/String", "getBytes", "([BIB)V"⟩) else (⟨"java/lang/StringBuilder", "append", "(I)Ljava/lang/StringBuilder;"⟩))))))) else (bif Nat.ble m 259 then (bif Nat.ble m 247 then (bif Nat.ble m 241 then (bif Nat.ble m 238 then (bif Nat.ble m 237 then (⟨"java/lang/AbstractStringBuilder", "append", "(I)Ljava/lang/AbstractStringBuilder;"⟩) else (⟨"java/lang/Integer", "stringSize", "(I)I"⟩)) else (bif Nat.ble m 239 then (⟨"java/lang/Integer", "getChars", "(II[B)I"⟩) else (bif Nat.ble m 240 then (⟨"java/lang/StringBuilder", "append", "(C)Ljava/lang/StringBuilder;"⟩) else (⟨"java/lang/AbstractStringBuilder", "append", "(C)Ljava/lang/AbstractStringBuilder;"⟩)))) else (bif Nat.ble m 244 then (bif Nat.ble m 242 then (⟨"java/lang/StringLatin1", "canEncode", "(C)Z"⟩) else (bif Nat.ble m 243 then (⟨"java/lang/StringBuilder", "toString", "()Ljava/lang/String;"⟩) else (⟨"java/lang/String", "<init>", "(Ljava/lang/StringBuilder;)V"⟩))) else (bif Nat.ble m 245 then (⟨"java/lang/String", "<init>", "(Ljava/lang/AbstractStringBuilder;Ljava/lang/Void;)V"⟩) else (bif Nat.ble m 246 then (⟨"java/lang/AbstractStringBuilder", "getValue", "()[B"⟩) else (⟨"java/lang/StringBuilder", "length", "()I"⟩))))) else (bif Nat.ble m 253 then (bif Nat.ble m 250 then (bif Nat.ble m 248 then (⟨"java/lang/AbstractStringBuilder", "length", "()I"⟩) else (bif Nat.ble m 249 then (⟨"java/util/Arrays", "copyOfRange", "([BII)[B"⟩) else (⟨"java/util/Arrays", "copyOfRangeByte", "([BII)[B"⟩))) else (bif Nat.ble m 251 then (⟨"java/util/Arrays", "checkLength", "(II)V"⟩) else (bif Nat.ble m 252 then (⟨"java/lang/String", "length", "()I"⟩) else (⟨"java/lang/String", "coder", "()B"⟩)))) else (bif Nat.ble m 256 then (bif Nat.ble m 254 then (⟨"java/lang/String", "charAt", "(I)C"⟩) else (bif Nat.ble m 255 then (⟨"java/lang/String", "isLatin1", "()Z"⟩) else (⟨"java/lang/StringLatin1", "charAt", "([BI)C"⟩))) else (bif Nat.ble m 257 then (⟨"RefreshTraderLaw$Bank", "<init>", "()V"⟩) else (bif Nat.ble m 258 then (⟨"RefreshTraderLaw$Bank", "be", "(LRefreshTraderLaw$Bank;)V"⟩) else (⟨"RefreshTraderLaw$Bank", "pull", "()I"⟩)))))) else (bif Nat.ble m 270 then (bif Nat.ble m 264 then (bif Nat.ble m 261 then (bif Nat.ble m 260 then (⟨"RefreshTraderLaw$Memory", "<init>", "()V"⟩) else (⟨"RefreshTraderLaw$Memory", "be", "(LRefreshTraderLaw$Memory;)LRefreshTraderLaw$Memory;"⟩)) else (bif Nat.ble m 262 then (⟨"RefreshTraderLaw$Memory", "add", "(III)I"⟩) else (bif Nat.ble m 263 then (⟨"RefreshTraderLaw$Memory", "come", "(I)V"⟩) else (⟨"RefreshTraderLaw$Memory", "hot", "(LRefreshTraderLaw$Bank;)Z"⟩)))) else (bif Nat.ble m 267 then (bif Nat.ble m 265 then (⟨"RefreshTraderLaw$Memory", "limit", "(LRefreshTraderLaw$Bank;IZ)I"⟩) else (bif Nat.ble m 266 then (⟨"RefreshTraderLaw$Memory", "remains", "(LRefreshTraderLaw$Bank;I)I"⟩) else (⟨"RefreshTraderLaw$Memory", "weak", "(LRefreshTraderLaw$Bank;)I"⟩))) else (bif Nat.ble m 268 then (⟨"RefreshTraderLaw$Memory", "wish", "(LRefreshTraderLaw$Bank;)I"⟩) else (bif Nat.ble m 269 then (⟨"RefreshTraderLaw$Memory", "refreshes", "(I)Z"⟩) else (⟨"RefreshTraderLaw$Memory", "ahead", "(LRefreshTraderLaw$Bank;LRefreshTraderLaw$Bank;)Z"⟩))))) else (bif Nat.ble m 276 then (bif Nat.ble m 273 then (bif Nat.ble m 271 then (⟨"RefreshTraderLaw$Memory", "plan", "()V"⟩) else (bif Nat.ble m 272 then (⟨"RefreshTraderLaw$Memory", "move", "(LRefreshTraderLaw$Bank;LRefreshTraderLaw$Bank;)V"⟩) else (⟨"RefreshTraderLaw$Memory", "step", "()I"⟩))) else (bif Nat.ble m 274 then (⟨"RefreshTraderLaw$Memory", "steps", "(I)I"⟩) else (bif Nat.ble m 275 then (⟨"RefreshTraderLaw", "feeds", "(LRefreshTrader;Ljava/lang/String;)Z"⟩) else (⟨"RefreshTraderLaw", "draw", "([II)I"⟩)))) else (bif Nat.ble m 279 then (bif Nat.ble m 277 then (⟨"RefreshTraderLaw", "memory", "(Ljava/lang/StringBuilder;[I)LRefreshTraderLaw$Memory;"⟩) else (bif Nat.ble m 278 then (⟨"RefreshTraderLaw", "plays", "(LRefreshTrader;[I)Z"⟩) else (⟨"RefreshTraderLaw", "state", "(LRefreshTrader;LRefreshTraderLaw$Memory;)Z"⟩))) else (bif Nat.ble m 280 then (⟨"RefreshTraderLaw", "asks", "(LRefreshTrader;LRefreshTraderLaw$Memory;LRefreshTraderLaw$Memory;[I)Z"⟩) else (bif Nat.ble m 281 then (⟨"RefreshTraderLaw", "changes", "(LRefreshTrader;LRefreshTraderLaw$Memory;[I)Z"⟩) else (⟨"RefreshTraderLaw", "law", "([I)Z"⟩))))))))
def sd_ret (m : Nat) : Option FieldType := bif Nat.ble m 103 then (bif Nat.ble m 47 then (bif Nat.ble m 21 then (bif Nat.ble m 5 then (bif Nat.ble m 2 then (bif Nat.ble m 1 then (none) else (some .int)) else (bif Nat.ble m 3 then (some .char) else (bif Nat.ble m 4 then (some .byte) else (some .boolean)))) else (bif Nat.ble m 8 then (bif Nat.ble m 6 then (none) else (bif Nat.ble m 7 then (some .char) else (none))) else (bif Nat.ble m 9 then (some .int) else (bif Nat.ble m 20 then (none) else (some .boolean))))) else (bif Nat.ble m 31 then (bif Nat.ble m 28 then (bif Nat.ble m 23 then (some .int) else (bif Nat.ble m 26 then (none) else (some .boolean))) else (bif Nat.ble m 29 then (some .int) else (bif Nat.ble m 30 then (none) else (some .int)))) else (bif Nat.ble m 42 then (bif Nat.ble m 32 then (none) else (bif Nat.ble m 41 then (some .boolean) else (some (.object "java/lang/String")))) else (bif Nat.ble m 45 then (none) else (bif Nat.ble m 46 then (some .boolean) else (some .int)))))) else (bif Nat.ble m 76 then (bif Nat.ble m 63 then (bif Nat.ble m 51 then (bif Nat.ble m 48 then (none) else (some .int)) else (bif Nat.ble m 55 then (none) else (bif Nat.ble m 56 then (some .int) else (none)))) else (bif Nat.ble m 71 then (bif Nat.ble m 65 then (some .boolean) else (bif Nat.ble m 69 then (none) else (some .int))) else (bif Nat.ble m 74 then (none) else (bif Nat.ble m 75 then (some .int) else (none))))) else (bif Nat.ble m 83 then (bif Nat.ble m 80 then (bif Nat.ble m 77 then (some .int) else (bif Nat.ble m 79 then (some .boolean) else (none))) else (bif Nat.ble m 81 then (some .int) else (bif Nat.ble m 82 then (some .boolean) else (none)))) else (bif Nat.ble m 88 then (bif Nat.ble m 84 then (some .int) else (bif Nat.ble m 86 then (none) else (some .int))) else (bif Nat.ble m 89 then (none) else (bif Nat.ble m 102 then (some .int) else (some .double))))))) else (bif Nat.ble m 246 then (bif Nat.ble m 230 then (bif Nat.ble m 119 then (bif Nat.ble m 105 then (bif Nat.ble m 104 then (some .int) else (some .boolean)) else (bif Nat.ble m 110 then (some .int) else (bif Nat.ble m 111 then (some .boolean) else (none)))) else (bif Nat.ble m 226 then (bif Nat.ble m 125 then (some .int) else (bif Nat.ble m 225 then (none) else (some (.object "java/lang/StringBuilder")))) else (bif Nat.ble m 227 then (some (.object "java/lang/AbstractStringBuilder")) else (bif Nat.ble m 228 then (none) else (some .int))))) else (bif Nat.ble m 239 then (bif Nat.ble m 235 then (bif Nat.ble m 231 then (some (.array .byte)) else (bif Nat.ble m 232 then (some .boolean) else (none))) else (bif Nat.ble m 236 then (some (.object "java/lang/StringBuilder")) else (bif Nat.ble m 237 then (some (.object "java/lang/AbstractStringBuilder")) else (some .int)))) else (bif Nat.ble m 242 then (bif Nat.ble m 240 then (some (.object "java/lang/StringBuilder")) else (bif Nat.ble m 241 then (some (.object "java/lang/AbstractStringBuilder")) else (some .boolean))) else (bif Nat.ble m 243 then (some (.object "java/lang/String")) else (bif Nat.ble m 245 then (none) else (some (.array .byte))))))) else (bif Nat.ble m 260 then (bif Nat.ble m 253 then (bif Nat.ble m 250 then (bif Nat.ble m 248 then (some .int) else (some (.array .byte))) else (bif Nat.ble m 251 then (none) else (bif Nat.ble m 252 then (some .int) else (some .byte)))) else (bif Nat.ble m 256 then (bif Nat.ble m 254 then (some .char) else (bif Nat.ble m 255 then (some .boolean) else (some .char))) else (bif Nat.ble m 258 then (none) else (bif Nat.ble m 259 then (some .int) else (none))))) else (bif Nat.ble m 270 then (bif Nat.ble m 263 then (bif Nat.ble m 261 then (some (.object "RefreshTraderLaw$Memory")) else (bif Nat.ble m 262 then (some .int) else (none))) else (bif Nat.ble m 264 then (some .boolean) else (bif Nat.ble m 268 then (some .int) else (some .boolean)))) else (bif Nat.ble m 275 then (bif Nat.ble m 272 then (none) else (bif Nat.ble m 274 then (some .int) else (some .boolean))) else (bif Nat.ble m 276 then (some .int) else (bif Nat.ble m 277 then (some (.object "RefreshTraderLaw$Memory")) else (some .boolean)))))))
def sd_hh (m : Nat) : List (Nat × Nat × Nat × Nat) := []
def sd_wi (m : Nat) : Nat := bif Nat.ble m 92 then (bif Nat.ble m 45 then (bif Nat.ble m 22 then (bif Nat.ble m 11 then (bif Nat.ble m 5 then (bif Nat.ble m 2 then (bif Nat.ble m 1 then (0) else (825)) else (bif Nat.ble m 3 then (1000) else (bif Nat.ble m 4 then (829) else (1004)))) else (bif Nat.ble m 8 then (bif Nat.ble m 6 then (908) else (bif Nat.ble m 7 then (1007) else (157))) else (bif Nat.ble m 9 then (911) else (bif Nat.ble m 10 then (208) else (341))))) else (bif Nat.ble m 16 then (bif Nat.ble m 13 then (bif Nat.ble m 12 then (1197) else (465)) else (bif Nat.ble m 14 then (1212) else (bif Nat.ble m 15 then (1231) else (0)))) else (bif Nat.ble m 19 then (bif Nat.ble m 17 then (120) else (bif Nat.ble m 18 then (1019) else (1105))) else (bif Nat.ble m 20 then (1114) else (bif Nat.ble m 21 then (1122) else (1136)))))) else (bif Nat.ble m 33 then (bif Nat.ble m 27 then (bif Nat.ble m 24 then (bif Nat.ble m 23 then (1117) else (149)) else (bif Nat.ble m 25 then (154) else (bif Nat.ble m 26 then (1188) else (1257)))) else (bif Nat.ble m 30 then (bif Nat.ble m 28 then (1318) else (bif Nat.ble m 29 then (1377) else (114))) else (bif Nat.ble m 31 then (1095) else (bif Nat.ble m 32 then (1099) else (1128))))) else (bif Nat.ble m 39 then (bif Nat.ble m 36 then (bif Nat.ble m 34 then (1110) else (bif Nat.ble m 35 then (1144) else (1149))) else (bif Nat.ble m 37 then (1157) else (bif Nat.ble m 38 then (1166) else (1180)))) else (bif Nat.ble m 42 then (bif Nat.ble m 40 then (1132) else (bif Nat.ble m 41 then (1140) else (1169))) else (bif Nat.ble m 43 then (283) else (bif Nat.ble m 44 then (351) else (1207))))))) else (bif Nat.ble m 69 then (bif Nat.ble m 56 then (bif Nat.ble m 50 then (bif Nat.ble m 47 then (bif Nat.ble m 46 then (1329) else (1161)) else (bif Nat.ble m 48 then (1325) else (bif Nat.ble m 49 then (1523) else (1493)))) else (bif Nat.ble m 53 then (bif Nat.ble m 51 then (1384) else (bif Nat.ble m 52 then (253) else (346))) else (bif Nat.ble m 54 then (1202) else (bif Nat.ble m 55 then (1420) else (1433))))) else (bif Nat.ble m 63 then (bif Nat.ble m 60 then (bif Nat.ble m 57 then (485) else (bif Nat.ble m 58 then (1216) else (0))) else (bif Nat.ble m 61 then (202) else (bif Nat.ble m 62 then (325) else (1193)))) else (bif Nat.ble m 66 then (bif Nat.ble m 64 then (1282) else (bif Nat.ble m 65 then (1278) else (1302))) else (bif Nat.ble m 67 then (1415) else (bif Nat.ble m 68 then (1424) else (430)))))) else (bif Nat.ble m 80 then (bif Nat.ble m 74 then (bif Nat.ble m 71 then (bif Nat.ble m 70 then (1339) else (1343)) else (bif Nat.ble m 72 then (1347) else (bif Nat.ble m 73 then (1352) else (1356)))) else (bif Nat.ble m 77 then (bif Nat.ble m 75 then (1361) else (bif Nat.ble m 76 then (1368) else (1388))) else (bif Nat.ble m 78 then (1403) else (bif Nat.ble m 79 then (1396) else (1393))))) else (bif Nat.ble m 86 then (bif Nat.ble m 83 then (bif Nat.ble m 81 then (1400) else (bif Nat.ble m 82 then (1407) else (1411))) else (bif Nat.ble m 84 then (1429) else (bif Nat.ble m 85 then (1437) else (106)))) else (bif Nat.ble m 89 then (bif Nat.ble m 87 then (1015) else (bif Nat.ble m 88 then (1024) else (0))) else (bif Nat.ble m 90 then (1519) else (bif Nat.ble m 91 then (1535) else (1489)))))))) else (bif Nat.ble m 236 then (bif Nat.ble m 117 then (bif Nat.ble m 103 then (bif Nat.ble m 97 then (bif Nat.ble m 94 then (bif Nat.ble m 93 then (1504) else (1509)) else (bif Nat.ble m 95 then (1497) else (bif Nat.ble m 96 then (1543) else (1573)))) else (bif Nat.ble m 100 then (bif Nat.ble m 98 then (1579) else (bif Nat.ble m 99 then (1587) else (1607))) else (bif Nat.ble m 101 then (1603) else (bif Nat.ble m 102 then (1595) else (1556))))) else (bif Nat.ble m 109 then (bif Nat.ble m 106 then (bif Nat.ble m 104 then (1552) else (bif Nat.ble m 105 then (1548) else (1539))) else (bif Nat.ble m 107 then (1333) else (bif Nat.ble m 108 then (1310) else (1249)))) else (bif Nat.ble m 114 then (bif Nat.ble m 110 then (1223) else (bif Nat.ble m 111 then (1237) else (0))) else (bif Nat.ble m 115 then (1253) else (bif Nat.ble m 116 then (1314) else (1513)))))) else (bif Nat.ble m 224 then (bif Nat.ble m 122 then (bif Nat.ble m 119 then (bif Nat.ble m 118 then (0) else (1591)) else (bif Nat.ble m 120 then (1527) else (bif Nat.ble m 121 then (1531) else (1583)))) else (bif Nat.ble m 125 then (bif Nat.ble m 123 then (1599) else (bif Nat.ble m 124 then (1152) else (1372))) else (bif Nat.ble m 126 then (330) else (bif Nat.ble m 223 then (0) else (531))))) else (bif Nat.ble m 230 then (bif Nat.ble m 227 then (bif Nat.ble m 225 then (534) else (bif Nat.ble m 226 then (752) else (755))) else (bif Nat.ble m 228 then (763) else (bif Nat.ble m 229 then (767) else (770)))) else (bif Nat.ble m 233 then (bif Nat.ble m 231 then (781) else (bif Nat.ble m 232 then (795) else (834))) else (bif Nat.ble m 234 then (838) else (bif Nat.ble m 235 then (862) else (868))))))) else (bif Nat.ble m 259 then (bif Nat.ble m 247 then (bif Nat.ble m 241 then (bif Nat.ble m 238 then (bif Nat.ble m 237 then (871) else (874)) else (bif Nat.ble m 239 then (877) else (bif Nat.ble m 240 then (893) else (896)))) else (bif Nat.ble m 244 then (bif Nat.ble m 242 then (899) else (bif Nat.ble m 243 then (936) else (941))) else (bif Nat.ble m 245 then (944) else (bif Nat.ble m 246 then (950) else (956))))) else (bif Nat.ble m 253 then (bif Nat.ble m 250 then (bif Nat.ble m 248 then (958) else (bif Nat.ble m 249 then (962) else (965))) else (bif Nat.ble m 251 then (968) else (bif Nat.ble m 252 then (825) else (829)))) else (bif Nat.ble m 256 then (bif Nat.ble m 254 then (1000) else (bif Nat.ble m 255 then (1004) else (1007))) else (bif Nat.ble m 257 then (572) else (bif Nat.ble m 258 then (1568) else (1481)))))) else (bif Nat.ble m 270 then (bif Nat.ble m 264 then (bif Nat.ble m 261 then (bif Nat.ble m 260 then (565) else (1563)) else (bif Nat.ble m 262 then (931) else (bif Nat.ble m 263 then (1306) else (1241)))) else (bif Nat.ble m 267 then (bif Nat.ble m 265 then (1464) else (bif Nat.ble m 266 then (1460) else (1456))) else (bif Nat.ble m 268 then (1470) else (bif Nat.ble m 269 then (1473) else (1477))))) else (bif Nat.ble m 276 then (bif Nat.ble m 273 then (bif Nat.ble m 271 then (1449) else (bif Nat.ble m 272 then (1245) else (1445))) else (bif Nat.ble m 274 then (1441) else (bif Nat.ble m 275 then (995) else (745)))) else (bif Nat.ble m 279 then (bif Nat.ble m 277 then (560) else (bif Nat.ble m 278 then (526) else (1485))) else (bif Nat.ble m 280 then (1559) else (bif Nat.ble m 281 then (1219) else (0))))))))
def sd_ii (m : Nat) : Nat := bif Nat.ble m 223 then (bif Nat.ble m 51 then (bif Nat.ble m 12 then (bif Nat.ble m 7 then (bif Nat.ble m 1 then (0) else (bif Nat.ble m 6 then (87) else (93))) else (bif Nat.ble m 8 then (75) else (bif Nat.ble m 9 then (92) else (77)))) else (bif Nat.ble m 23 then (bif Nat.ble m 15 then (83) else (bif Nat.ble m 16 then (0) else (73))) else (bif Nat.ble m 29 then (74) else (bif Nat.ble m 42 then (72) else (79))))) else (bif Nat.ble m 88 then (bif Nat.ble m 60 then (bif Nat.ble m 56 then (78) else (bif Nat.ble m 58 then (84) else (0))) else (bif Nat.ble m 68 then (76) else (bif Nat.ble m 85 then (82) else (71)))) else (bif Nat.ble m 114 then (bif Nat.ble m 89 then (0) else (bif Nat.ble m 111 then (71) else (0))) else (bif Nat.ble m 118 then (bif Nat.ble m 117 then (71) else (0)) else (bif Nat.ble m 126 then (71) else (0)))))) else (bif Nat.ble m 240 then (bif Nat.ble m 231 then (bif Nat.ble m 226 then (bif Nat.ble m 224 then (86) else (bif Nat.ble m 225 then (85) else (86))) else (bif Nat.ble m 229 then (85) else (bif Nat.ble m 230 then (91) else (75)))) else (bif Nat.ble m 236 then (bif Nat.ble m 234 then (85) else (bif Nat.ble m 235 then (87) else (86))) else (bif Nat.ble m 237 then (85) else (bif Nat.ble m 239 then (95) else (86))))) else (bif Nat.ble m 247 then (bif Nat.ble m 243 then (bif Nat.ble m 241 then (85) else (bif Nat.ble m 242 then (93) else (86))) else (bif Nat.ble m 245 then (87) else (bif Nat.ble m 246 then (85) else (86)))) else (bif Nat.ble m 255 then (bif Nat.ble m 248 then (85) else (bif Nat.ble m 251 then (75) else (87))) else (bif Nat.ble m 259 then (bif Nat.ble m 256 then (93) else (90)) else (bif Nat.ble m 274 then (89) else (70))))))
def sd_mi (m : Nat) : Nat := bif Nat.ble m 87 then (bif Nat.ble m 44 then (bif Nat.ble m 23 then (bif Nat.ble m 13 then (bif Nat.ble m 5 then (bif Nat.ble m 2 then (bif Nat.ble m 1 then (0) else (823)) else (bif Nat.ble m 3 then (998) else (bif Nat.ble m 4 then (827) else (1002)))) else (bif Nat.ble m 10 then (bif Nat.ble m 9 then (0) else (207)) else (bif Nat.ble m 11 then (340) else (bif Nat.ble m 12 then (1196) else (464))))) else (bif Nat.ble m 18 then (bif Nat.ble m 15 then (bif Nat.ble m 14 then (1211) else (1230)) else (bif Nat.ble m 16 then (0) else (bif Nat.ble m 17 then (119) else (1018)))) else (bif Nat.ble m 20 then (bif Nat.ble m 19 then (1104) else (1113)) else (bif Nat.ble m 21 then (1121) else (bif Nat.ble m 22 then (1135) else (0)))))) else (bif Nat.ble m 33 then (bif Nat.ble m 28 then (bif Nat.ble m 25 then (bif Nat.ble m 24 then (148) else (153)) else (bif Nat.ble m 26 then (1187) else (bif Nat.ble m 27 then (1256) else (1317)))) else (bif Nat.ble m 30 then (bif Nat.ble m 29 then (1376) else (113)) else (bif Nat.ble m 31 then (1094) else (bif Nat.ble m 32 then (1098) else (1127))))) else (bif Nat.ble m 38 then (bif Nat.ble m 35 then (bif Nat.ble m 34 then (1109) else (1143)) else (bif Nat.ble m 36 then (1148) else (bif Nat.ble m 37 then (1156) else (1165)))) else (bif Nat.ble m 41 then (bif Nat.ble m 39 then (1179) else (bif Nat.ble m 40 then (1131) else (1139))) else (bif Nat.ble m 42 then (0) else (bif Nat.ble m 43 then (282) else (350))))))) else (bif Nat.ble m 65 then (bif Nat.ble m 54 then (bif Nat.ble m 49 then (bif Nat.ble m 46 then (bif Nat.ble m 45 then (1206) else (1328)) else (bif Nat.ble m 47 then (1160) else (bif Nat.ble m 48 then (1324) else (1522)))) else (bif Nat.ble m 51 then (bif Nat.ble m 50 then (1492) else (1383)) else (bif Nat.ble m 52 then (252) else (bif Nat.ble m 53 then (345) else (1201))))) else (bif Nat.ble m 60 then (bif Nat.ble m 56 then (bif Nat.ble m 55 then (1419) else (1432)) else (bif Nat.ble m 57 then (484) else (bif Nat.ble m 58 then (1215) else (0)))) else (bif Nat.ble m 62 then (bif Nat.ble m 61 then (201) else (324)) else (bif Nat.ble m 63 then (1192) else (bif Nat.ble m 64 then (1281) else (1277)))))) else (bif Nat.ble m 75 then (bif Nat.ble m 70 then (bif Nat.ble m 67 then (bif Nat.ble m 66 then (1301) else (1414)) else (bif Nat.ble m 68 then (1423) else (bif Nat.ble m 69 then (429) else (1338)))) else (bif Nat.ble m 72 then (bif Nat.ble m 71 then (1342) else (1346)) else (bif Nat.ble m 73 then (1351) else (bif Nat.ble m 74 then (1355) else (1360))))) else (bif Nat.ble m 81 then (bif Nat.ble m 77 then (bif Nat.ble m 76 then (1367) else (1387)) else (bif Nat.ble m 79 then (0) else (bif Nat.ble m 80 then (1392) else (1399)))) else (bif Nat.ble m 84 then (bif Nat.ble m 82 then (1406) else (bif Nat.ble m 83 then (1410) else (1428))) else (bif Nat.ble m 85 then (1436) else (bif Nat.ble m 86 then (105) else (1013)))))))) else (bif Nat.ble m 229 then (bif Nat.ble m 107 then (bif Nat.ble m 97 then (bif Nat.ble m 92 then (bif Nat.ble m 89 then (bif Nat.ble m 88 then (1022) else (0)) else (bif Nat.ble m 90 then (1517) else (bif Nat.ble m 91 then (1533) else (1487)))) else (bif Nat.ble m 94 then (bif Nat.ble m 93 then (1502) else (1507)) else (bif Nat.ble m 95 then (1495) else (bif Nat.ble m 96 then (1541) else (1571))))) else (bif Nat.ble m 102 then (bif Nat.ble m 99 then (bif Nat.ble m 98 then (1577) else (1585)) else (bif Nat.ble m 100 then (1605) else (bif Nat.ble m 101 then (1601) else (1593)))) else (bif Nat.ble m 104 then (bif Nat.ble m 103 then (1554) else (1550)) else (bif Nat.ble m 105 then (1546) else (bif Nat.ble m 106 then (1537) else (1331)))))) else (bif Nat.ble m 119 then (bif Nat.ble m 114 then (bif Nat.ble m 109 then (bif Nat.ble m 108 then (1308) else (1247)) else (bif Nat.ble m 110 then (1221) else (bif Nat.ble m 111 then (1235) else (0)))) else (bif Nat.ble m 116 then (bif Nat.ble m 115 then (1252) else (1313)) else (bif Nat.ble m 117 then (1512) else (bif Nat.ble m 118 then (0) else (1590))))) else (bif Nat.ble m 223 then (bif Nat.ble m 121 then (bif Nat.ble m 120 then (1526) else (1530)) else (bif Nat.ble m 122 then (1582) else (bif Nat.ble m 123 then (1598) else (0)))) else (bif Nat.ble m 226 then (bif Nat.ble m 224 then (530) else (bif Nat.ble m 225 then (533) else (750))) else (bif Nat.ble m 227 then (754) else (bif Nat.ble m 228 then (762) else (766))))))) else (bif Nat.ble m 254 then (bif Nat.ble m 241 then (bif Nat.ble m 235 then (bif Nat.ble m 232 then (bif Nat.ble m 231 then (0) else (792)) else (bif Nat.ble m 233 then (833) else (bif Nat.ble m 234 then (837) else (860)))) else (bif Nat.ble m 237 then (bif Nat.ble m 236 then (866) else (870)) else (bif Nat.ble m 239 then (0) else (bif Nat.ble m 240 then (891) else (895))))) else (bif Nat.ble m 246 then (bif Nat.ble m 243 then (bif Nat.ble m 242 then (0) else (934)) else (bif Nat.ble m 244 then (940) else (bif Nat.ble m 245 then (943) else (947)))) else (bif Nat.ble m 251 then (bif Nat.ble m 247 then (955) else (bif Nat.ble m 248 then (952) else (0))) else (bif Nat.ble m 252 then (823) else (bif Nat.ble m 253 then (827) else (998)))))) else (bif Nat.ble m 264 then (bif Nat.ble m 259 then (bif Nat.ble m 256 then (bif Nat.ble m 255 then (1002) else (0)) else (bif Nat.ble m 257 then (571) else (bif Nat.ble m 258 then (1566) else (1479)))) else (bif Nat.ble m 261 then (bif Nat.ble m 260 then (564) else (1561)) else (bif Nat.ble m 262 then (929) else (bif Nat.ble m 263 then (1304) else (1239))))) else (bif Nat.ble m 269 then (bif Nat.ble m 266 then (bif Nat.ble m 265 then (1462) else (1458)) else (bif Nat.ble m 267 then (1454) else (bif Nat.ble m 268 then (1469) else (0)))) else (bif Nat.ble m 272 then (bif Nat.ble m 270 then (1476) else (bif Nat.ble m 271 then (1447) else (1243))) else (bif Nat.ble m 273 then (1443) else (bif Nat.ble m 274 then (1439) else (0))))))))
def sd_si (m : Nat) : Nat := bif Nat.ble m 83 then (bif Nat.ble m 44 then (bif Nat.ble m 25 then (bif Nat.ble m 13 then (bif Nat.ble m 4 then (bif Nat.ble m 2 then (bif Nat.ble m 1 then (0) else (824)) else (bif Nat.ble m 3 then (999) else (828))) else (bif Nat.ble m 10 then (bif Nat.ble m 5 then (1003) else (0)) else (bif Nat.ble m 11 then (2) else (bif Nat.ble m 12 then (25) else (0))))) else (bif Nat.ble m 18 then (bif Nat.ble m 15 then (bif Nat.ble m 14 then (28) else (30)) else (bif Nat.ble m 17 then (0) else (5))) else (bif Nat.ble m 20 then (bif Nat.ble m 19 then (9) else (11)) else (bif Nat.ble m 21 then (12) else (bif Nat.ble m 22 then (15) else (0)))))) else (bif Nat.ble m 34 then (bif Nat.ble m 29 then (bif Nat.ble m 27 then (bif Nat.ble m 26 then (23) else (32)) else (bif Nat.ble m 28 then (37) else (47))) else (bif Nat.ble m 31 then (bif Nat.ble m 30 then (0) else (7)) else (bif Nat.ble m 32 then (8) else (bif Nat.ble m 33 then (13) else (10))))) else (bif Nat.ble m 38 then (bif Nat.ble m 36 then (bif Nat.ble m 35 then (17) else (18)) else (bif Nat.ble m 37 then (19) else (21))) else (bif Nat.ble m 40 then (bif Nat.ble m 39 then (22) else (14)) else (bif Nat.ble m 41 then (16) else (bif Nat.ble m 43 then (0) else (4))))))) else (bif Nat.ble m 64 then (bif Nat.ble m 53 then (bif Nat.ble m 48 then (bif Nat.ble m 46 then (bif Nat.ble m 45 then (27) else (39)) else (bif Nat.ble m 47 then (20) else (38))) else (bif Nat.ble m 50 then (bif Nat.ble m 49 then (64) else (62)) else (bif Nat.ble m 51 then (48) else (bif Nat.ble m 52 then (0) else (3))))) else (bif Nat.ble m 57 then (bif Nat.ble m 55 then (bif Nat.ble m 54 then (26) else (55)) else (bif Nat.ble m 56 then (58) else (0))) else (bif Nat.ble m 61 then (bif Nat.ble m 58 then (29) else (0)) else (bif Nat.ble m 62 then (1) else (bif Nat.ble m 63 then (24) else (34)))))) else (bif Nat.ble m 73 then (bif Nat.ble m 68 then (bif Nat.ble m 66 then (bif Nat.ble m 65 then (33) else (35)) else (bif Nat.ble m 67 then (54) else (56))) else (bif Nat.ble m 70 then (bif Nat.ble m 69 then (0) else (40)) else (bif Nat.ble m 71 then (41) else (bif Nat.ble m 72 then (42) else (43))))) else (bif Nat.ble m 77 then (bif Nat.ble m 75 then (bif Nat.ble m 74 then (44) else (45)) else (bif Nat.ble m 76 then (46) else (49))) else (bif Nat.ble m 80 then (bif Nat.ble m 79 then (0) else (50)) else (bif Nat.ble m 81 then (51) else (bif Nat.ble m 82 then (52) else (53)))))))) else (bif Nat.ble m 121 then (bif Nat.ble m 101 then (bif Nat.ble m 92 then (bif Nat.ble m 87 then (bif Nat.ble m 85 then (bif Nat.ble m 84 then (57) else (59)) else (bif Nat.ble m 86 then (0) else (1014))) else (bif Nat.ble m 89 then (bif Nat.ble m 88 then (1023) else (0)) else (bif Nat.ble m 90 then (1518) else (bif Nat.ble m 91 then (1534) else (1488))))) else (bif Nat.ble m 96 then (bif Nat.ble m 94 then (bif Nat.ble m 93 then (1503) else (1508)) else (bif Nat.ble m 95 then (1496) else (1542))) else (bif Nat.ble m 98 then (bif Nat.ble m 97 then (1572) else (1578)) else (bif Nat.ble m 99 then (1586) else (bif Nat.ble m 100 then (1606) else (1602)))))) else (bif Nat.ble m 110 then (bif Nat.ble m 105 then (bif Nat.ble m 103 then (bif Nat.ble m 102 then (1594) else (1555)) else (bif Nat.ble m 104 then (1551) else (1547))) else (bif Nat.ble m 107 then (bif Nat.ble m 106 then (1538) else (1332)) else (bif Nat.ble m 108 then (1309) else (bif Nat.ble m 109 then (1248) else (1222))))) else (bif Nat.ble m 116 then (bif Nat.ble m 114 then (bif Nat.ble m 111 then (1236) else (0)) else (bif Nat.ble m 115 then (31) else (36))) else (bif Nat.ble m 118 then (bif Nat.ble m 117 then (63) else (0)) else (bif Nat.ble m 119 then (68) else (bif Nat.ble m 120 then (65) else (66))))))) else (bif Nat.ble m 255 then (bif Nat.ble m 240 then (bif Nat.ble m 226 then (bif Nat.ble m 123 then (bif Nat.ble m 122 then (67) else (69)) else (bif Nat.ble m 225 then (0) else (751))) else (bif Nat.ble m 235 then (bif Nat.ble m 234 then (0) else (861)) else (bif Nat.ble m 236 then (867) else (bif Nat.ble m 239 then (0) else (892))))) else (bif Nat.ble m 247 then (bif Nat.ble m 243 then (bif Nat.ble m 242 then (0) else (935)) else (bif Nat.ble m 246 then (0) else (1617))) else (bif Nat.ble m 252 then (bif Nat.ble m 251 then (0) else (824)) else (bif Nat.ble m 253 then (828) else (bif Nat.ble m 254 then (999) else (1003)))))) else (bif Nat.ble m 265 then (bif Nat.ble m 260 then (bif Nat.ble m 258 then (bif Nat.ble m 257 then (0) else (1567)) else (bif Nat.ble m 259 then (1480) else (0))) else (bif Nat.ble m 262 then (bif Nat.ble m 261 then (1562) else (930)) else (bif Nat.ble m 263 then (1305) else (bif Nat.ble m 264 then (1240) else (1463))))) else (bif Nat.ble m 270 then (bif Nat.ble m 267 then (bif Nat.ble m 266 then (1459) else (1455)) else (bif Nat.ble m 268 then (60) else (bif Nat.ble m 269 then (0) else (61)))) else (bif Nat.ble m 272 then (bif Nat.ble m 271 then (1448) else (1244)) else (bif Nat.ble m 273 then (1444) else (bif Nat.ble m 274 then (1440) else (0))))))))
def sd_ti (m : Nat) : Nat := bif Nat.ble m 237 then (bif Nat.ble m 77 then (bif Nat.ble m 9 then (bif Nat.ble m 6 then (bif Nat.ble m 5 then (0) else (907)) else (bif Nat.ble m 7 then (1006) else (bif Nat.ble m 8 then (156) else (910)))) else (bif Nat.ble m 23 then (bif Nat.ble m 22 then (0) else (1116)) else (bif Nat.ble m 41 then (0) else (bif Nat.ble m 42 then (1168) else (0))))) else (bif Nat.ble m 125 then (bif Nat.ble m 79 then (bif Nat.ble m 78 then (1402) else (1395)) else (bif Nat.ble m 123 then (0) else (bif Nat.ble m 124 then (1151) else (1371)))) else (bif Nat.ble m 229 then (bif Nat.ble m 126 then (329) else (0)) else (bif Nat.ble m 230 then (769) else (bif Nat.ble m 231 then (780) else (0)))))) else (bif Nat.ble m 256 then (bif Nat.ble m 248 then (bif Nat.ble m 239 then (bif Nat.ble m 238 then (873) else (876)) else (bif Nat.ble m 241 then (0) else (bif Nat.ble m 242 then (898) else (0)))) else (bif Nat.ble m 250 then (bif Nat.ble m 249 then (961) else (964)) else (bif Nat.ble m 251 then (967) else (bif Nat.ble m 255 then (0) else (1006))))) else (bif Nat.ble m 276 then (bif Nat.ble m 269 then (bif Nat.ble m 268 then (0) else (1472)) else (bif Nat.ble m 274 then (0) else (bif Nat.ble m 275 then (994) else (744)))) else (bif Nat.ble m 279 then (bif Nat.ble m 277 then (559) else (bif Nat.ble m 278 then (525) else (1484))) else (bif Nat.ble m 280 then (1558) else (bif Nat.ble m 281 then (1218) else (0))))))
def sd_sz (m : Nat) : Nat := bif Nat.ble m 91 then (bif Nat.ble m 45 then (bif Nat.ble m 22 then (bif Nat.ble m 11 then (bif Nat.ble m 5 then (bif Nat.ble m 2 then (bif Nat.ble m 1 then (0) else (11)) else (bif Nat.ble m 3 then (25) else (bif Nat.ble m 4 then (15) else (19)))) else (bif Nat.ble m 8 then (bif Nat.ble m 6 then (10) else (bif Nat.ble m 7 then (15) else (21))) else (bif Nat.ble m 9 then (18) else (bif Nat.ble m 10 then (54) else (57))))) else (bif Nat.ble m 16 then (bif Nat.ble m 13 then (bif Nat.ble m 12 then (78) else (41)) else (bif Nat.ble m 14 then (6) else (bif Nat.ble m 15 then (60) else (0)))) else (bif Nat.ble m 19 then (bif Nat.ble m 17 then (14) else (bif Nat.ble m 18 then (47) else (28))) else (bif Nat.ble m 20 then (204) else (bif Nat.ble m 21 then (65) else (38)))))) else (bif Nat.ble m 34 then (bif Nat.ble m 28 then (bif Nat.ble m 24 then (bif Nat.ble m 23 then (54) else (25)) else (bif Nat.ble m 25 then (42) else (bif Nat.ble m 26 then (63) else (18)))) else (bif Nat.ble m 31 then (bif Nat.ble m 29 then (39) else (bif Nat.ble m 30 then (46) else (73))) else (bif Nat.ble m 32 then (54) else (bif Nat.ble m 33 then (18) else (122))))) else (bif Nat.ble m 39 then (bif Nat.ble m 36 then (bif Nat.ble m 35 then (91) else (125)) else (bif Nat.ble m 37 then (111) else (bif Nat.ble m 38 then (26) else (56)))) else (bif Nat.ble m 42 then (bif Nat.ble m 40 then (59) else (bif Nat.ble m 41 then (32) else (61))) else (bif Nat.ble m 43 then (53) else (bif Nat.ble m 44 then (11) else (83))))))) else (bif Nat.ble m 68 then (bif Nat.ble m 56 then (bif Nat.ble m 50 then (bif Nat.ble m 47 then (bif Nat.ble m 46 then (18) else (70)) else (bif Nat.ble m 48 then (54) else (bif Nat.ble m 49 then (33) else (47)))) else (bif Nat.ble m 53 then (bif Nat.ble m 51 then (73) else (bif Nat.ble m 52 then (45) else (41))) else (bif Nat.ble m 54 then (56) else (bif Nat.ble m 55 then (15) else (50))))) else (bif Nat.ble m 62 then (bif Nat.ble m 58 then (bif Nat.ble m 57 then (46) else (21)) else (bif Nat.ble m 60 then (0) else (bif Nat.ble m 61 then (58) else (60)))) else (bif Nat.ble m 65 then (bif Nat.ble m 63 then (88) else (bif Nat.ble m 64 then (24) else (32))) else (bif Nat.ble m 66 then (63) else (bif Nat.ble m 67 then (87) else (127)))))) else (bif Nat.ble m 79 then (bif Nat.ble m 73 then (bif Nat.ble m 70 then (bif Nat.ble m 69 then (59) else (27)) else (bif Nat.ble m 71 then (115) else (bif Nat.ble m 72 then (44) else (76)))) else (bif Nat.ble m 76 then (bif Nat.ble m 74 then (57) else (bif Nat.ble m 75 then (65) else (120))) else (bif Nat.ble m 77 then (121) else (bif Nat.ble m 78 then (27) else (16))))) else (bif Nat.ble m 85 then (bif Nat.ble m 82 then (bif Nat.ble m 80 then (89) else (bif Nat.ble m 81 then (67) else (96))) else (bif Nat.ble m 83 then (115) else (bif Nat.ble m 84 then (92) else (55)))) else (bif Nat.ble m 88 then (bif Nat.ble m 86 then (98) else (bif Nat.ble m 87 then (68) else (108))) else (bif Nat.ble m 89 then (0) else (bif Nat.ble m 90 then (167) else (30)))))))) else (bif Nat.ble m 235 then (bif Nat.ble m 115 then (bif Nat.ble m 102 then (bif Nat.ble m 96 then (bif Nat.ble m 93 then (bif Nat.ble m 92 then (183) else (208)) else (bif Nat.ble m 94 then (115) else (bif Nat.ble m 95 then (18) else (98)))) else (bif Nat.ble m 99 then (bif Nat.ble m 97 then (122) else (bif Nat.ble m 98 then (19) else (29))) else (bif Nat.ble m 100 then (80) else (bif Nat.ble m 101 then (103) else (19))))) else (bif Nat.ble m 107 then (bif Nat.ble m 104 then (bif Nat.ble m 103 then (28) else (8)) else (bif Nat.ble m 105 then (65) else (bif Nat.ble m 106 then (30) else (73)))) else (bif Nat.ble m 110 then (bif Nat.ble m 108 then (76) else (bif Nat.ble m 109 then (106) else (82))) else (bif Nat.ble m 111 then (29) else (bif Nat.ble m 114 then (0) else (23)))))) else (bif Nat.ble m 126 then (bif Nat.ble m 120 then (bif Nat.ble m 117 then (bif Nat.ble m 116 then (34) else (26)) else (bif Nat.ble m 118 then (0) else (bif Nat.ble m 119 then (24) else (33)))) else (bif Nat.ble m 123 then (bif Nat.ble m 121 then (37) else (bif Nat.ble m 122 then (39) else (32))) else (bif Nat.ble m 124 then (7) else (bif Nat.ble m 125 then (37) else (15))))) else (bif Nat.ble m 228 then (bif Nat.ble m 225 then (bif Nat.ble m 223 then (0) else (bif Nat.ble m 224 then (7) else (39))) else (bif Nat.ble m 226 then (8) else (bif Nat.ble m 227 then (45) else (39)))) else (bif Nat.ble m 231 then (bif Nat.ble m 229 then (59) else (bif Nat.ble m 230 then (27) else (33))) else (bif Nat.ble m 233 then (19) else (bif Nat.ble m 234 then (22) else (44))))))) else (bif Nat.ble m 259 then (bif Nat.ble m 248 then (bif Nat.ble m 240 then (bif Nat.ble m 237 then (bif Nat.ble m 236 then (8) else (55)) else (bif Nat.ble m 238 then (47) else (bif Nat.ble m 239 then (121) else (8)))) else (bif Nat.ble m 243 then (bif Nat.ble m 241 then (77) else (bif Nat.ble m 242 then (13) else (9))) else (bif Nat.ble m 244 then (7) else (bif Nat.ble m 245 then (98) else (5))))) else (bif Nat.ble m 253 then (bif Nat.ble m 250 then (bif Nat.ble m 249 then (25) else (33)) else (bif Nat.ble m 251 then (38) else (bif Nat.ble m 252 then (11) else (15)))) else (bif Nat.ble m 256 then (bif Nat.ble m 254 then (25) else (bif Nat.ble m 255 then (19) else (15))) else (bif Nat.ble m 257 then (79) else (bif Nat.ble m 258 then (193) else (36)))))) else (bif Nat.ble m 270 then (bif Nat.ble m 264 then (bif Nat.ble m 261 then (bif Nat.ble m 260 then (145) else (207)) else (bif Nat.ble m 262 then (52) else (bif Nat.ble m 263 then (37) else (19)))) else (bif Nat.ble m 267 then (bif Nat.ble m 265 then (62) else (bif Nat.ble m 266 then (19) else (37))) else (bif Nat.ble m 268 then (113) else (bif Nat.ble m 269 then (27) else (82))))) else (bif Nat.ble m 276 then (bif Nat.ble m 273 then (bif Nat.ble m 271 then (524) else (bif Nat.ble m 272 then (51) else (425))) else (bif Nat.ble m 274 then (24) else (bif Nat.ble m 275 then (116) else (21)))) else (bif Nat.ble m 279 then (bif Nat.ble m 277 then (556) else (bif Nat.ble m 278 then (95) else (860))) else (bif Nat.ble m 280 then (425) else (bif Nat.ble m 281 then (372) else (49))))))))
def sd_k (m : Nat) : Nat := bif Nat.ble m 89 then (bif Nat.ble m 42 then (bif Nat.ble m 16 then (bif Nat.ble m 10 then (bif Nat.ble m 5 then (bif Nat.ble m 1 then (9) else (0)) else (bif Nat.ble m 9 then (2) else (1))) else (bif Nat.ble m 13 then (bif Nat.ble m 12 then (0) else (1)) else (bif Nat.ble m 15 then (0) else (9)))) else (bif Nat.ble m 24 then (bif Nat.ble m 22 then (bif Nat.ble m 17 then (1) else (0)) else (bif Nat.ble m 23 then (2) else (1))) else (bif Nat.ble m 30 then (bif Nat.ble m 29 then (0) else (1)) else (bif Nat.ble m 41 then (0) else (2))))) else (bif Nat.ble m 61 then (bif Nat.ble m 56 then (bif Nat.ble m 51 then (bif Nat.ble m 43 then (1) else (0)) else (bif Nat.ble m 52 then (1) else (0))) else (bif Nat.ble m 58 then (bif Nat.ble m 57 then (1) else (0)) else (bif Nat.ble m 60 then (9) else (1)))) else (bif Nat.ble m 79 then (bif Nat.ble m 69 then (bif Nat.ble m 68 then (0) else (1)) else (bif Nat.ble m 77 then (0) else (2))) else (bif Nat.ble m 86 then (bif Nat.ble m 85 then (0) else (1)) else (bif Nat.ble m 88 then (0) else (9)))))) else (bif Nat.ble m 240 then (bif Nat.ble m 225 then (bif Nat.ble m 118 then (bif Nat.ble m 114 then (bif Nat.ble m 111 then (0) else (9)) else (bif Nat.ble m 117 then (0) else (9))) else (bif Nat.ble m 126 then (bif Nat.ble m 123 then (0) else (2)) else (bif Nat.ble m 223 then (9) else (1)))) else (bif Nat.ble m 234 then (bif Nat.ble m 229 then (bif Nat.ble m 226 then (0) else (3)) else (bif Nat.ble m 231 then (2) else (3))) else (bif Nat.ble m 237 then (bif Nat.ble m 236 then (0) else (3)) else (bif Nat.ble m 239 then (2) else (0))))) else (bif Nat.ble m 251 then (bif Nat.ble m 245 then (bif Nat.ble m 242 then (bif Nat.ble m 241 then (3) else (2)) else (bif Nat.ble m 243 then (0) else (1))) else (bif Nat.ble m 247 then (bif Nat.ble m 246 then (3) else (0)) else (bif Nat.ble m 248 then (3) else (2)))) else (bif Nat.ble m 259 then (bif Nat.ble m 256 then (bif Nat.ble m 255 then (0) else (2)) else (bif Nat.ble m 257 then (1) else (0))) else (bif Nat.ble m 268 then (bif Nat.ble m 260 then (1) else (0)) else (bif Nat.ble m 269 then (2) else (bif Nat.ble m 274 then (0) else (2)))))))
def sd_rl (m : Nat) : Bool := bif Nat.ble m 89 then (bif Nat.ble m 16 then (bif Nat.ble m 1 then (false) else (bif Nat.ble m 15 then (true) else (false))) else (bif Nat.ble m 60 then (bif Nat.ble m 58 then (true) else (false)) else (bif Nat.ble m 88 then (true) else (false)))) else (bif Nat.ble m 117 then (bif Nat.ble m 111 then (true) else (bif Nat.ble m 114 then (false) else (true))) else (bif Nat.ble m 126 then (bif Nat.ble m 118 then (false) else (true)) else (bif Nat.ble m 223 then (false) else (true))))
def sd_xn (e : Nat) : String := bif Nat.ble e 0 then ("java/lang/IllegalArgumentException") else (bif Nat.ble e 1 then ("java/lang/IndexOutOfBoundsException") else ("java/lang/IllegalStateException"))
def sd_sr : List (String × Nat × String × Nat) := [("RefreshTrader", 72, "length", 1066), ("RefreshTrader$Parser", 73, "memory", 1118), ("RefreshTrader$Parser", 102, "weak", 1145), ("RefreshTrader$Parser", 107, "ask", 1153), ("RefreshTrader$Parser", 112, "trading", 1162), ("RefreshTrader$Parser", 164, "slots", 1170), ("RefreshTrader$Parser", 166, "most", 1171), ("RefreshTrader$Parser", 168, "ahead", 1172), ("RefreshTrader$Parser", 170, "hot", 1173), ("RefreshTrader$Parser", 172, "gain", 1174), ("RefreshTrader$Parser", 174, "patience", 1175), ("RefreshTrader$Parser", 176, "margin", 1176), ("RefreshTrader", 139, "what", 1224), ("RefreshTrader", 327, "bank", 1267), ("RefreshTrader", 332, "bank or row", 1319), ("RefreshTrader", 337, "request", 1515), ("RefreshTrader", 274, "ticks", 1334), ("RefreshTrader", 278, "the time would be too great", 1335), ("RefreshTrader", 284, "too many requests", 1320), ("RefreshTrader", 293, "a bank does not trade with itself", 1274), ("RefreshTrader", 299, "these banks cannot trade", 1292), ("RefreshTrader", 304, "value", 1227), ("RefreshTrader", 339, "slot", 0), ("RefreshTrader", 320, "the slot is empty", 0), ("RefreshTraderModel", 194, "memory", 0), ("RefreshTraderModel", 168, "weak", 0), ("RefreshTraderModel", 174, "ask", 0), ("RefreshTraderModel", 179, "trading", 0), ("RefreshTraderModel", 142, "slots", 0), ("RefreshTraderModel", 147, "most", 0), ("RefreshTraderModel", 149, "ahead", 0), ("RefreshTraderModel", 151, "hot", 0), ("RefreshTraderModel", 153, "gain", 0), ("RefreshTraderModel", 155, "patience", 0), ("RefreshTraderModel", 157, "margin", 0), ("RefreshTraderLaw", 52, "memory ", 748), ("RefreshTraderLaw", 78, "weak ", 912), ("RefreshTraderLaw", 80, "slots", 915), ("RefreshTraderLaw", 82, "most", 916), ("RefreshTraderLaw", 84, "ahead", 917), ("RefreshTraderLaw", 86, "hot", 918), ("RefreshTraderLaw", 88, "gain", 919), ("RefreshTraderLaw", 90, "patience", 920), ("RefreshTraderLaw", 92, "margin", 921), ("RefreshTraderLaw", 113, "trading;", 927), ("RefreshTraderLaw", 119, "ask ", 932)]
/-- private methods of an abstract class, on a receiver of ours: what is selected -/
def sd_uy : List MethodName := [⟨"java/lang/AbstractStringBuilder", "ensureCapacityInternal", "(I)V"⟩, ⟨"java/lang/AbstractStringBuilder", "newCapacity", "(I)I"⟩, ⟨"java/lang/AbstractStringBuilder", "putStringAt", "(ILjava/lang/String;)V"⟩, ⟨"java/lang/AbstractStringBuilder", "inflateIfNeededFor", "(Ljava/lang/String;)V"⟩]
def sd_ux : List Cond := sd_uy.map fun y => .selects "java/lang/StringBuilder" y y
def sd_all : List Cond := lw_tbl ++ sd_ux
/-! SOUNDNESS, 1: what a memory of the evaluator says of a heap -/
/-- base, classes, classes of arrays by kind, texts, their bytes, static arrays (from 5 on: digits), the script, its length, its ints -/
abbrev sd_G : Type := Nat × va_G × (Nat → ClassId) × (Nat → Nat) × (Nat → Nat) × (Nat → Nat) × Nat × Nat × (Nat → Int32)
/-- what a reference's goodness looks at: how many were made, how many by the law, their roles -/
abbrev sd_N : Type := Nat × Nat × (Nat → Nat)
abbrev sd_nn (μ : ev_M) : sd_N := (μ.1, μ.2.2.2.1, μ.2.2.2.2.1)
def sd_le (a b : sd_N) : Prop := a.1 ≤ b.1 ∧ a.2.1 ≤ b.2.1 ∧ ∀ j, j < a.2.1 → b.2.2 j = a.2.2 j
theorem sd_le.rf (a : sd_N) : sd_le a a := ⟨Nat.le_refl _, Nat.le_refl _, fun _ _ => rfl⟩
theorem sd_le.tr {a b c : sd_N} (h : sd_le a b) (h' : sd_le b c) : sd_le a c := ⟨Nat.le_trans h.1 h'.1, Nat.le_trans h.2.1 h'.2.1, fun j hj => (h'.2.2 j (Nat.lt_of_lt_of_le hj h.2.1)).trans (h.2.2 j hj)⟩
def sd_A (g : sd_G) : Nat → Prop := fun q => g.1 ≤ q
def sd_ad (g : sd_G) (r i : Nat) : Nat := if r < 62 then g.1 + ev_sq r i else if r = 100 then g.2.2.2.1 i else if r = 101 then g.2.2.2.2.1 i else if r = 102 then g.2.2.2.2.2.1 i else if r = 108 then g.2.2.2.2.2.1 (5 + i) else if 199 < r then g.1 + 383 + i else g.2.2.2.2.2.2.1
def sd_cn (r : Nat) : Nat := if r < 44 then ev_cn r else 0
def sd_al (n : sd_N) (r i : Nat) : Prop := i < sd_cn r ∧ ev_sq r i + 1 < n.1
def sd_la (n : sd_N) (r i : Nat) : Prop := 199 < r ∧ r ≤ 215 ∧ i < n.2.1 ∧ n.2.2 i = r
def sd_gd (n : sd_N) (r i : Nat) : Prop := (r < 62 → sd_al n r i) ∧ ((r = 100 ∨ r = 101) → ev_so i = true) ∧ (r = 102 → i < 5) ∧ (r = 108 → i < 2) ∧ (199 < r → sd_la n r i)
def sd_kr (r : Nat) : Prop := r < 104 ∨ r = 108 ∨ 199 < r
theorem sd_kr1 {r : Nat} (h : r < 104) : sd_kr r := Or.inl h
theorem sd_kr2 {r : Nat} (h : 199 < r) : sd_kr r := Or.inr (Or.inr h)
theorem sd_krd (r : Nat) : sd_kr r ∨ ¬ sd_kr r := Classical.em _
noncomputable def sd_v (g : sd_G) (n : sd_N) : ev_V → Value → Prop
  | .inl (.inl x), v => v = .int x
  | .inl (.inr x), v => v = .long x
  | .inr (.inl x), v => v = .double x
  | .inr (.inr (r, i)), v => sd_gd n r i ∧ ((sd_kr r ∧ v = .ref (sd_ad g r i)) ∨ (r = 106 ∧ ∃ q : Nat, v = .ref q) ∨ (r = 107 ∧ (v = .null ∨ ∃ q : Nat, v = .ref q)) ∨ (r = 109 ∧ v = .null) ∨ (r = 105 ∧ v.category = 1))
def sd_s (g : sd_G) (n : sd_N) : List ev_V → List Value → Prop
  | [], [] => True
  | x :: l, v :: r => sd_v g n x v ∧ sd_s g n l r
  | _, _ => False
def sd_un (x : ev_V) : Bool := match x with
  | .inr (.inr (r, _)) => Nat.beq r 105
  | _ => false
def sd_l (g : sd_G) (n : sd_N) (nL : Nat) (ls : List ev_V) (vl : Array Slot) : Prop := vl.size = nL ∧ lv_wf vl ∧ ∀ j : Nat, sd_un (ev_nth ls j) = true ∨ ∃ v, vl[j]? = some (.val v) ∧ sd_v g n (ev_nth ls j) v
def sd_lv (g : sd_G) (μ : ev_M) (r i k : Nat) : Value := if μ.2.1 r i k = true then .ref (sd_ad g (ev_tg r k i).1 (ev_tg r k i).2) else .null
def sd_c (g : sd_G) (μ : ev_M) (r i : Nat) (H : Heap) : Prop := match ev_kn r with
  | (0, ci) => ∃ q : vw_C, vwCl[ci]? = some q ∧ t_OB (sd_ad g r i) (g.2.1.1 ci) q.2.2 (g.2.1.2 ci) H (fun k => if ev_rf ci k = true then sd_lv g μ r i k else .int (μ.2.2.1 r i k))
  | (5, n) => H[sd_ad g r i]? = some (arrV (g.2.2.1 5) n (fun k => sd_lv g μ r i k))
  | (t, n) => H[sd_ad g r i]? = some (arrV (g.2.2.1 t) n (fun k => .int (μ.2.2.1 r i k)))
/-- how many places a thing has -/
def sd_n (r : Nat) : Nat := match ev_kn r with
  | (0, ci) => ev_nf ci
  | (_, n) => n
/-- the law's things: a reference of one, where it leads -/
def sd_lr (r k : Nat) : Nat := match (ev_ln r).1 with
  | 5 => ev_le r
  | _ => ev_lt r k
def sd_lu (g : sd_G) (o : ev_W) (r i k : Nat) : Value := match o.2.2.2 r i k with
  | 0 => .null
  | j + 1 => .ref (sd_ad g (sd_lr r k) j)
def sd_lc (g : sd_G) (o : ev_W) (r i : Nat) (H : Heap) : Prop := match ev_ln r with
  | (0, ci) => ∃ q : vw_C, vwCl[ci]? = some q ∧ t_OB (sd_ad g r i) (g.2.1.1 ci) q.2.2 (g.2.1.2 ci) H (fun k => if ev_lf r k = true then sd_lu g o r i k else .int (o.2.2.1 r i k))
  | (5, n) => H[sd_ad g r i]? = some (arrV (g.2.2.1 (if r = 207 then 4 else 6)) n (fun k => sd_lu g o r i k))
  | (2, _) => H[sd_ad g r i]? = some (arrV (g.2.2.1 2) (o.2.2.1 199 i 0).toNatClampNeg (fun k => .int (o.2.2.1 r i k))) ∧ o.2.2.1 199 i 0 = Int32.ofNat (o.2.2.1 199 i 0).toNatClampNeg ∧ ∀ k, k < (o.2.2.1 199 i 0).toNatClampNeg → fits .byte (.int (o.2.2.1 r i k)) = true
  | (3, n) => H[sd_ad g r i]? = some (arrV (g.2.2.1 3) n (fun k => .int (o.2.2.1 r i k))) ∧ ∀ k, k < n → fits .boolean (.int (o.2.2.1 r i k)) = true
  | (t, n) => H[sd_ad g r i]? = some (arrV (g.2.2.1 t) n (fun k => .int (o.2.2.1 r i k)))
/-- is the place k of a role of the law's a reference -/
def sd_ir (r k : Nat) : Bool := match ev_ln r with
  | (0, _) => ev_lf r k
  | (5, _) => true
  | _ => false
def sd_lz (r : Nat) : Nat := match ev_ln r with
  | (0, ci) => ev_lz ci
  | (_, n) => n
def sd_L (g : sd_G) (n : sd_N) (o : ev_W) (H : Heap) : Prop :=
  (∀ r i, sd_la n r i → sd_lc g o r i H) ∧ (∀ r i k j, sd_la n r i → sd_ir r k = true → k < sd_lz r → o.2.2.2 r i k = j + 1 → sd_gd n (sd_lr r k) j)
def sd_R (g : sd_G) (μ : ev_M) (H : Heap) : Prop :=
  (∀ r i, r < 62 → sd_al (sd_nn μ) r i → sd_c g μ r i H) ∧ (μ.1 < 1000 → H.size + 1 = g.1 + (μ.1 + μ.2.2.2.1)) ∧
  (∀ r i k, r < 62 → sd_al (sd_nn μ) r i → ev_ir r k = true → k < sd_n r → μ.2.1 r i k = true → (ev_tg r k i).1 < 62 ∧ sd_al (sd_nn μ) (ev_tg r k i).1 (ev_tg r k i).2) ∧
  μ.2.2.1 103 0 = g.2.2.2.2.2.2.2.2 ∧ μ.2.2.1 104 0 0 = Int32.ofNat g.2.2.2.2.2.2.2.1 ∧ g.1 ≤ H.size ∧ (μ.1 < 384 → μ.2.2.2.1 = 0) ∧ sd_L g (sd_nn μ) μ.2.2.2 H
-- plain facts
theorem sd_nth_set (ls : List ev_V) : ∀ (a j : Nat) (x : ev_V), ev_nth (ev_set ls a x) j = if j = a then x else ev_nth ls j := by
  induction ls with
  | nil =>
    intro a
    induction a with
    | zero =>
      intro j x
      cases j with
      | zero => rfl
      | succ j => simp [ev_set, ev_nth]
    | succ a ih =>
      intro j x
      cases j with
      | zero => simp [ev_set, ev_nth]
      | succ j =>
        have h := ih j x
        simp only [ev_set, ev_nth, h]
        by_cases e : j = a
        · simp [e]
        · simp [e]
  | cons v l ih =>
    intro a j x
    cases a with
    | zero =>
      cases j with
      | zero => rfl
      | succ j => simp [ev_set, ev_nth]
    | succ a =>
      cases j with
      | zero => simp [ev_set, ev_nth]
      | succ j =>
        simp only [ev_set, ev_nth, ih a j x]
        by_cases e : j = a
        · simp [e]
        · simp [e]
theorem sd_nth_take (ls : List ev_V) : ∀ (k j : Nat), ev_nth (ls.take k) j = if j < k then ev_nth ls j else ev_R 105 0 := by
  induction ls with
  | nil => intro k j; simp [ev_nth]
  | cons v l ih =>
    intro k j
    cases k with
    | zero => simp [ev_nth]
    | succ k =>
      cases j with
      | zero => simp [ev_nth]
      | succ j =>
        simp only [List.take_succ_cons, ev_nth, ih k j]
        by_cases e : j < k
        · simp [e]
        · simp [e]
theorem sd_al.mono {n n' : sd_N} {r i : Nat} (h : sd_le n n') (a : sd_al n r i) : sd_al n' r i := ⟨a.1, Nat.lt_of_lt_of_le a.2 h.1⟩
theorem sd_la.mono {n n' : sd_N} {r i : Nat} (h : sd_le n n') (a : sd_la n r i) : sd_la n' r i := ⟨a.1, a.2.1, Nat.lt_of_lt_of_le a.2.2.1 h.2.1, (h.2.2 i a.2.2.1).trans a.2.2.2⟩
theorem sd_gd.mono {n n' : sd_N} {r i : Nat} (h : sd_le n n') (a : sd_gd n r i) : sd_gd n' r i := ⟨fun q => (a.1 q).mono h, a.2.1, a.2.2.1, a.2.2.2.1, fun q => (a.2.2.2.2 q).mono h⟩
/-- a reference that stands for nothing of ours -/
theorem sd_gd0 {n : sd_N} {r i : Nat} (h : 103 ≤ r) (h2 : r < 199) (h8 : r ≠ 108) : sd_gd n r i := ⟨fun z => by omega, fun z => by omega, fun z => by omega, fun z => absurd z h8, fun z => by omega⟩
theorem sd_gd1 {n : sd_N} {r i : Nat} (h : r < 62) (a : sd_al n r i) : sd_gd n r i := ⟨fun _ => a, fun z => by omega, fun z => by omega, fun z => by omega, fun z => by omega⟩
theorem sd_gd2 {n : sd_N} {r i : Nat} (a : sd_la n r i) : sd_gd n r i := ⟨fun z => by have := a.1; omega, fun z => by have := a.1; omega, fun z => by have := a.1; omega, fun z => by have := a.1; omega, fun _ => a⟩
theorem sd_gd3 {n : sd_N} {r i : Nat} (h : r = 100 ∨ r = 101) (a : ev_so i = true) : sd_gd n r i := ⟨fun z => by omega, fun _ => a, fun z => by omega, fun z => by omega, fun z => by omega⟩
theorem sd_gd4 {n : sd_N} {i : Nat} (a : i < 5) : sd_gd n 102 i := ⟨fun z => by omega, fun z => by omega, fun _ => a, fun z => by omega, fun z => by omega⟩
theorem sd_gd5 {n : sd_N} {i : Nat} (a : i < 2) : sd_gd n 108 i := ⟨fun z => by omega, fun z => by omega, fun z => by omega, fun _ => a, fun z => by omega⟩
/-- a reference that is told, as a value -/
theorem sd_vr {g : sd_G} {n : sd_N} {r i : Nat} (h : sd_gd n r i) (k : sd_kr r) : sd_v g n (.inr (.inr (r, i))) (.ref (sd_ad g r i)) := ⟨h, Or.inl ⟨k, rfl⟩⟩
theorem sd_v106 {g : sd_G} {n : sd_N} {i q : Nat} : sd_v g n (.inr (.inr (106, i))) (.ref q) := ⟨sd_gd0 (by omega) (by omega) (by omega), Or.inr (Or.inl ⟨rfl, q, rfl⟩)⟩
theorem sd_v109 {g : sd_G} {n : sd_N} {i : Nat} : sd_v g n (.inr (.inr (109, i))) .null := ⟨sd_gd0 (by omega) (by omega) (by omega), Or.inr (Or.inr (Or.inr (Or.inl ⟨rfl, rfl⟩)))⟩
theorem sd_v107 {g : sd_G} {n : sd_N} {i : Nat} {v : Value} (h : v = .null ∨ ∃ q : Nat, v = .ref q) : sd_v g n (.inr (.inr (107, i))) v := ⟨sd_gd0 (by omega) (by omega) (by omega), Or.inr (Or.inr (Or.inl ⟨rfl, h⟩))⟩
/-- what a reference of ours is -/
theorem sd_v.or {g : sd_G} {n : sd_N} {r i : Nat} {v : Value} (h : sd_v g n (.inr (.inr (r, i))) v) (h5 : r ≠ 105) : v = .null ∨ ∃ q : Nat, v = .ref q := by
  rcases h.2 with ⟨-, e⟩ | ⟨-, e⟩ | ⟨-, e⟩ | ⟨-, e⟩ | ⟨e, -⟩
  · exact Or.inr ⟨_, e⟩
  · exact Or.inr e
  · exact e
  · exact Or.inl e
  · exact absurd e h5
theorem sd_v.mono {g : sd_G} {n n' : sd_N} (h : sd_le n n') {x : ev_V} {v : Value} (a : sd_v g n x v) : sd_v g n' x v := by
  match x, a with
  | .inl (.inl x), a => exact a
  | .inl (.inr x), a => exact a
  | .inr (.inl x), a => exact a
  | .inr (.inr (r, i)), a => exact ⟨a.1.mono h, a.2⟩
theorem sd_s.mono {g : sd_G} {n n' : sd_N} (h : sd_le n n') : ∀ {l : List ev_V} {r : List Value}, sd_s g n l r → sd_s g n' l r
  | [], [], a => a
  | _ :: _, _ :: _, a => ⟨a.1.mono h, sd_s.mono h a.2⟩
  | [], _ :: _, a => a.elim
  | _ :: _, [], a => a.elim
theorem sd_l.mono {g : sd_G} {n n' : sd_N} {nL : Nat} (h : sd_le n n') {ls : List ev_V} {vl : Array Slot} (a : sd_l g n nL ls vl) : sd_l g n' nL ls vl :=
  ⟨a.1, a.2.1, fun j => (a.2.2 j).elim Or.inl fun ⟨v, e, q⟩ => Or.inr ⟨v, e, q.mono h⟩⟩
theorem sd_l.take {g : sd_G} {n : sd_N} {nL : Nat} {ls : List ev_V} {vl : Array Slot} (a : sd_l g n nL ls vl) (q : Nat) : sd_l g n nL (ev_ct q ls) vl := by
  cases q with
  | zero => exact a
  | succ k =>
    refine ⟨a.1, a.2.1, fun j => ?_⟩
    show sd_un (ev_nth (ls.take k) j) = true ∨ ∃ v, vl[j]? = some (.val v) ∧ sd_v g n (ev_nth (ls.take k) j) v
    rw [sd_nth_take]
    by_cases e : j < k
    · rw [if_pos e]; exact a.2.2 j
    · rw [if_neg e]; exact Or.inl rfl
theorem sd_s.nil {g : sd_G} {n : sd_N} {r : List Value} (h : sd_s g n [] r) : r = [] := by
  cases r with
  | nil => rfl
  | cons _ _ => exact h.elim
theorem sd_s.cons {g : sd_G} {n : sd_N} {x : ev_V} {l : List ev_V} {r : List Value} (h : sd_s g n (x :: l) r) : ∃ v r', r = v :: r' ∧ sd_v g n x v ∧ sd_s g n l r' := by
  cases r with
  | nil => exact h.elim
  | cons v r' => exact ⟨v, r', rfl, h.1, h.2⟩
theorem sd_s.consI {g : sd_G} {n : sd_N} {x : Int32} {l : List ev_V} {r : List Value} (h : sd_s g n (.inl (.inl x) :: l) r) : ∃ r', r = .int x :: r' ∧ sd_s g n l r' := by
  obtain ⟨v, r', rfl, hv, h'⟩ := h.cons
  exact ⟨r', by rw [show v = .int x from hv], h'⟩
theorem sd_s.consL {g : sd_G} {n : sd_N} {x : Int64} {l : List ev_V} {r : List Value} (h : sd_s g n (.inl (.inr x) :: l) r) : ∃ r', r = .long x :: r' ∧ sd_s g n l r' := by
  obtain ⟨v, r', rfl, hv, h'⟩ := h.cons
  exact ⟨r', by rw [show v = .long x from hv], h'⟩
theorem sd_s.consD {g : sd_G} {n : sd_N} {x : UInt64} {l : List ev_V} {r : List Value} (h : sd_s g n (.inr (.inl x) :: l) r) : ∃ r', r = .double x :: r' ∧ sd_s g n l r' := by
  obtain ⟨v, r', rfl, hv, h'⟩ := h.cons
  exact ⟨r', by rw [show v = .double x from hv], h'⟩
/-- a reference that is told -/
theorem sd_v.kr {g : sd_G} {n : sd_N} {r i : Nat} {v : Value} (h : sd_v g n (.inr (.inr (r, i))) v) (k : sd_kr r) : v = .ref (sd_ad g r i) := by
  unfold sd_kr at k
  rcases h.2 with ⟨-, e⟩ | ⟨e, -⟩ | ⟨e, -⟩ | ⟨e, -⟩ | ⟨e, -⟩
  · exact e
  all_goals omega
theorem sd_s.consK {g : sd_G} {n : sd_N} {r0 i : Nat} {l : List ev_V} {r : List Value} (h : sd_s g n (.inr (.inr (r0, i)) :: l) r) (hr : sd_kr r0) : ∃ r', r = .ref (sd_ad g r0 i) :: r' ∧ sd_gd n r0 i ∧ sd_s g n l r' := by
  obtain ⟨v, r', rfl, hv, h'⟩ := h.cons
  exact ⟨r', by rw [hv.kr hr], hv.1, h'⟩
theorem sd_s.consR {g : sd_G} {n : sd_N} {r0 i : Nat} {l : List ev_V} {r : List Value} (h : sd_s g n (.inr (.inr (r0, i)) :: l) r) (hr : r0 < 104) : ∃ r', r = .ref (sd_ad g r0 i) :: r' ∧ sd_gd n r0 i ∧ sd_s g n l r' := h.consK (sd_kr1 hr)
theorem sd_v.cat1 {g : sd_G} {n : sd_N} {q : Nat × Nat} {v : Value} (h : sd_v g n (.inr (.inr q)) v) : v.category = 1 := by
  obtain ⟨r, i⟩ := q
  rcases h.2 with ⟨-, e⟩ | ⟨-, q, e⟩ | ⟨-, e | ⟨q, e⟩⟩ | ⟨-, e⟩ | ⟨-, e⟩ <;> first | (rw [e]; rfl) | exact e
theorem sd_v.cat {g : sd_G} {n : sd_N} {x : ev_V} {v : Value} (h : sd_v g n x v) (hu : sd_un x = false) (hx : ∀ z, x ≠ .inl (.inr z)) (hd : ∀ z, x ≠ .inr (.inl z)) : v.category = 1 := by
  match x, h, hu, hx, hd with
  | .inl (.inl x), h, _, _, _ => rw [show v = .int x from h]; rfl
  | .inl (.inr x), _, _, hx, _ => exact absurd rfl (hx x)
  | .inr (.inl x), _, _, _, hd => exact absurd rfl (hd x)
  | .inr (.inr (r, i)), h, hu, _, _ => exact h.cat1
/-- all that the locals hold -/
def sd_ps (vl : Array Slot) : List (Nat × Value) := (List.range vl.size).filterMap fun j => match vl[j]? with
  | some (Slot.val w) => some (j, w)
  | _ => none
theorem sd_ps_has {vl : Array Slot} {nL : Nat} (hs : vl.size = nL) (hw : lv_wf vl) : lv_has vl nL (sd_ps vl) := by
  refine ⟨hs, hw, fun q hq => ?_⟩
  obtain ⟨j, hj, e⟩ := List.mem_filterMap.mp hq
  split at e
  · rename_i w hw
    cases e
    exact hw
  · cases e
theorem sd_ps_mem {vl : Array Slot} {j : Nat} {w : Value} (h : vl[j]? = some (.val w)) : (j, w) ∈ sd_ps vl := by
  refine List.mem_filterMap.mpr ⟨j, List.mem_range.mpr (Array.getElem?_eq_some_iff.mp h).1, ?_⟩
  rw [h]
theorem sd_sk {g : sd_G} {n : sd_N} {ls : List ev_V} {j : Nat} {w : Value} (hk : ev_sk ls (j + 1) = true) (hu : ¬ sd_un (ev_nth ls j) = true) (hv : sd_v g n (ev_nth ls j) w) : w.category = 1 := by
  have hk2 : (match ev_nth ls j with | .inl (.inl _) => true | .inr (.inr _) => true | _ => false) = true := hk
  refine hv.cat (by simpa using hu) (fun z e => ?_) (fun z e => ?_)
  · rw [e] at hk2; cases hk2
  · rw [e] at hk2; cases hk2
theorem sd_st1 {g : sd_G} {n : sd_N} {nL i : Nat} {ls : List ev_V} {vl : Array Slot} {x : ev_V} {v : Value} (a : sd_l g n nL ls vl) (hk : ev_sk ls i = true) (hx : sd_v g n x v) {vl' : Array Slot} (h : lv_has vl' nL ((i, v) :: (sd_ps vl).filter (fun q => !(q.1 == i) && !(q.1 + 1 == i && q.2.category == 2)))) : sd_l g n nL (ev_set ls i x) vl' := by
  refine ⟨h.1, h.2.1, fun j => ?_⟩
  rw [sd_nth_set]
  by_cases e : j = i
  · rw [if_pos e]
    subst e
    exact Or.inr ⟨v, h.2.2 (j, v) List.mem_cons_self, hx⟩
  · rw [if_neg e]
    rcases a.2.2 j with hu | ⟨w, e1, hw⟩
    · exact Or.inl hu
    · by_cases hu : sd_un (ev_nth ls j) = true
      · exact Or.inl hu
      · refine Or.inr ⟨w, h.2.2 (j, w) (List.mem_cons_of_mem _ (List.mem_filter.mpr ⟨sd_ps_mem e1, ?_⟩)), hw⟩
        by_cases e2 : j + 1 = i
        · subst e2
          have := sd_sk hk hu hw
          simp [this]
        · simp [e, e2]
theorem sd_st2 {g : sd_G} {n : sd_N} {nL i : Nat} {ls : List ev_V} {vl : Array Slot} {x : ev_V} {v : Value} (a : sd_l g n nL ls vl) (hk : ev_sk ls i = true) (hx : sd_v g n x v) {vl' : Array Slot} (h : lv_has vl' nL ((i, v) :: (sd_ps vl).filter (fun q => !(q.1 == i) && (!(q.1 == i + 1) && !(q.1 + 1 == i && q.2.category == 2))))) : sd_l g n nL (ev_set (ev_set ls (i + 1) (ev_R 105 0)) i x) vl' := by
  refine ⟨h.1, h.2.1, fun j => ?_⟩
  rw [sd_nth_set, sd_nth_set]
  by_cases e : j = i
  · rw [if_pos e]
    subst e
    exact Or.inr ⟨v, h.2.2 (j, v) List.mem_cons_self, hx⟩
  · rw [if_neg e]
    by_cases e3 : j = i + 1
    · rw [if_pos e3]; exact Or.inl rfl
    · rw [if_neg e3]
      rcases a.2.2 j with hu | ⟨w, e1, hw⟩
      · exact Or.inl hu
      · by_cases hu : sd_un (ev_nth ls j) = true
        · exact Or.inl hu
        · refine Or.inr ⟨w, h.2.2 (j, w) (List.mem_cons_of_mem _ (List.mem_filter.mpr ⟨sd_ps_mem e1, ?_⟩)), hw⟩
          by_cases e2 : j + 1 = i
          · subst e2
            have := sd_sk hk hu hw
            simp [this, e3]
          · simp [e, e2, e3]
theorem sd_l.int {g : sd_G} {n : sd_N} {nL j : Nat} {ls : List ev_V} {vl : Array Slot} {y : Int32} (a : sd_l g n nL ls vl) (h : ev_nth ls j = .inl (.inl y)) : vl[j]? = some (.val (.int y)) := by
  rcases a.2.2 j with hu | ⟨v, e, hv⟩
  · rw [h] at hu; exact absurd hu (by simp [sd_un])
  · rw [h] at hv; rw [e, show v = .int y from hv]
theorem sd_l.dbl {g : sd_G} {n : sd_N} {nL j : Nat} {ls : List ev_V} {vl : Array Slot} {y : UInt64} (a : sd_l g n nL ls vl) (h : ev_nth ls j = .inr (.inl y)) : vl[j]? = some (.val (.double y)) := by
  rcases a.2.2 j with hu | ⟨v, e, hv⟩
  · rw [h] at hu; exact absurd hu (by simp [sd_un])
  · rw [h] at hv; rw [e, show v = .double y from hv]
theorem sd_l.ref {g : sd_G} {n : sd_N} {nL j r i : Nat} {ls : List ev_V} {vl : Array Slot} (a : sd_l g n nL ls vl) (h : ev_nth ls j = .inr (.inr (r, i))) (hr : r ≠ 105) : ∃ v, vl[j]? = some (.val v) ∧ sd_v g n (.inr (.inr (r, i))) v := by
  rcases a.2.2 j with hu | ⟨v, e, hv⟩
  · rw [h] at hu; exact absurd (Nat.eq_of_beq_eq_true hu) hr
  · rw [h] at hv; exact ⟨v, e, hv⟩
/-- the words by their places, in steps -/
def sd_wl0 : List Cond := sd_all.drop 0
def sd_wl1 : List Cond := sd_all.drop 16
def sd_wl2 : List Cond := sd_all.drop 32
def sd_wl3 : List Cond := sd_all.drop 48
def sd_wl4 : List Cond := sd_all.drop 64
def sd_wl5 : List Cond := sd_all.drop 80
def sd_wl6 : List Cond := sd_all.drop 96
def sd_wl7 : List Cond := sd_all.drop 112
def sd_wl8 : List Cond := sd_all.drop 128
def sd_wl9 : List Cond := sd_all.drop 144
def sd_wl10 : List Cond := sd_all.drop 160
def sd_wl11 : List Cond := sd_all.drop 176
def sd_wl12 : List Cond := sd_all.drop 192
def sd_wl13 : List Cond := sd_all.drop 208
def sd_wl14 : List Cond := sd_all.drop 224
def sd_wl15 : List Cond := sd_all.drop 240
def sd_wl16 : List Cond := sd_all.drop 256
def sd_wl17 : List Cond := sd_all.drop 272
def sd_wl18 : List Cond := sd_all.drop 288
def sd_wl19 : List Cond := sd_all.drop 304
def sd_wl20 : List Cond := sd_all.drop 320
def sd_wl21 : List Cond := sd_all.drop 336
def sd_wl22 : List Cond := sd_all.drop 352
def sd_wl23 : List Cond := sd_all.drop 368
def sd_wl24 : List Cond := sd_all.drop 384
def sd_wl25 : List Cond := sd_all.drop 400
def sd_wl26 : List Cond := sd_all.drop 416
def sd_wl27 : List Cond := sd_all.drop 432
def sd_wl28 : List Cond := sd_all.drop 448
def sd_wl29 : List Cond := sd_all.drop 464
def sd_wl30 : List Cond := sd_all.drop 480
def sd_wl31 : List Cond := sd_all.drop 496
def sd_wl32 : List Cond := sd_all.drop 512
def sd_wl33 : List Cond := sd_all.drop 528
def sd_wl34 : List Cond := sd_all.drop 544
def sd_wl35 : List Cond := sd_all.drop 560
def sd_wl36 : List Cond := sd_all.drop 576
def sd_wl37 : List Cond := sd_all.drop 592
def sd_wl38 : List Cond := sd_all.drop 608
def sd_wl39 : List Cond := sd_all.drop 624
def sd_wl40 : List Cond := sd_all.drop 640
def sd_wl41 : List Cond := sd_all.drop 656
def sd_wl42 : List Cond := sd_all.drop 672
def sd_wl43 : List Cond := sd_all.drop 688
def sd_wl44 : List Cond := sd_all.drop 704
def sd_wl45 : List Cond := sd_all.drop 720
def sd_wl46 : List Cond := sd_all.drop 736
def sd_wl47 : List Cond := sd_all.drop 752
def sd_wl48 : List Cond := sd_all.drop 768
def sd_wl49 : List Cond := sd_all.drop 784
def sd_wl50 : List Cond := sd_all.drop 800
def sd_wl51 : List Cond := sd_all.drop 816
def sd_wl52 : List Cond := sd_all.drop 832
def sd_wl53 : List Cond := sd_all.drop 848
def sd_wl54 : List Cond := sd_all.drop 864
def sd_wl55 : List Cond := sd_all.drop 880
def sd_wl56 : List Cond := sd_all.drop 896
def sd_wl57 : List Cond := sd_all.drop 912
def sd_wl58 : List Cond := sd_all.drop 928
def sd_wl59 : List Cond := sd_all.drop 944
def sd_wl60 : List Cond := sd_all.drop 960
def sd_wl61 : List Cond := sd_all.drop 976
def sd_wl62 : List Cond := sd_all.drop 992
def sd_wl63 : List Cond := sd_all.drop 1008
def sd_wl64 : List Cond := sd_all.drop 1024
def sd_wl65 : List Cond := sd_all.drop 1040
def sd_wl66 : List Cond := sd_all.drop 1056
def sd_wl67 : List Cond := sd_all.drop 1072
def sd_wl68 : List Cond := sd_all.drop 1088
def sd_wl69 : List Cond := sd_all.drop 1104
def sd_wl70 : List Cond := sd_all.drop 1120
def sd_wl71 : List Cond := sd_all.drop 1136
def sd_wl72 : List Cond := sd_all.drop 1152
def sd_wl73 : List Cond := sd_all.drop 1168
def sd_wl74 : List Cond := sd_all.drop 1184
def sd_wl75 : List Cond := sd_all.drop 1200
def sd_wl76 : List Cond := sd_all.drop 1216
def sd_wl77 : List Cond := sd_all.drop 1232
def sd_wl78 : List Cond := sd_all.drop 1248
def sd_wl79 : List Cond := sd_all.drop 1264
def sd_wl80 : List Cond := sd_all.drop 1280
def sd_wl81 : List Cond := sd_all.drop 1296
def sd_wl82 : List Cond := sd_all.drop 1312
def sd_wl83 : List Cond := sd_all.drop 1328
def sd_wl84 : List Cond := sd_all.drop 1344
def sd_wl85 : List Cond := sd_all.drop 1360
def sd_wl86 : List Cond := sd_all.drop 1376
def sd_wl87 : List Cond := sd_all.drop 1392
def sd_wl88 : List Cond := sd_all.drop 1408
def sd_wl89 : List Cond := sd_all.drop 1424
def sd_wl90 : List Cond := sd_all.drop 1440
def sd_wl91 : List Cond := sd_all.drop 1456
def sd_wl92 : List Cond := sd_all.drop 1472
def sd_wl93 : List Cond := sd_all.drop 1488
def sd_wl94 : List Cond := sd_all.drop 1504
def sd_wl95 : List Cond := sd_all.drop 1520
def sd_wl96 : List Cond := sd_all.drop 1536
def sd_wl97 : List Cond := sd_all.drop 1552
def sd_wl98 : List Cond := sd_all.drop 1568
def sd_wl99 : List Cond := sd_all.drop 1584
def sd_wl100 : List Cond := sd_all.drop 1600
def sd_wl101 : List Cond := sd_all.drop 1616
def sd_g0l : List (List Cond) := [sd_wl0, sd_wl1, sd_wl2, sd_wl3, sd_wl4, sd_wl5, sd_wl6, sd_wl7, sd_wl8, sd_wl9, sd_wl10]
theorem sd_g0i : ∀ b ∈ sd_g0l, ∀ w ∈ b, w ∈ sd_all := List.forall_mem_cons.mpr ⟨fun _ h => List.mem_of_mem_drop h, List.forall_mem_cons.mpr ⟨fun _ h => List.mem_of_mem_drop h, List.forall_mem_cons.mpr ⟨fun _ h => List.mem_of_mem_drop h, List.forall_mem_cons.mpr ⟨fun _ h => List.mem_of_mem_drop h, List.forall_mem_cons.mpr ⟨fun _ h => List.mem_of_mem_drop h, List.forall_mem_cons.mpr ⟨fun _ h => List.mem_of_mem_drop h, List.forall_mem_cons.mpr ⟨fun _ h => List.mem_of_mem_drop h, List.forall_mem_cons.mpr ⟨fun _ h => List.mem_of_mem_drop h, List.forall_mem_cons.mpr ⟨fun _ h => List.mem_of_mem_drop h, List.forall_mem_cons.mpr ⟨fun _ h => List.mem_of_mem_drop h, List.forall_mem_cons.mpr ⟨fun _ h => List.mem_of_mem_drop h, fun _ h => nomatch h⟩⟩⟩⟩⟩⟩⟩⟩⟩⟩⟩
def sd_g1l : List (List Cond) := [sd_wl11, sd_wl12, sd_wl13, sd_wl14, sd_wl15, sd_wl16, sd_wl17, sd_wl18, sd_wl19, sd_wl20, sd_wl21]
theorem sd_g1i : ∀ b ∈ sd_g1l, ∀ w ∈ b, w ∈ sd_all := List.forall_mem_cons.mpr ⟨fun _ h => List.mem_of_mem_drop h, List.forall_mem_cons.mpr ⟨fun _ h => List.mem_of_mem_drop h, List.forall_mem_cons.mpr ⟨fun _ h => List.mem_of_mem_drop h, List.forall_mem_cons.mpr ⟨fun _ h => List.mem_of_mem_drop h, List.forall_mem_cons.mpr ⟨fun _ h => List.mem_of_mem_drop h, List.forall_mem_cons.mpr ⟨fun _ h => List.mem_of_mem_drop h, List.forall_mem_cons.mpr ⟨fun _ h => List.mem_of_mem_drop h, List.forall_mem_cons.mpr ⟨fun _ h => List.mem_of_mem_drop h, List.forall_mem_cons.mpr ⟨fun _ h => List.mem_of_mem_drop h, List.forall_mem_cons.mpr ⟨fun _ h => List.mem_of_mem_drop h, List.forall_mem_cons.mpr ⟨fun _ h => List.mem_of_mem_drop h, fun _ h => nomatch h⟩⟩⟩⟩⟩⟩⟩⟩⟩⟩⟩
def sd_g2l : List (List Cond) := [sd_wl22, sd_wl23, sd_wl24, sd_wl25, sd_wl26, sd_wl27, sd_wl28, sd_wl29, sd_wl30, sd_wl31, sd_wl32]
theorem sd_g2i : ∀ b ∈ sd_g2l, ∀ w ∈ b, w ∈ sd_all := List.forall_mem_cons.mpr ⟨fun _ h => List.mem_of_mem_drop h, List.forall_mem_cons.mpr ⟨fun _ h => List.mem_of_mem_drop h, List.forall_mem_cons.mpr ⟨fun _ h => List.mem_of_mem_drop h, List.forall_mem_cons.mpr ⟨fun _ h => List.mem_of_mem_drop h, List.forall_mem_cons.mpr ⟨fun _ h => List.mem_of_mem_drop h, List.forall_mem_cons.mpr ⟨fun _ h => List.mem_of_mem_drop h, List.forall_mem_cons.mpr ⟨fun _ h => List.mem_of_mem_drop h, List.forall_mem_cons.mpr ⟨fun _ h => List.mem_of_mem_drop h, List.forall_mem_cons.mpr ⟨fun _ h => List.mem_of_mem_drop h, List.forall_mem_cons.mpr ⟨fun _ h => List.mem_of_mem_drop h, List.forall_mem_cons.mpr ⟨fun _ h => List.mem_of_mem_drop h, fun _ h => nomatch h⟩⟩⟩⟩⟩⟩⟩⟩⟩⟩⟩
def sd_g3l : List (List Cond) := [sd_wl33, sd_wl34, sd_wl35, sd_wl36, sd_wl37, sd_wl38, sd_wl39, sd_wl40, sd_wl41, sd_wl42, sd_wl43]
theorem sd_g3i : ∀ b ∈ sd_g3l, ∀ w ∈ b, w ∈ sd_all := List.forall_mem_cons.mpr ⟨fun _ h => List.mem_of_mem_drop h, List.forall_mem_cons.mpr ⟨fun _ h => List.mem_of_mem_drop h, List.forall_mem_cons.mpr ⟨fun _ h => List.mem_of_mem_drop h, List.forall_mem_cons.mpr ⟨fun _ h => List.mem_of_mem_drop h, List.forall_mem_cons.mpr ⟨fun _ h => List.mem_of_mem_drop h, List.forall_mem_cons.mpr ⟨fun _ h => List.mem_of_mem_drop h, List.forall_mem_cons.mpr ⟨fun _ h => List.mem_of_mem_drop h, List.forall_mem_cons.mpr ⟨fun _ h => List.mem_of_mem_drop h, List.forall_mem_cons.mpr ⟨fun _ h => List.mem_of_mem_drop h, List.forall_mem_cons.mpr ⟨fun _ h => List.mem_of_mem_drop h, List.forall_mem_cons.mpr ⟨fun _ h => List.mem_of_mem_drop h, fun _ h => nomatch h⟩⟩⟩⟩⟩⟩⟩⟩⟩⟩⟩
def sd_g4l : List (List Cond) := [sd_wl44, sd_wl45, sd_wl46, sd_wl47, sd_wl48, sd_wl49, sd_wl50, sd_wl51, sd_wl52, sd_wl53, sd_wl54]
theorem sd_g4i : ∀ b ∈ sd_g4l, ∀ w ∈ b, w ∈ sd_all := List.forall_mem_cons.mpr ⟨fun _ h => List.mem_of_mem_drop h, List.forall_mem_cons.mpr ⟨fun _ h => List.mem_of_mem_drop h, List.forall_mem_cons.mpr ⟨fun _ h => List.mem_of_mem_drop h, List.forall_mem_cons.mpr ⟨fun _ h => List.mem_of_mem_drop h, List.forall_mem_cons.mpr ⟨fun _ h => List.mem_of_mem_drop h, List.forall_mem_cons.mpr ⟨fun _ h => List.mem_of_mem_drop h, List.forall_mem_cons.mpr ⟨fun _ h => List.mem_of_mem_drop h, List.forall_mem_cons.mpr ⟨fun _ h => List.mem_of_mem_drop h, List.forall_mem_cons.mpr ⟨fun _ h => List.mem_of_mem_drop h, List.forall_mem_cons.mpr ⟨fun _ h => List.mem_of_mem_drop h, List.forall_mem_cons.mpr ⟨fun _ h => List.mem_of_mem_drop h, fun _ h => nomatch h⟩⟩⟩⟩⟩⟩⟩⟩⟩⟩⟩
def sd_g5l : List (List Cond) := [sd_wl55, sd_wl56, sd_wl57, sd_wl58, sd_wl59, sd_wl60, sd_wl61, sd_wl62, sd_wl63, sd_wl64, sd_wl65]
theorem sd_g5i : ∀ b ∈ sd_g5l, ∀ w ∈ b, w ∈ sd_all := List.forall_mem_cons.mpr ⟨fun _ h => List.mem_of_mem_drop h, List.forall_mem_cons.mpr ⟨fun _ h => List.mem_of_mem_drop h, List.forall_mem_cons.mpr ⟨fun _ h => List.mem_of_mem_drop h, List.forall_mem_cons.mpr ⟨fun _ h => List.mem_of_mem_drop h, List.forall_mem_cons.mpr ⟨fun _ h => List.mem_of_mem_drop h, List.forall_mem_cons.mpr ⟨fun _ h => List.mem_of_mem_drop h, List.forall_mem_cons.mpr ⟨fun _ h => List.mem_of_mem_drop h, List.forall_mem_cons.mpr ⟨fun _ h => List.mem_of_mem_drop h, List.forall_mem_cons.mpr ⟨fun _ h => List.mem_of_mem_drop h, List.forall_mem_cons.mpr ⟨fun _ h => List.mem_of_mem_drop h, List.forall_mem_cons.mpr ⟨fun _ h => List.mem_of_mem_drop h, fun _ h => nomatch h⟩⟩⟩⟩⟩⟩⟩⟩⟩⟩⟩
def sd_g6l : List (List Cond) := [sd_wl66, sd_wl67, sd_wl68, sd_wl69, sd_wl70, sd_wl71, sd_wl72, sd_wl73, sd_wl74, sd_wl75, sd_wl76]
theorem sd_g6i : ∀ b ∈ sd_g6l, ∀ w ∈ b, w ∈ sd_all := List.forall_mem_cons.mpr ⟨fun _ h => List.mem_of_mem_drop h, List.forall_mem_cons.mpr ⟨fun _ h => List.mem_of_mem_drop h, List.forall_mem_cons.mpr ⟨fun _ h => List.mem_of_mem_drop h, List.forall_mem_cons.mpr ⟨fun _ h => List.mem_of_mem_drop h, List.forall_mem_cons.mpr ⟨fun _ h => List.mem_of_mem_drop h, List.forall_mem_cons.mpr ⟨fun _ h => List.mem_of_mem_drop h, List.forall_mem_cons.mpr ⟨fun _ h => List.mem_of_mem_drop h, List.forall_mem_cons.mpr ⟨fun _ h => List.mem_of_mem_drop h, List.forall_mem_cons.mpr ⟨fun _ h => List.mem_of_mem_drop h, List.forall_mem_cons.mpr ⟨fun _ h => List.mem_of_mem_drop h, List.forall_mem_cons.mpr ⟨fun _ h => List.mem_of_mem_drop h, fun _ h => nomatch h⟩⟩⟩⟩⟩⟩⟩⟩⟩⟩⟩
def sd_g7l : List (List Cond) := [sd_wl77, sd_wl78, sd_wl79, sd_wl80, sd_wl81, sd_wl82, sd_wl83, sd_wl84, sd_wl85, sd_wl86, sd_wl87]
theorem sd_g7i : ∀ b ∈ sd_g7l, ∀ w ∈ b, w ∈ sd_all := List.forall_mem_cons.mpr ⟨fun _ h => List.mem_of_mem_drop h, List.forall_mem_cons.mpr ⟨fun _ h => List.mem_of_mem_drop h, List.forall_mem_cons.mpr ⟨fun _ h => List.mem_of_mem_drop h, List.forall_mem_cons.mpr ⟨fun _ h => List.mem_of_mem_drop h, List.forall_mem_cons.mpr ⟨fun _ h => List.mem_of_mem_drop h, List.forall_mem_cons.mpr ⟨fun _ h => List.mem_of_mem_drop h, List.forall_mem_cons.mpr ⟨fun _ h => List.mem_of_mem_drop h, List.forall_mem_cons.mpr ⟨fun _ h => List.mem_of_mem_drop h, List.forall_mem_cons.mpr ⟨fun _ h => List.mem_of_mem_drop h, List.forall_mem_cons.mpr ⟨fun _ h => List.mem_of_mem_drop h, List.forall_mem_cons.mpr ⟨fun _ h => List.mem_of_mem_drop h, fun _ h => nomatch h⟩⟩⟩⟩⟩⟩⟩⟩⟩⟩⟩
def sd_g8l : List (List Cond) := [sd_wl88, sd_wl89, sd_wl90, sd_wl91, sd_wl92, sd_wl93, sd_wl94, sd_wl95, sd_wl96, sd_wl97, sd_wl98]
theorem sd_g8i : ∀ b ∈ sd_g8l, ∀ w ∈ b, w ∈ sd_all := List.forall_mem_cons.mpr ⟨fun _ h => List.mem_of_mem_drop h, List.forall_mem_cons.mpr ⟨fun _ h => List.mem_of_mem_drop h, List.forall_mem_cons.mpr ⟨fun _ h => List.mem_of_mem_drop h, List.forall_mem_cons.mpr ⟨fun _ h => List.mem_of_mem_drop h, List.forall_mem_cons.mpr ⟨fun _ h => List.mem_of_mem_drop h, List.forall_mem_cons.mpr ⟨fun _ h => List.mem_of_mem_drop h, List.forall_mem_cons.mpr ⟨fun _ h => List.mem_of_mem_drop h, List.forall_mem_cons.mpr ⟨fun _ h => List.mem_of_mem_drop h, List.forall_mem_cons.mpr ⟨fun _ h => List.mem_of_mem_drop h, List.forall_mem_cons.mpr ⟨fun _ h => List.mem_of_mem_drop h, List.forall_mem_cons.mpr ⟨fun _ h => List.mem_of_mem_drop h, fun _ h => nomatch h⟩⟩⟩⟩⟩⟩⟩⟩⟩⟩⟩
def sd_g9l : List (List Cond) := [sd_wl99, sd_wl100, sd_wl101]
theorem sd_g9i : ∀ b ∈ sd_g9l, ∀ w ∈ b, w ∈ sd_all := List.forall_mem_cons.mpr ⟨fun _ h => List.mem_of_mem_drop h, List.forall_mem_cons.mpr ⟨fun _ h => List.mem_of_mem_drop h, List.forall_mem_cons.mpr ⟨fun _ h => List.mem_of_mem_drop h, fun _ h => nomatch h⟩⟩⟩
def sd_gl : List (List (List Cond)) := [sd_g0l, sd_g1l, sd_g2l, sd_g3l, sd_g4l, sd_g5l, sd_g6l, sd_g7l, sd_g8l, sd_g9l]
theorem sd_gli : ∀ a ∈ sd_gl, ∀ b ∈ a, ∀ w ∈ b, w ∈ sd_all := List.forall_mem_cons.mpr ⟨sd_g0i, List.forall_mem_cons.mpr ⟨sd_g1i, List.forall_mem_cons.mpr ⟨sd_g2i, List.forall_mem_cons.mpr ⟨sd_g3i, List.forall_mem_cons.mpr ⟨sd_g4i, List.forall_mem_cons.mpr ⟨sd_g5i, List.forall_mem_cons.mpr ⟨sd_g6i, List.forall_mem_cons.mpr ⟨sd_g7i, List.forall_mem_cons.mpr ⟨sd_g8i, List.forall_mem_cons.mpr ⟨sd_g9i, fun _ h => nomatch h⟩⟩⟩⟩⟩⟩⟩⟩⟩⟩
def sd_tt (i : Nat) : Option Cond := (sd_gl[i / 176]?).bind fun a => (a[i / 16 % 11]?).bind fun b => b[i % 16]?
theorem sd_tt_in {i : Nat} {w : Cond} (h : sd_tt i = some w) : w ∈ sd_all := by
  unfold sd_tt at h
  obtain ⟨a, ha, h⟩ := Option.bind_eq_some_iff.mp h
  obtain ⟨b, hb, h⟩ := Option.bind_eq_some_iff.mp h
  exact sd_gli a (List.mem_of_getElem? ha) b (List.mem_of_getElem? hb) w (List.mem_of_getElem? h)
/-! SOUNDNESS, 2: what of the world never changes -/
/-- the words that hold in every frame -/
def sd_gw : List Cond := sd_all.filter goodWord
/-- the words of private members of nest mates -/
theorem sd_sup {C P : String} {s U : State} (ha : s.vm.Alike U.vm) (h : va_Nw (.superclass C P) s) : va_Nw (.superclass C P) U := by
  unfold va_Nw at h ⊢
  simp only [Cond.before, Cond.holds, Cond.value, ha.findClass] at h ⊢
  cases hc : s.vm.findClass C with
  | none => simp only [hc] at h ⊢; exact h
  | some c =>
    cases hp : s.vm.findClass P with
    | none => simp only [hc, hp] at h ⊢; exact h
    | some q =>
      simp only [hc, hp] at h ⊢
      cases hk : s.vm.classes[c]? with
      | none => simp [hk] at h
      | some k =>
        cases hq : s.vm.classes[q]? with
        | none => simp [hk, hq] at h
        | some kq =>
          obtain ⟨k', h1, e1⟩ := ha.2.2 _ _ hk
          obtain ⟨q', h2, e2⟩ := ha.2.2 _ _ hq
          simp only [hk, hq, h1, h2] at h ⊢
          rw [e1, e2]
          exact h
def sd_nb (w : Cond) : Bool := match w with
  | .fieldLinkNest .. => true
  | .methodLinkNest .. => true
  | .castable .. => true
  | .superclass .. => true
  | .declares .. => true
  | .arrayOver (.object _) => true
  | _ => false
def sd_ty (g : sd_G) : List (ClassId × FieldType) := [(g.2.2.1 1, .int), (g.2.2.1 2, .byte), (g.2.2.1 3, .boolean), (g.2.2.1 4, .object RX11), (g.2.2.1 5, .object RX8), (g.2.2.1 6, .object RJ0)]
def sd_sn (j : Nat) : String := ["LEAST_OF_SETTING", "MOST_OF_SETTING", "SETTING_IF_NOT_TOLD", "LOW", "HIGH", "DigitOnes", "DigitTens"].getD j ""
def sd_so (j : Nat) : String := ["RefreshTrader", "RefreshTrader", "RefreshTrader", "RefreshTraderLaw", "RefreshTraderLaw"].getD j "java/lang/Integer"
def sd_X (g : sd_G) (U : State) (H : Heap) : Prop :=
  va_K g.2.1 vwCl (sd_ty g) U ∧ (∀ w ∈ lw_tbl, sd_nb w = true → va_Nw w U) ∧
  (∀ i, ev_so i = true → vk_R (sd_sr.getD i ("", 0, "", 0)).1 (sd_sr.getD i ("", 0, "", 0)).2.1 (sd_sr.getD i ("", 0, "", 0)).2.2.1 (g.2.2.2.1 i) U) ∧
  (∀ i, ev_so i = true → va_O "java/lang/String" (g.2.2.2.1 i) (sd_A g) U H ∧ va_OF "java/lang/String" "coder" "B" (.int 0) (g.2.2.2.1 i) (sd_A g) U H ∧ va_OF "java/lang/String" "value" "[B" (.ref (g.2.2.2.2.1 i)) (g.2.2.2.1 i) (sd_A g) U H ∧ va_T .byte (g.2.2.2.2.1 i) (ev_sl i) (fun j => .int (ev_sb i j)) (sd_A g) U H) ∧
  (∀ j, j < 7 → (j < 5 → va_Z (sd_so j) (sd_sn j) "[I" (.ref (g.2.2.2.2.2.1 j)) (sd_A g) U H ∧ va_T .int (g.2.2.2.2.2.1 j) 7 (fun k => .int (ev_sa j k)) (sd_A g) U H) ∧ (5 ≤ j → va_Z "java/lang/Integer" (sd_sn j) "[B" (.ref (g.2.2.2.2.2.1 j)) (sd_A g) U H ∧ va_T .byte (g.2.2.2.2.2.1 j) 100 (fun k => .int (ev_dg (j - 5) k)) (sd_A g) U H)) ∧
  va_Z "java/lang/String" "COMPACT_STRINGS" "Z" (.int 1) (sd_A g) U H ∧ va_Zq "jdk/internal/util/Preconditions" "SIOOBE_FORMATTER" "Ljava/util/function/BiFunction;" (sd_A g) U H ∧
  vx_Zq Bundle.tN "UNASSIGNED_STACK" Bundle.steD (sd_A g) U H ∧ vx_Zq Bundle.tN "SUPPRESSED_SENTINEL" Bundle.listD (sd_A g) U H ∧
  True ∧
  va_X g.2.2.2.2.2.2.1 g.2.2.2.2.2.2.2.1 g.2.2.2.2.2.2.2.2 U H ∧ g.2.2.2.2.2.2.1 < g.1
theorem sd_X.moved {g : sd_G} {s U : State} {H H1 : Heap} (hW : s.WarmedH U.vm) (hq : ∀ a : Nat, a < H.size → ¬ sd_A g a → H1[a]? = H[a]?) (hz : g.1 ≤ H.size) (h : sd_X g s H) : sd_X g U H1 := by
  obtain ⟨h1, h2, h3, h4, h5, h6, h7, h8, h9, h10, h11, h12⟩ := h
  have ha := hW.alike
  refine ⟨h1.moved ha, fun w hw hn => ?_, fun i hi => (h3 i hi).warm hW, fun i hi => ?_, fun j hj => ?_, ?_, ?_, ?_, ?_, trivial, ?_, h12⟩
  · have hz := h2 w hw hn
    cases w <;> first | exact hz.warmF hW | exact hz.warmM hW | exact hz.warmC hW | exact sd_sup ha hz | exact hz.warmD hW | (rename_i ty; cases ty <;> first | exact va_AO.moved ha hz | exact absurd hn (by simp [sd_nb])) | exact absurd hn (by simp [sd_nb])
  · obtain ⟨a, b, c, d⟩ := h4 i hi
    exact ⟨(va_O.moved ha a).kept hq, (va_OF.moved ha b).kept hq, (va_OF.moved ha c).kept hq, (va_T.moved ha d).kept hq⟩
  · refine ⟨fun q => ?_, fun q => ?_⟩
    · obtain ⟨a, b⟩ := (h5 j hj).1 q
      exact ⟨(va_Z.moved ha a).kept hq, (va_T.moved ha b).kept hq⟩
    · obtain ⟨a, b⟩ := (h5 j hj).2 q
      exact ⟨(va_Z.moved ha a).kept hq, (va_T.moved ha b).kept hq⟩
  · exact (va_Z.moved ha h6).kept hq
  · exact (va_Zq.moved ha h7).kept hq
  · exact (vx_Zq.moved ha h8).kept hq
  · exact (vx_Zq.moved ha h9).kept hq
  · exact (va_X.moved ha h11).kept (hq _ (Nat.lt_of_lt_of_le h12 hz) (Nat.not_le.mpr h12))
/-- another state with the same tables -/
theorem sd_X.same {g : sd_G} {s U : State} {H : Heap} (hv : U.vm = s.vm) (hz : g.1 ≤ H.size) (h : sd_X g s H) : sd_X g U H := h.moved (by rw [hv]; exact State.WarmedH.refl s) (fun _ _ _ => rfl) hz
/-- where all lies -/
def sd_iv : List (Nat × Nat) := [(27, 0), (28, 0), (29, 0), (30, 0), (24, 0), (25, 0), (26, 0), (0, 0), (1, 0), (2, 0), (3, 0), (4, 0), (5, 0), (6, 0), (7, 0), (8, 0), (9, 0), (10, 0), (11, 0), (12, 0), (13, 0), (14, 0), (15, 0), (16, 0), (17, 0), (18, 0), (19, 0), (20, 0), (21, 0), (22, 0), (23, 0), (31, 0), (32, 0), (24, 1), (25, 1), (26, 1), (33, 0), (34, 0), (35, 0), (36, 0), (37, 0), (38, 0), (0, 1), (1, 1), (2, 1), (3, 1), (4, 1), (5, 1), (6, 1), (7, 1), (8, 1), (9, 1), (10, 1), (11, 1), (12, 1), (13, 1), (14, 1), (15, 1), (16, 1), (17, 1), (18, 1), (19, 1), (20, 1), (21, 1), (22, 1), (23, 1), (0, 2), (1, 2), (2, 2), (3, 2), (4, 2), (5, 2), (6, 2), (7, 2), (8, 2), (9, 2), (10, 2), (11, 2), (12, 2), (13, 2), (14, 2), (15, 2), (16, 2), (17, 2), (18, 2), (19, 2), (20, 2), (21, 2), (22, 2), (23, 2), (39, 0), (40, 0), (0, 3), (1, 3), (2, 3), (3, 3), (4, 3), (5, 3), (6, 3), (7, 3), (8, 3), (9, 3), (10, 3), (11, 3), (12, 3), (13, 3), (14, 3), (15, 3), (16, 3), (17, 3), (18, 3), (19, 3), (20, 3), (21, 3), (22, 3), (23, 3), (0, 4), (1, 4), (2, 4), (3, 4), (4, 4), (5, 4), (6, 4), (7, 4), (8, 4), (9, 4), (10, 4), (11, 4), (12, 4), (13, 4), (14, 4), (15, 4), (16, 4), (17, 4), (18, 4), (19, 4), (20, 4), (21, 4), (22, 4), (23, 4), (0, 5), (1, 5), (2, 5), (3, 5), (4, 5), (5, 5), (6, 5), (7, 5), (8, 5), (9, 5), (10, 5), (11, 5), (12, 5), (13, 5), (14, 5), (15, 5), (16, 5), (17, 5), (18, 5), (19, 5), (20, 5), (21, 5), (22, 5), (23, 5), (0, 6), (1, 6), (2, 6), (3, 6), (4, 6), (5, 6), (6, 6), (7, 6), (8, 6), (9, 6), (10, 6), (11, 6), (12, 6), (13, 6), (14, 6), (15, 6), (16, 6), (17, 6), (18, 6), (19, 6), (20, 6), (21, 6), (22, 6), (23, 6), (0, 7), (1, 7), (2, 7), (3, 7), (4, 7), (5, 7), (6, 7), (7, 7), (8, 7), (9, 7), (10, 7), (11, 7), (12, 7), (13, 7), (14, 7), (15, 7), (16, 7), (17, 7), (18, 7), (19, 7), (20, 7), (21, 7), (22, 7), (23, 7), (0, 8), (1, 8), (2, 8), (3, 8), (4, 8), (5, 8), (6, 8), (7, 8), (8, 8), (9, 8), (10, 8), (11, 8), (12, 8), (13, 8), (14, 8), (15, 8), (16, 8), (17, 8), (18, 8), (19, 8), (20, 8), (21, 8), (22, 8), (23, 8), (0, 9), (1, 9), (2, 9), (3, 9), (4, 9), (5, 9), (6, 9), (7, 9), (8, 9), (9, 9), (10, 9), (11, 9), (12, 9), (13, 9), (14, 9), (15, 9), (16, 9), (17, 9), (18, 9), (19, 9), (20, 9), (21, 9), (22, 9), (23, 9), (0, 10), (1, 10), (2, 10), (3, 10), (4, 10), (5, 10), (6, 10), (7, 10), (8, 10), (9, 10), (10, 10), (11, 10), (12, 10), (13, 10), (14, 10), (15, 10), (16, 10), (17, 10), (18, 10), (19, 10), (20, 10), (21, 10), (22, 10), (23, 10), (0, 11), (1, 11), (2, 11), (3, 11), (4, 11), (5, 11), (6, 11), (7, 11), (8, 11), (9, 11), (10, 11), (11, 11), (12, 11), (13, 11), (14, 11), (15, 11), (16, 11), (17, 11), (18, 11), (19, 11), (20, 11), (21, 11), (22, 11), (23, 11), (0, 12), (1, 12), (2, 12), (3, 12), (4, 12), (5, 12), (6, 12), (7, 12), (8, 12), (9, 12), (10, 12), (11, 12), (12, 12), (13, 12), (14, 12), (15, 12), (16, 12), (17, 12), (18, 12), (19, 12), (20, 12), (21, 12), (22, 12), (23, 12), (41, 0), (42, 0), (43, 0), (0, 13), (1, 13), (2, 13), (3, 13), (4, 13), (5, 13), (6, 13), (7, 13), (8, 13), (9, 13), (10, 13), (11, 13), (12, 13), (13, 13), (14, 13), (15, 13), (16, 13), (17, 13), (18, 13), (19, 13), (20, 13), (21, 13), (22, 13), (23, 13), (0, 14), (1, 14), (2, 14), (3, 14), (4, 14), (5, 14), (6, 14), (7, 14), (8, 14), (9, 14), (10, 14), (11, 14), (12, 14), (13, 14), (14, 14), (15, 14), (16, 14), (17, 14), (18, 14), (19, 14), (20, 14), (21, 14), (22, 14), (23, 14), (44, 0), (45, 0), (46, 0), (47, 0), (48, 0), (49, 0), (50, 0), (51, 0), (52, 0), (53, 0), (54, 0), (55, 0), (56, 0), (57, 0), (58, 0), (59, 0), (60, 0), (61, 0)]
theorem sd_iv_ok : ∀ r, r < 62 → ∀ i, i < ev_cn r → sd_iv[ev_sq r i]? = some (r, i) := by decide +kernel
theorem sd_cn_ev {r i : Nat} (h : i < sd_cn r) : r < 44 ∧ i < ev_cn r := by
  unfold sd_cn at h
  by_cases q : r < 44
  · rw [if_pos q] at h; exact ⟨q, h⟩
  · rw [if_neg q] at h; omega
theorem sd_sq383 : ∀ r, r < 44 → ∀ i, i < ev_cn r → ev_sq r i < 383 := by decide +kernel
theorem sd_inj {g : sd_G} {r i r' i' : Nat} (hr : r < 62) (hi : i < sd_cn r) (hr' : r' < 62) (hi' : i' < sd_cn r') (h : sd_ad g r i = sd_ad g r' i') : r = r' ∧ i = i' := by
  unfold sd_ad at h
  rw [if_pos hr, if_pos hr'] at h
  have e : ev_sq r i = ev_sq r' i' := by omega
  have a := sd_iv_ok r hr i (sd_cn_ev hi).2
  have b := sd_iv_ok r' hr' i' (sd_cn_ev hi').2
  rw [e, b] at a
  cases a
  exact ⟨rfl, rfl⟩
theorem sd_adl {g : sd_G} {r i : Nat} (h : 199 < r) : sd_ad g r i = g.1 + 383 + i := by
  unfold sd_ad
  rw [if_neg (by omega), if_neg (by omega), if_neg (by omega), if_neg (by omega), if_neg (by omega), if_pos h]
theorem sd_adc {g : sd_G} {r i : Nat} (h : i < sd_cn r) : ∃ k, k < 383 ∧ sd_ad g r i = g.1 + k := by
  obtain ⟨a, b⟩ := sd_cn_ev h
  refine ⟨ev_sq r i, sd_sq383 r a i b, ?_⟩
  unfold sd_ad
  rw [if_pos (by omega)]
theorem sd_nel {g : sd_G} {r i r' i' : Nat} (h : i < sd_cn r) (h' : 199 < r') : sd_ad g r i ≠ sd_ad g r' i' := by
  obtain ⟨k, a, b⟩ := sd_adc (g := g) h
  rw [b, sd_adl h']
  omega
theorem sd_c.lt {g : sd_G} {μ : ev_M} {r i : Nat} {H : Heap} (h : sd_c g μ r i H) : sd_ad g r i < H.size := by
  unfold sd_c at h
  split at h
  · obtain ⟨q, -, cell, e, -⟩ := h
    exact (Array.getElem?_eq_some_iff.mp e).1
  · exact (Array.getElem?_eq_some_iff.mp h).1
  · exact (Array.getElem?_eq_some_iff.mp h).1
theorem sd_lc.lt {g : sd_G} {o : ev_W} {r i : Nat} {H : Heap} (h : sd_lc g o r i H) : sd_ad g r i < H.size := by
  unfold sd_lc at h
  split at h
  · obtain ⟨q, -, cell, e, -⟩ := h
    exact (Array.getElem?_eq_some_iff.mp e).1
  · exact (Array.getElem?_eq_some_iff.mp h).1
  · exact (Array.getElem?_eq_some_iff.mp h.1).1
  · exact (Array.getElem?_eq_some_iff.mp h.1).1
  · exact (Array.getElem?_eq_some_iff.mp h).1
theorem sd_ad_ge {g : sd_G} {r i : Nat} (hr : r < 62) : sd_A g (sd_ad g r i) := by
  unfold sd_ad sd_A
  rw [if_pos hr]
  omega
theorem sd_ad_gl {g : sd_G} {r i : Nat} (hr : 199 < r) : sd_A g (sd_ad g r i) := by
  rw [sd_adl hr]
  unfold sd_A
  omega
/-- a cell that lies as it lay, its memory the same -/
theorem sd_c.kept {g : sd_G} {μ μ1 : ev_M} {r i : Nat} {H H1 : Heap} (h : sd_c g μ r i H) (hq : H1[sd_ad g r i]? = H[sd_ad g r i]?) (hl : ∀ k, μ1.2.1 r i k = μ.2.1 r i k) (hd : ∀ k, μ1.2.2.1 r i k = μ.2.2.1 r i k) : sd_c g μ1 r i H1 := by
  unfold sd_c at h ⊢
  have el : ∀ k, sd_lv g μ1 r i k = sd_lv g μ r i k := fun k => by unfold sd_lv; rw [hl]
  split at h
  · rename_i ci e
    obtain ⟨q, e1, cell, e2, e3⟩ := h
    refine ⟨q, e1, cell, by rw [hq]; exact e2, ?_⟩
    have : (fun k => if ev_rf ci k = true then sd_lv g μ1 r i k else .int (μ1.2.2.1 r i k)) = (fun k => if ev_rf ci k = true then sd_lv g μ r i k else .int (μ.2.2.1 r i k)) := by
      funext k
      rw [el, hd]
    rw [this]
    exact e3
  · rename_i n e
    show H1[_]? = _
    rw [hq, h]
    simp only [el]
  · rename_i t n h0 h5 e
    show H1[_]? = _
    rw [hq, h]
    simp only [hd]
/-- a cell of the law's that lies as it lay -/
theorem sd_lc.kept {g : sd_G} {o o1 : ev_W} {r i : Nat} {H H1 : Heap} (h : sd_lc g o r i H) (hq : H1[sd_ad g r i]? = H[sd_ad g r i]?) (hl : ∀ k, o1.2.2.2 r i k = o.2.2.2 r i k) (hd : ∀ k, o1.2.2.1 r i k = o.2.2.1 r i k) (hz : (ev_ln r).1 = 2 → o1.2.2.1 199 i 0 = o.2.2.1 199 i 0) : sd_lc g o1 r i H1 := by
  unfold sd_lc at h ⊢
  have el : ∀ k, sd_lu g o1 r i k = sd_lu g o r i k := fun k => by unfold sd_lu; rw [hl]
  split at h
  · rename_i ci e
    obtain ⟨q, e1, cell, e2, e3⟩ := h
    refine ⟨q, e1, cell, by rw [hq]; exact e2, ?_⟩
    have : (fun k => if ev_lf r k = true then sd_lu g o1 r i k else .int (o1.2.2.1 r i k)) = (fun k => if ev_lf r k = true then sd_lu g o r i k else .int (o.2.2.1 r i k)) := by
      funext k
      rw [el, hd]
    rw [this]
    exact e3
  · rename_i n e
    show H1[_]? = _
    rw [hq, h]
    simp only [el]
  · rename_i n e
    show H1[_]? = _ ∧ _ ∧ _
    rw [hq, h.1, hz (by rw [e])]
    refine ⟨?_, h.2.1, fun k hk => by rw [hd]; exact h.2.2 k hk⟩
    simp only [hd]
  · rename_i n e
    show H1[_]? = _ ∧ _
    rw [hq, h.1]
    refine ⟨?_, fun k hk => by rw [hd]; exact h.2 k hk⟩
    simp only [hd]
  · rename_i t n h0 h5 h4 h3 e
    show H1[_]? = _
    rw [hq, h]
    simp only [hd]
/-- the law's things, where only others are written -/
theorem sd_L.kept {g : sd_G} {n : sd_N} {o : ev_W} {H H1 : Heap} (h : sd_L g n o H) (hq : ∀ r i, sd_la n r i → H1[sd_ad g r i]? = H[sd_ad g r i]?) : sd_L g n o H1 :=
  ⟨fun r i a => (h.1 r i a).kept (hq r i a) (fun _ => rfl) (fun _ => rfl) (fun _ => rfl), h.2⟩
/-- one thing is written -/
theorem sd_R.put {g : sd_G} {μ μ1 : ev_M} {H H1 : Heap} {r0 i0 : Nat} (h : sd_R g μ H) (hr0 : r0 < 62) (ha : sd_al (sd_nn μ) r0 i0) (hn : μ1.1 = μ.1) (hz : H1.size = H.size) (oq : ∀ q : Nat, q ≠ sd_ad g r0 i0 → H1[q]? = H[q]?)
    (hl : ∀ r i k, ¬ (r = r0 ∧ i = i0) → μ1.2.1 r i k = μ.2.1 r i k) (hd : ∀ r i k, ¬ (r = r0 ∧ i = i0) → μ1.2.2.1 r i k = μ.2.2.1 r i k) (ho : μ1.2.2.2 = μ.2.2.2) (hc : sd_c g μ1 r0 i0 H1)
    (hk : ∀ k, ev_ir r0 k = true → k < sd_n r0 → μ1.2.1 r0 i0 k = true → (ev_tg r0 k i0).1 < 62 ∧ sd_al (sd_nn μ) (ev_tg r0 k i0).1 (ev_tg r0 k i0).2) : sd_R g μ1 H1 := by
  obtain ⟨h1, h2, h3, h4, h5, h6, h7, h8⟩ := h
  have hnn : sd_nn μ1 = sd_nn μ := by unfold sd_nn; rw [hn, ho]
  refine ⟨fun r i hr hi => ?_, fun q => by rw [hz, hn, ho]; rw [hn] at q; exact h2 q, fun r i k hr hi a b c => ?_, ?_, ?_, by rw [hz]; exact h6, fun q => by rw [ho]; rw [hn] at q; exact h7 q, ?_⟩
  · rw [hnn] at hi
    by_cases e : r = r0 ∧ i = i0
    · rw [e.1, e.2]; exact hc
    · have hne : sd_ad g r i ≠ sd_ad g r0 i0 := fun q => e (sd_inj hr hi.1 hr0 ha.1 q)
      exact (h1 r i hr hi).kept (oq _ hne) (fun k => hl r i k e) (fun k => hd r i k e)
  · rw [hnn] at hi ⊢
    by_cases e : r = r0 ∧ i = i0
    · rw [e.1] at a b; rw [e.1, e.2] at c; rw [e.1, e.2]; exact hk k a b c
    · rw [hl r i k e] at c; exact h3 r i k hr hi a b c
  · rw [← h4]
    funext k
    exact hd 103 0 k (fun e => by omega)
  · rw [hd 104 0 0 (fun e => by omega)]; exact h5
  · rw [hnn, ho]
    exact h8.kept fun r i a => oq _ (fun z => sd_nel ha.1 a.1 z.symm)
