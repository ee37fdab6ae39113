def UW : List Cond := lw_tbl.filter goodWord
theorem uw_t {w : Cond} (i : Nat) (h : tables_1[i]? = some w) (hg : goodWord w = true) : w ∈ UW := List.mem_filter.mpr ⟨List.mem_append_right _ (List.mem_of_getElem? h), hg⟩
theorem uw_s {q : MethodName × Nat} (i : Nat) (h : lw_privs[i]? = some q) (hg : goodWord (Cond.selects q.1.cls q.1 q.1) = true) : Cond.selects q.1.cls q.1 q.1 ∈ UW := List.mem_filter.mpr ⟨List.mem_append_left _ (List.mem_map.mpr ⟨q, List.mem_of_getElem? h, rfl⟩), hg⟩
theorem uw_good {w : Cond} (h : w ∈ UW) : (w.onTables && w.keeps) = true ∨ ∃ ty, w = .arrayClass ty := good_of_word (List.mem_filter.mp h).2
theorem uw_tbl {w : Cond} (h : w ∈ UW) : w ∈ lw_tbl := (List.mem_filter.mp h).1
theorem un_L : Cond.initialized RL ∈ UW := uw_t 0 (by decide +kernel) rfl
theorem un_X6 : Cond.initialized RX6 ∈ UW := uw_t 1 (by decide +kernel) rfl
theorem un_X4 : Cond.initialized RX4 ∈ UW := uw_t 2 (by decide +kernel) rfl
theorem un_X1 : Cond.initialized RX1 ∈ UW := uw_t 3 (by decide +kernel) rfl
theorem un_X3 : Cond.initialized RX3 ∈ UW := uw_t 4 (by decide +kernel) rfl
theorem un_X2 : Cond.initialized RX2 ∈ UW := uw_t 5 (by decide +kernel) rfl
theorem un_X0 : Cond.initialized RX0 ∈ UW := uw_t 6 (by decide +kernel) rfl
theorem un_X5 : Cond.initialized RX5 ∈ UW := uw_t 7 (by decide +kernel) rfl
theorem un_X7 : Cond.initialized RX7 ∈ UW := uw_t 8 (by decide +kernel) rfl
theorem un_J9 : Cond.initialized RJ9 ∈ UW := uw_t 9 (by decide +kernel) rfl
theorem un_J10 : Cond.initialized RJ10 ∈ UW := uw_t 10 (by decide +kernel) rfl
theorem ulL_7 : Cond.classLink RL 7 RX6 ∈ UW := uw_t 11 (by decide +kernel) rfl
theorem uo_X6 : Cond.instantiable RX6 9 ∈ UW := uw_t 12 (by decide +kernel) rfl
theorem umL_9 : Cond.methodLink RL 9 yX6_init ∈ UW := uw_t 13 (by decide +kernel) rfl
theorem ui_X6_init : Cond.instanceMethod yX6_init ∈ UW := uw_t 14 (by decide +kernel) rfl
set_option maxRecDepth 20000 in
theorem uc_X6_init : Cond.code yX6_init cX6_init 2 none ∈ UW := uw_t 15 rfl rfl
theorem umX6_1 : Cond.methodLink RX6 1 objectInit ∈ UW := uw_t 16 (by decide +kernel) rfl
theorem ui_objinit : Cond.instanceMethod objectInit ∈ UW := uw_t 17 (by decide +kernel) rfl
set_option maxRecDepth 20000 in
theorem uc_objinit : Cond.code objectInit ⟨#[0xb1]⟩ 1 none ∈ UW := uw_t 18 rfl rfl
theorem ulX6_7 : Cond.classLink RX6 7 RX4 ∈ UW := uw_t 19 (by decide +kernel) rfl
theorem uo_X4 : Cond.instantiable RX4 6 ∈ UW := uw_t 20 (by decide +kernel) rfl
theorem ui_X4_init : Cond.instanceMethod yX4_init ∈ UW := uw_t 22 (by decide +kernel) rfl
set_option maxRecDepth 20000 in
theorem uc_X4_init : Cond.code yX4_init cX4_init 1 none ∈ UW := uw_t 23 rfl rfl
theorem umX4_3 : Cond.methodLink RX4 3 objectInit ∈ UW := uw_t 24 (by decide +kernel) rfl
theorem ufX4_9 : Cond.fieldLink RX4 9 "WoolBridge$Text" "bytes" "[I" ∈ UW := uw_t 25 (by decide +kernel) rfl
theorem ufX4_15 : Cond.fieldLink RX4 15 "WoolBridge$Text" "size" "I" ∈ UW := uw_t 26 (by decide +kernel) rfl
theorem ufX4_24 : Cond.fieldLink RX4 24 "WoolBridge$Text" "next" "I" ∈ UW := uw_t 28 (by decide +kernel) rfl
theorem ufX4_37 : Cond.fieldLink RX4 37 "WoolBridge$Text" "start" "I" ∈ UW := uw_t 29 (by decide +kernel) rfl
theorem ufX4_30 : Cond.fieldLink RX4 30 "WoolBridge$Text" "token" "I" ∈ UW := uw_t 30 (by decide +kernel) rfl
theorem ufX4_40 : Cond.fieldLink RX4 40 "WoolBridge$Text" "value" "I" ∈ UW := uw_t 31 (by decide +kernel) rfl
theorem ua_int : Cond.arrayClass .int ∈ UW := uw_t 45 (by decide +kernel) rfl
theorem ulX6_16 : Cond.classLink RX6 16 RX1 ∈ UW := uw_t 46 (by decide +kernel) rfl
theorem uo_X1 : Cond.instantiable RX1 3 ∈ UW := uw_t 47 (by decide +kernel) rfl
theorem umX6_18 : Cond.methodLink RX6 18 yX1_init ∈ UW := uw_t 48 (by decide +kernel) rfl
theorem ui_X1_init : Cond.instanceMethod yX1_init ∈ UW := uw_t 49 (by decide +kernel) rfl
set_option maxRecDepth 20000 in
theorem uc_X1_init : Cond.code yX1_init cX1_init 2 none ∈ UW := uw_t 50 rfl rfl
theorem umX1_3 : Cond.methodLink RX1 3 objectInit ∈ UW := uw_t 51 (by decide +kernel) rfl
theorem ulX1_9 : Cond.classLink RX1 9 RX3 ∈ UW := uw_t 52 (by decide +kernel) rfl
theorem uo_X3 : Cond.instantiable RX3 6 ∈ UW := uw_t 54 (by decide +kernel) rfl
theorem ui_X3_init : Cond.instanceMethod yX3_init ∈ UW := uw_t 56 (by decide +kernel) rfl
set_option maxRecDepth 20000 in
theorem uc_X3_init : Cond.code yX3_init cX3_init 1 none ∈ UW := uw_t 57 rfl rfl
theorem umX3_3 : Cond.methodLink RX3 3 objectInit ∈ UW := uw_t 58 (by decide +kernel) rfl
theorem ufX3_9 : Cond.fieldLink RX3 9 "WoolBridge$Span" "whose" "[I" ∈ UW := uw_t 59 (by decide +kernel) rfl
theorem ufX6_101 : Cond.fieldLink RX6 101 "WoolBridge$Span" "whose" "[I" ∈ UW := uw_t 60 (by decide +kernel) rfl
theorem ufX3_15 : Cond.fieldLink RX3 15 "WoolBridge$Span" "thick" "[I" ∈ UW := uw_t 61 (by decide +kernel) rfl
theorem ufX2_28 : Cond.fieldLink RX2 28 "WoolBridge$Span" "thick" "[I" ∈ UW := uw_t 62 (by decide +kernel) rfl
theorem ufX6_104 : Cond.fieldLink RX6 104 "WoolBridge$Span" "thick" "[I" ∈ UW := uw_t 63 (by decide +kernel) rfl
theorem ufX3_18 : Cond.fieldLink RX3 18 "WoolBridge$Span" "old" "[I" ∈ UW := uw_t 64 (by decide +kernel) rfl
theorem ufX6_105 : Cond.fieldLink RX6 105 "WoolBridge$Span" "old" "[I" ∈ UW := uw_t 65 (by decide +kernel) rfl
theorem ufX3_21 : Cond.fieldLink RX3 21 "WoolBridge$Span" "rows" "I" ∈ UW := uw_t 66 (by decide +kernel) rfl
theorem ufX0_18 : Cond.fieldLink RX0 18 "WoolBridge$Span" "rows" "I" ∈ UW := uw_t 67 (by decide +kernel) rfl
theorem ufX2_35 : Cond.fieldLink RX2 35 "WoolBridge$Span" "rows" "I" ∈ UW := uw_t 68 (by decide +kernel) rfl
theorem ufX6_121 : Cond.fieldLink RX6 121 "WoolBridge$Span" "rows" "I" ∈ UW := uw_t 69 (by decide +kernel) rfl
theorem ufX3_25 : Cond.fieldLink RX3 25 "WoolBridge$Span" "rain" "Z" ∈ UW := uw_t 70 (by decide +kernel) rfl
theorem ufX0_30 : Cond.fieldLink RX0 30 "WoolBridge$Span" "rain" "Z" ∈ UW := uw_t 71 (by decide +kernel) rfl
theorem ufX6_131 : Cond.fieldLink RX6 131 "WoolBridge$Span" "rain" "Z" ∈ UW := uw_t 72 (by decide +kernel) rfl
theorem ufX3_29 : Cond.fieldLink RX3 29 "WoolBridge$Span" "year" "I" ∈ UW := uw_t 73 (by decide +kernel) rfl
theorem ufX6_138 : Cond.fieldLink RX6 138 "WoolBridge$Span" "year" "I" ∈ UW := uw_t 74 (by decide +kernel) rfl
theorem ufX1_11 : Cond.fieldLink RX1 11 "WoolBridge$Past" "spans" "[LWoolBridge$Span;" ∈ UW := uw_t 88 (by decide +kernel) rfl
theorem ufX1_30 : Cond.fieldLink RX1 30 "WoolBridge$Past" "at" "I" ∈ UW := uw_t 89 (by decide +kernel) rfl
theorem ufX1_18 : Cond.fieldLink RX1 18 "WoolBridge$Past" "known" "I" ∈ UW := uw_t 90 (by decide +kernel) rfl
theorem ulX6_31 : Cond.classLink RX6 31 RX2 ∈ UW := uw_t 100 (by decide +kernel) rfl
theorem uo_X2 : Cond.instantiable RX2 3 ∈ UW := uw_t 101 (by decide +kernel) rfl
theorem ui_X2_init : Cond.instanceMethod yX2_init ∈ UW := uw_t 103 (by decide +kernel) rfl
set_option maxRecDepth 20000 in
theorem uc_X2_init : Cond.code yX2_init cX2_init 1 none ∈ UW := uw_t 104 rfl rfl
theorem umX2_3 : Cond.methodLink RX2 3 objectInit ∈ UW := uw_t 105 (by decide +kernel) rfl
theorem ufX2_9 : Cond.fieldLink RX2 9 "WoolBridge$Plumbed" "row" "[I" ∈ UW := uw_t 106 (by decide +kernel) rfl
theorem ufX2_15 : Cond.fieldLink RX2 15 "WoolBridge$Plumbed" "borne" "[I" ∈ UW := uw_t 107 (by decide +kernel) rfl
theorem ufX2_18 : Cond.fieldLink RX2 18 "WoolBridge$Plumbed" "size" "I" ∈ UW := uw_t 108 (by decide +kernel) rfl
theorem ua_boolean : Cond.arrayClass .boolean ∈ UW := uw_t 117 (by decide +kernel) rfl
theorem ulX6_38 : Cond.classLink RX6 38 RX0 ∈ UW := uw_t 118 (by decide +kernel) rfl
theorem uo_X0 : Cond.instantiable RX0 4 ∈ UW := uw_t 119 (by decide +kernel) rfl
theorem ui_X0_init : Cond.instanceMethod yX0_init ∈ UW := uw_t 121 (by decide +kernel) rfl
set_option maxRecDepth 20000 in
theorem uc_X0_init : Cond.code yX0_init cX0_init 1 none ∈ UW := uw_t 122 rfl rfl
theorem umX0_3 : Cond.methodLink RX0 3 objectInit ∈ UW := uw_t 123 (by decide +kernel) rfl
theorem ufX0_9 : Cond.fieldLink RX0 9 "WoolBridge$Ahead" "bears" "[I" ∈ UW := uw_t 124 (by decide +kernel) rfl
theorem ufX0_15 : Cond.fieldLink RX0 15 "WoolBridge$Ahead" "chosen" "[I" ∈ UW := uw_t 125 (by decide +kernel) rfl
theorem ufX0_27 : Cond.fieldLink RX0 27 "WoolBridge$Ahead" "end" "I" ∈ UW := uw_t 127 (by decide +kernel) rfl
theorem ufX0_34 : Cond.fieldLink RX0 34 "WoolBridge$Ahead" "rain" "Z" ∈ UW := uw_t 128 (by decide +kernel) rfl
theorem ulX6_45 : Cond.classLink RX6 45 RX5 ∈ UW := uw_t 138 (by decide +kernel) rfl
theorem uo_X5 : Cond.instantiable RX5 9 ∈ UW := uw_t 139 (by decide +kernel) rfl
theorem ui_X5_init : Cond.instanceMethod yX5_init ∈ UW := uw_t 141 (by decide +kernel) rfl
set_option maxRecDepth 20000 in
theorem uc_X5_init : Cond.code yX5_init cX5_init 1 none ∈ UW := uw_t 142 rfl rfl
theorem umX5_3 : Cond.methodLink RX5 3 objectInit ∈ UW := uw_t 143 (by decide +kernel) rfl
theorem ufX5_9 : Cond.fieldLink RX5 9 "WoolBridge$Told" "heavy" "[I" ∈ UW := uw_t 144 (by decide +kernel) rfl
theorem ufX6_83 : Cond.fieldLink RX6 83 "WoolBridge$Told" "heavy" "[I" ∈ UW := uw_t 145 (by decide +kernel) rfl
theorem ufX0_59 : Cond.fieldLink RX0 59 "WoolBridge$Told" "heavy" "[I" ∈ UW := uw_t 146 (by decide +kernel) rfl
theorem ufX5_15 : Cond.fieldLink RX5 15 "WoolBridge$Told" "thick" "[I" ∈ UW := uw_t 147 (by decide +kernel) rfl
theorem ufX3_36 : Cond.fieldLink RX3 36 "WoolBridge$Told" "thick" "[I" ∈ UW := uw_t 148 (by decide +kernel) rfl
theorem ufX6_87 : Cond.fieldLink RX6 87 "WoolBridge$Told" "thick" "[I" ∈ UW := uw_t 149 (by decide +kernel) rfl
theorem ufX0_62 : Cond.fieldLink RX0 62 "WoolBridge$Told" "thick" "[I" ∈ UW := uw_t 150 (by decide +kernel) rfl
theorem ufX5_18 : Cond.fieldLink RX5 18 "WoolBridge$Told" "whose" "[I" ∈ UW := uw_t 151 (by decide +kernel) rfl
theorem ufX3_35 : Cond.fieldLink RX3 35 "WoolBridge$Told" "whose" "[I" ∈ UW := uw_t 152 (by decide +kernel) rfl
theorem ufX5_28 : Cond.fieldLink RX5 28 "WoolBridge$Told" "people" "I" ∈ UW := uw_t 153 (by decide +kernel) rfl
theorem ufX0_56 : Cond.fieldLink RX0 56 "WoolBridge$Told" "people" "I" ∈ UW := uw_t 154 (by decide +kernel) rfl
theorem ufX4_55 : Cond.fieldLink RX4 55 "WoolBridge$Told" "people" "I" ∈ UW := uw_t 155 (by decide +kernel) rfl
theorem ufX6_175 : Cond.fieldLink RX6 175 "WoolBridge$Told" "people" "I" ∈ UW := uw_t 156 (by decide +kernel) rfl
theorem ufX5_31 : Cond.fieldLink RX5 31 "WoolBridge$Told" "rows" "I" ∈ UW := uw_t 157 (by decide +kernel) rfl
theorem ufX3_32 : Cond.fieldLink RX3 32 "WoolBridge$Told" "rows" "I" ∈ UW := uw_t 158 (by decide +kernel) rfl
theorem ufX4_70 : Cond.fieldLink RX4 70 "WoolBridge$Told" "rows" "I" ∈ UW := uw_t 159 (by decide +kernel) rfl
theorem ufX5_21 : Cond.fieldLink RX5 21 "WoolBridge$Told" "gap" "I" ∈ UW := uw_t 160 (by decide +kernel) rfl
theorem ufX4_86 : Cond.fieldLink RX4 86 "WoolBridge$Told" "gap" "I" ∈ UW := uw_t 161 (by decide +kernel) rfl
theorem ufX6_194 : Cond.fieldLink RX6 194 "WoolBridge$Told" "gap" "I" ∈ UW := uw_t 162 (by decide +kernel) rfl
theorem ufX5_25 : Cond.fieldLink RX5 25 "WoolBridge$Told" "slack" "I" ∈ UW := uw_t 163 (by decide +kernel) rfl
theorem ufX4_92 : Cond.fieldLink RX4 92 "WoolBridge$Told" "slack" "I" ∈ UW := uw_t 164 (by decide +kernel) rfl
theorem ufX6_197 : Cond.fieldLink RX6 197 "WoolBridge$Told" "slack" "I" ∈ UW := uw_t 165 (by decide +kernel) rfl
theorem ufX5_34 : Cond.fieldLink RX5 34 "WoolBridge$Told" "gapTold" "Z" ∈ UW := uw_t 166 (by decide +kernel) rfl
theorem ufX4_82 : Cond.fieldLink RX4 82 "WoolBridge$Told" "gapTold" "Z" ∈ UW := uw_t 167 (by decide +kernel) rfl
theorem ufX5_38 : Cond.fieldLink RX5 38 "WoolBridge$Told" "slackTold" "Z" ∈ UW := uw_t 168 (by decide +kernel) rfl
theorem ufX4_89 : Cond.fieldLink RX4 89 "WoolBridge$Told" "slackTold" "Z" ∈ UW := uw_t 169 (by decide +kernel) rfl
theorem ufX6_10 : Cond.fieldLink RX6 10 "WoolBridge" "text" "LWoolBridge$Text;" ∈ UW := uw_t 189 (by decide +kernel) rfl
theorem ufX6_19 : Cond.fieldLink RX6 19 "WoolBridge" "past" "LWoolBridge$Past;" ∈ UW := uw_t 190 (by decide +kernel) rfl
theorem ufX6_23 : Cond.fieldLink RX6 23 "WoolBridge" "images" "[LWoolBridge$Past;" ∈ UW := uw_t 191 (by decide +kernel) rfl
theorem ufX6_27 : Cond.fieldLink RX6 27 "WoolBridge" "kept" "[Z" ∈ UW := uw_t 192 (by decide +kernel) rfl
theorem ufX6_34 : Cond.fieldLink RX6 34 "WoolBridge" "plumbed" "LWoolBridge$Plumbed;" ∈ UW := uw_t 193 (by decide +kernel) rfl
theorem ufX6_41 : Cond.fieldLink RX6 41 "WoolBridge" "ahead" "LWoolBridge$Ahead;" ∈ UW := uw_t 194 (by decide +kernel) rfl
theorem ufX6_48 : Cond.fieldLink RX6 48 "WoolBridge" "told" "LWoolBridge$Told;" ∈ UW := uw_t 195 (by decide +kernel) rfl
theorem ufX6_52 : Cond.fieldLink RX6 52 "WoolBridge" "spare" "LWoolBridge$Told;" ∈ UW := uw_t 196 (by decide +kernel) rfl
theorem ufX6_250 : Cond.fieldLink RX6 250 "WoolBridge" "traced" "J" ∈ UW := uw_t 197 (by decide +kernel) rfl
theorem umL_13 : Cond.methodLink RL 13 yX6_type ∈ UW := uw_t 217 (by decide +kernel) rfl
theorem ui_X6_type : Cond.instanceMethod yX6_type ∈ UW := uw_t 218 (by decide +kernel) rfl
theorem us_X6_type : Cond.selects RX6 yX6_type yX6_type ∈ UW := uw_t 219 (by decide +kernel) rfl
set_option maxRecDepth 20000 in
theorem uc_X6_type : Cond.code yX6_type cX6_type 2 (some .int) ∈ UW := uw_t 220 rfl rfl
theorem umX6_55 : Cond.methodLink RX6 55 yX6_within ∈ UW := uw_t 221 (by decide +kernel) rfl
theorem ut_X6_within : Cond.static yX6_within ∈ UW := uw_t 222 (by decide +kernel) rfl
set_option maxRecDepth 20000 in
theorem uc_X6_within : Cond.code yX6_within cX6_within 3 (some .boolean) ∈ UW := uw_t 223 rfl rfl
theorem umX6_59 : Cond.methodLink RX6 59 yX4_add ∈ UW := uw_t 224 (by decide +kernel) rfl
theorem ui_X4_add : Cond.instanceMethod yX4_add ∈ UW := uw_t 225 (by decide +kernel) rfl
theorem us_X4_add : Cond.selects RX4 yX4_add yX4_add ∈ UW := uw_t 226 (by decide +kernel) rfl
set_option maxRecDepth 20000 in
theorem uc_X4_add : Cond.code yX4_add cX4_add 2 (some .boolean) ∈ UW := uw_t 227 rfl rfl
theorem umL_18 : Cond.methodLink RL 18 yX6_clear ∈ UW := uw_t 228 (by decide +kernel) rfl
theorem ui_X6_clear : Cond.instanceMethod yX6_clear ∈ UW := uw_t 229 (by decide +kernel) rfl
theorem us_X6_clear : Cond.selects RX6 yX6_clear yX6_clear ∈ UW := uw_t 230 (by decide +kernel) rfl
set_option maxRecDepth 20000 in
theorem uc_X6_clear : Cond.code yX6_clear cX6_clear 1 (some .int) ∈ UW := uw_t 231 rfl rfl
theorem umX6_67 : Cond.methodLink RX6 67 yX4_empty ∈ UW := uw_t 232 (by decide +kernel) rfl
theorem ui_X4_empty : Cond.instanceMethod yX4_empty ∈ UW := uw_t 233 (by decide +kernel) rfl
theorem us_X4_empty : Cond.selects RX4 yX4_empty yX4_empty ∈ UW := uw_t 234 (by decide +kernel) rfl
set_option maxRecDepth 20000 in
theorem uc_X4_empty : Cond.code yX4_empty cX4_empty 2 (some .int) ∈ UW := uw_t 235 rfl rfl
theorem umL_23 : Cond.methodLink RL 23 yX6_gorge ∈ UW := uw_t 236 (by decide +kernel) rfl
theorem ui_X6_gorge : Cond.instanceMethod yX6_gorge ∈ UW := uw_t 237 (by decide +kernel) rfl
theorem us_X6_gorge : Cond.selects RX6 yX6_gorge yX6_gorge ∈ UW := uw_t 238 (by decide +kernel) rfl
set_option maxRecDepth 20000 in
theorem uc_X6_gorge : Cond.code yX6_gorge cX6_gorge 4 (some .int) ∈ UW := uw_t 239 rfl rfl
theorem umX6_71 : Cond.methodLink RX6 71 yX4_readInto ∈ UW := uw_t 240 (by decide +kernel) rfl
theorem ui_X4_readInto : Cond.instanceMethod yX4_readInto ∈ UW := uw_t 241 (by decide +kernel) rfl
theorem us_X4_readInto : Cond.selects RX4 yX4_readInto yX4_readInto ∈ UW := uw_t 242 (by decide +kernel) rfl
set_option maxRecDepth 20000 in
theorem uc_X4_readInto : Cond.code yX4_readInto cX4_readInto 3 (some .int) ∈ UW := uw_t 243 rfl rfl
theorem umX4_19 : Cond.methodLink RX4 19 yX5_startAnew ∈ UW := uw_t 244 (by decide +kernel) rfl
theorem ui_X5_startAnew : Cond.instanceMethod yX5_startAnew ∈ UW := uw_t 245 (by decide +kernel) rfl
theorem us_X5_startAnew : Cond.selects RX5 yX5_startAnew yX5_startAnew ∈ UW := uw_t 246 (by decide +kernel) rfl
set_option maxRecDepth 20000 in
theorem uc_X5_startAnew : Cond.code yX5_startAnew cX5_startAnew 1 none ∈ UW := uw_t 247 rfl rfl
theorem umX4_27 : Cond.methodLink RX4 27 yX4_advance ∈ UW := uw_t 248 (by decide +kernel) rfl
theorem ui_X4_advance : Cond.instanceMethod yX4_advance ∈ UW := uw_t 250 (by decide +kernel) rfl
set_option maxRecDepth 20000 in
theorem uc_X4_advance : Cond.code yX4_advance cX4_advance 1 none ∈ UW := uw_t 251 rfl rfl
theorem umX4_99 : Cond.methodLink RX4 99 yX4_tokenBegunBy ∈ UW := uw_t 252 (by decide +kernel) rfl
theorem ut_X4_tokenBegunBy : Cond.static yX4_tokenBegunBy ∈ UW := uw_t 253 (by decide +kernel) rfl
set_option maxRecDepth 20000 in
theorem uc_X4_tokenBegunBy : Cond.code yX4_tokenBegunBy cX4_tokenBegunBy 1 (some .int) ∈ UW := uw_t 254 rfl rfl
theorem umX4_103 : Cond.methodLink RX4 103 yX4_weigh ∈ UW := uw_t 255 (by decide +kernel) rfl
theorem ui_X4_weigh : Cond.instanceMethod yX4_weigh ∈ UW := uw_t 257 (by decide +kernel) rfl
set_option maxRecDepth 20000 in
theorem uc_X4_weigh : Cond.code yX4_weigh cX4_weigh 3 none ∈ UW := uw_t 258 rfl rfl
theorem umX4_33 : Cond.methodLink RX4 33 yX4_readItem ∈ UW := uw_t 259 (by decide +kernel) rfl
theorem ui_X4_readItem : Cond.instanceMethod yX4_readItem ∈ UW := uw_t 261 (by decide +kernel) rfl
set_option maxRecDepth 20000 in
theorem uc_X4_readItem : Cond.code yX4_readItem cX4_readItem 2 (some .boolean) ∈ UW := uw_t 262 rfl rfl
theorem umX4_43 : Cond.methodLink RX4 43 yX4_readPerson ∈ UW := uw_t 263 (by decide +kernel) rfl
theorem ui_X4_readPerson : Cond.instanceMethod yX4_readPerson ∈ UW := uw_t 265 (by decide +kernel) rfl
set_option maxRecDepth 20000 in
theorem uc_X4_readPerson : Cond.code yX4_readPerson cX4_readPerson 3 (some .boolean) ∈ UW := uw_t 266 rfl rfl
theorem umX4_58 : Cond.methodLink RX4 58 yX4_readNumber ∈ UW := uw_t 267 (by decide +kernel) rfl
theorem ui_X4_readNumber : Cond.instanceMethod yX4_readNumber ∈ UW := uw_t 269 (by decide +kernel) rfl
set_option maxRecDepth 20000 in
theorem uc_X4_readNumber : Cond.code yX4_readNumber cX4_readNumber 3 (some .boolean) ∈ UW := uw_t 270 rfl rfl
theorem umX4_62 : Cond.methodLink RX4 62 yX5_addPerson ∈ UW := uw_t 272 (by decide +kernel) rfl
theorem ui_X5_addPerson : Cond.instanceMethod yX5_addPerson ∈ UW := uw_t 273 (by decide +kernel) rfl
theorem us_X5_addPerson : Cond.selects RX5 yX5_addPerson yX5_addPerson ∈ UW := uw_t 274 (by decide +kernel) rfl
set_option maxRecDepth 20000 in
theorem uc_X5_addPerson : Cond.code yX5_addPerson cX5_addPerson 3 none ∈ UW := uw_t 275 rfl rfl
theorem umX4_66 : Cond.methodLink RX4 66 yX4_readSemicolon ∈ UW := uw_t 276 (by decide +kernel) rfl
theorem ui_X4_readSemicolon : Cond.instanceMethod yX4_readSemicolon ∈ UW := uw_t 278 (by decide +kernel) rfl
set_option maxRecDepth 20000 in
theorem uc_X4_readSemicolon : Cond.code yX4_readSemicolon cX4_readSemicolon 1 (some .boolean) ∈ UW := uw_t 279 rfl rfl
theorem umX4_46 : Cond.methodLink RX4 46 yX4_readRows ∈ UW := uw_t 280 (by decide +kernel) rfl
theorem ui_X4_readRows : Cond.instanceMethod yX4_readRows ∈ UW := uw_t 282 (by decide +kernel) rfl
set_option maxRecDepth 20000 in
theorem uc_X4_readRows : Cond.code yX4_readRows cX4_readRows 3 (some .boolean) ∈ UW := uw_t 283 rfl rfl
theorem umX4_73 : Cond.methodLink RX4 73 Lib.Math.min.name ∈ UW := uw_t 284 (by decide +kernel) rfl
theorem ut_minM : Cond.static Lib.Math.min.name ∈ UW := uw_t 285 (by decide +kernel) rfl
set_option maxRecDepth 20000 in
theorem uc_minM : Cond.code Lib.Math.min.name Lib.Math.min.code 2 (some .int) ∈ UW := uw_t 286 rfl rfl
theorem umX4_79 : Cond.methodLink RX4 79 yX5_addRows ∈ UW := uw_t 287 (by decide +kernel) rfl
theorem ui_X5_addRows : Cond.instanceMethod yX5_addRows ∈ UW := uw_t 288 (by decide +kernel) rfl
theorem us_X5_addRows : Cond.selects RX5 yX5_addRows yX5_addRows ∈ UW := uw_t 289 (by decide +kernel) rfl
set_option maxRecDepth 20000 in
theorem uc_X5_addRows : Cond.code yX5_addRows cX5_addRows 4 none ∈ UW := uw_t 290 rfl rfl
theorem umX4_49 : Cond.methodLink RX4 49 yX4_readGap ∈ UW := uw_t 291 (by decide +kernel) rfl
theorem ui_X4_readGap : Cond.instanceMethod yX4_readGap ∈ UW := uw_t 293 (by decide +kernel) rfl
set_option maxRecDepth 20000 in
theorem uc_X4_readGap : Cond.code yX4_readGap cX4_readGap 2 (some .boolean) ∈ UW := uw_t 294 rfl rfl
theorem umX4_52 : Cond.methodLink RX4 52 yX4_readSlack ∈ UW := uw_t 295 (by decide +kernel) rfl
theorem ui_X4_readSlack : Cond.instanceMethod yX4_readSlack ∈ UW := uw_t 297 (by decide +kernel) rfl
set_option maxRecDepth 20000 in
theorem uc_X4_readSlack : Cond.code yX4_readSlack cX4_readSlack 2 (some .boolean) ∈ UW := uw_t 298 rfl rfl
theorem umX6_75 : Cond.methodLink RX6 75 yX1_startFrom ∈ UW := uw_t 299 (by decide +kernel) rfl
theorem ui_X1_startFrom : Cond.instanceMethod yX1_startFrom ∈ UW := uw_t 300 (by decide +kernel) rfl
theorem us_X1_startFrom : Cond.selects RX1 yX1_startFrom yX1_startFrom ∈ UW := uw_t 301 (by decide +kernel) rfl
set_option maxRecDepth 20000 in
theorem uc_X1_startFrom : Cond.code yX1_startFrom cX1_startFrom 2 none ∈ UW := uw_t 302 rfl rfl
theorem umX1_22 : Cond.methodLink RX1 22 yX1_latest ∈ UW := uw_t 303 (by decide +kernel) rfl
theorem ui_X1_latest : Cond.instanceMethod yX1_latest ∈ UW := uw_t 304 (by decide +kernel) rfl
theorem us_X1_latest : Cond.selects RX1 yX1_latest yX1_latest ∈ UW := uw_t 305 (by decide +kernel) rfl
set_option maxRecDepth 20000 in
theorem uc_X1_latest : Cond.code yX1_latest cX1_latest 1 (some (.object "WoolBridge$Span")) ∈ UW := uw_t 306 rfl rfl
theorem umX1_26 : Cond.methodLink RX1 26 yX3_startFrom ∈ UW := uw_t 307 (by decide +kernel) rfl
theorem ui_X3_startFrom : Cond.instanceMethod yX3_startFrom ∈ UW := uw_t 308 (by decide +kernel) rfl
theorem us_X3_startFrom : Cond.selects RX3 yX3_startFrom yX3_startFrom ∈ UW := uw_t 309 (by decide +kernel) rfl
set_option maxRecDepth 20000 in
theorem uc_X3_startFrom : Cond.code yX3_startFrom cX3_startFrom 4 none ∈ UW := uw_t 310 rfl rfl
theorem umX3_37 : Cond.methodLink RX3 37 yX3_knit ∈ UW := uw_t 311 (by decide +kernel) rfl
theorem ui_X3_knit : Cond.instanceMethod yX3_knit ∈ UW := uw_t 312 (by decide +kernel) rfl
theorem us_X3_knit : Cond.selects RX3 yX3_knit yX3_knit ∈ UW := uw_t 313 (by decide +kernel) rfl
set_option maxRecDepth 20000 in
theorem uc_X3_knit : Cond.code yX3_knit cX3_knit 5 none ∈ UW := uw_t 314 rfl rfl
theorem umX3_78 : Cond.methodLink RX3 78 yX3_removeFrom ∈ UW := uw_t 315 (by decide +kernel) rfl
theorem ui_X3_removeFrom : Cond.instanceMethod yX3_removeFrom ∈ UW := uw_t 316 (by decide +kernel) rfl
theorem us_X3_removeFrom : Cond.selects RX3 yX3_removeFrom yX3_removeFrom ∈ UW := uw_t 317 (by decide +kernel) rfl
set_option maxRecDepth 20000 in
theorem uc_X3_removeFrom : Cond.code yX3_removeFrom cX3_removeFrom 4 none ∈ UW := uw_t 318 rfl rfl
theorem umX3_41 : Cond.methodLink RX3 41 arraycopyName ∈ UW := uw_t 319 (by decide +kernel) rfl
theorem ut_acopy : Cond.static arraycopyName ∈ UW := uw_t 320 (by decide +kernel) rfl
theorem uv_acopy : Cond.native arraycopyName ∈ UW := uw_t 321 (by decide +kernel) rfl
theorem umX6_79 : Cond.methodLink RX6 79 yX2_empty ∈ UW := uw_t 322 (by decide +kernel) rfl
theorem ui_X2_empty : Cond.instanceMethod yX2_empty ∈ UW := uw_t 323 (by decide +kernel) rfl
theorem us_X2_empty : Cond.selects RX2 yX2_empty yX2_empty ∈ UW := uw_t 324 (by decide +kernel) rfl
set_option maxRecDepth 20000 in
theorem uc_X2_empty : Cond.code yX2_empty cX2_empty 2 (some .int) ∈ UW := uw_t 325 rfl rfl
theorem umL_27 : Cond.methodLink RL 27 yX6_person ∈ UW := uw_t 326 (by decide +kernel) rfl
theorem ui_X6_person : Cond.instanceMethod yX6_person ∈ UW := uw_t 327 (by decide +kernel) rfl
theorem us_X6_person : Cond.selects RX6 yX6_person yX6_person ∈ UW := uw_t 328 (by decide +kernel) rfl
set_option maxRecDepth 20000 in
theorem uc_X6_person : Cond.code yX6_person cX6_person 3 (some .int) ∈ UW := uw_t 329 rfl rfl
theorem umX6_80 : Cond.methodLink RX6 80 yX5_has ∈ UW := uw_t 330 (by decide +kernel) rfl
theorem ui_X5_has : Cond.instanceMethod yX5_has ∈ UW := uw_t 331 (by decide +kernel) rfl
theorem us_X5_has : Cond.selects RX5 yX5_has yX5_has ∈ UW := uw_t 332 (by decide +kernel) rfl
set_option maxRecDepth 20000 in
theorem uc_X5_has : Cond.code yX5_has cX5_has 2 (some .boolean) ∈ UW := uw_t 333 rfl rfl
theorem umX6_90 : Cond.methodLink RX6 90 yX6_span ∈ UW := uw_t 335 (by decide +kernel) rfl
theorem ui_X6_span : Cond.instanceMethod yX6_span ∈ UW := uw_t 337 (by decide +kernel) rfl
set_option maxRecDepth 20000 in
theorem uc_X6_span : Cond.code yX6_span cX6_span 1 (some (.object "WoolBridge$Span")) ∈ UW := uw_t 338 rfl rfl
theorem umX6_254 : Cond.methodLink RX6 254 yX1_latest ∈ UW := uw_t 339 (by decide +kernel) rfl
theorem umX6_94 : Cond.methodLink RX6 94 yX3_share ∈ UW := uw_t 340 (by decide +kernel) rfl
theorem ui_X3_share : Cond.instanceMethod yX3_share ∈ UW := uw_t 341 (by decide +kernel) rfl
theorem us_X3_share : Cond.selects RX3 yX3_share yX3_share ∈ UW := uw_t 342 (by decide +kernel) rfl
set_option maxRecDepth 20000 in
theorem uc_X3_share : Cond.code yX3_share cX3_share 4 (some .int) ∈ UW := uw_t 343 rfl rfl
theorem umL_32 : Cond.methodLink RL 32 yX6_row ∈ UW := uw_t 344 (by decide +kernel) rfl
theorem ui_X6_row : Cond.instanceMethod yX6_row ∈ UW := uw_t 345 (by decide +kernel) rfl
theorem us_X6_row : Cond.selects RX6 yX6_row yX6_row ∈ UW := uw_t 346 (by decide +kernel) rfl
set_option maxRecDepth 20000 in
theorem uc_X6_row : Cond.code yX6_row cX6_row 4 (some .int) ∈ UW := uw_t 347 rfl rfl
theorem umX6_100 : Cond.methodLink RX6 100 yX3_has ∈ UW := uw_t 348 (by decide +kernel) rfl
theorem ui_X3_has : Cond.instanceMethod yX3_has ∈ UW := uw_t 349 (by decide +kernel) rfl
theorem us_X3_has : Cond.selects RX3 yX3_has yX3_has ∈ UW := uw_t 350 (by decide +kernel) rfl
set_option maxRecDepth 20000 in
theorem uc_X3_has : Cond.code yX3_has cX3_has 2 (some .boolean) ∈ UW := uw_t 351 rfl rfl
theorem umX6_108 : Cond.methodLink RX6 108 yX3_bears ∈ UW := uw_t 353 (by decide +kernel) rfl
theorem ui_X3_bears : Cond.instanceMethod yX3_bears ∈ UW := uw_t 354 (by decide +kernel) rfl
theorem us_X3_bears : Cond.selects RX3 yX3_bears yX3_bears ∈ UW := uw_t 355 (by decide +kernel) rfl
set_option maxRecDepth 20000 in
theorem uc_X3_bears : Cond.code yX3_bears cX3_bears 2 (some .int) ∈ UW := uw_t 356 rfl rfl
theorem umX3_51 : Cond.methodLink RX3 51 yX3_bearsAs ∈ UW := uw_t 357 (by decide +kernel) rfl
theorem ui_X3_bearsAs : Cond.instanceMethod yX3_bearsAs ∈ UW := uw_t 358 (by decide +kernel) rfl
theorem us_X3_bearsAs : Cond.selects RX3 yX3_bearsAs yX3_bearsAs ∈ UW := uw_t 359 (by decide +kernel) rfl
set_option maxRecDepth 20000 in
theorem uc_X3_bearsAs : Cond.code yX3_bearsAs cX3_bearsAs 4 (some .int) ∈ UW := uw_t 360 rfl rfl
theorem umX3_55 : Cond.methodLink RX3 55 Lib.Math.min.name ∈ UW := uw_t 361 (by decide +kernel) rfl
theorem umX3_61 : Cond.methodLink RX3 61 Lib.Math.max.name ∈ UW := uw_t 362 (by decide +kernel) rfl
theorem ut_maxM : Cond.static Lib.Math.max.name ∈ UW := uw_t 363 (by decide +kernel) rfl
set_option maxRecDepth 20000 in
theorem uc_maxM : Cond.code Lib.Math.max.name Lib.Math.max.code 2 (some .int) ∈ UW := uw_t 364 rfl rfl
theorem umL_36 : Cond.methodLink RL 36 yX6_crosses ∈ UW := uw_t 365 (by decide +kernel) rfl
theorem ui_X6_crosses : Cond.instanceMethod yX6_crosses ∈ UW := uw_t 366 (by decide +kernel) rfl
theorem us_X6_crosses : Cond.selects RX6 yX6_crosses yX6_crosses ∈ UW := uw_t 367 (by decide +kernel) rfl
set_option maxRecDepth 20000 in
theorem uc_X6_crosses : Cond.code yX6_crosses cX6_crosses 3 (some .int) ∈ UW := uw_t 368 rfl rfl
theorem umX6_111 : Cond.methodLink RX6 111 yX6_holdsNow ∈ UW := uw_t 369 (by decide +kernel) rfl
theorem ui_X6_holdsNow : Cond.instanceMethod yX6_holdsNow ∈ UW := uw_t 371 (by decide +kernel) rfl
set_option maxRecDepth 20000 in
theorem uc_X6_holdsNow : Cond.code yX6_holdsNow cX6_holdsNow 3 (some .boolean) ∈ UW := uw_t 372 rfl rfl
theorem umX6_135 : Cond.methodLink RX6 135 yX3_length ∈ UW := uw_t 373 (by decide +kernel) rfl
theorem ui_X3_length : Cond.instanceMethod yX3_length ∈ UW := uw_t 374 (by decide +kernel) rfl
theorem us_X3_length : Cond.selects RX3 yX3_length yX3_length ∈ UW := uw_t 375 (by decide +kernel) rfl
set_option maxRecDepth 20000 in
theorem uc_X3_length : Cond.code yX3_length cX3_length 1 (some .int) ∈ UW := uw_t 376 rfl rfl
theorem umX3_64 : Cond.methodLink RX3 64 yX3_lengthOf ∈ UW := uw_t 377 (by decide +kernel) rfl
theorem ui_X3_lengthOf : Cond.instanceMethod yX3_lengthOf ∈ UW := uw_t 378 (by decide +kernel) rfl
theorem us_X3_lengthOf : Cond.selects RX3 yX3_lengthOf yX3_lengthOf ∈ UW := uw_t 379 (by decide +kernel) rfl
set_option maxRecDepth 20000 in
theorem uc_X3_lengthOf : Cond.code yX3_lengthOf cX3_lengthOf 2 (some .int) ∈ UW := uw_t 380 rfl rfl
theorem ut_X6_lengthWith : Cond.static yX6_lengthWith ∈ UW := uw_t 382 (by decide +kernel) rfl
set_option maxRecDepth 20000 in
theorem uc_X6_lengthWith : Cond.code yX6_lengthWith cX6_lengthWith 2 (some .int) ∈ UW := uw_t 383 rfl rfl
theorem umX6_181 : Cond.methodLink RX6 181 yX3_leastAfter ∈ UW := uw_t 384 (by decide +kernel) rfl
theorem ui_X3_leastAfter : Cond.instanceMethod yX3_leastAfter ∈ UW := uw_t 385 (by decide +kernel) rfl
theorem us_X3_leastAfter : Cond.selects RX3 yX3_leastAfter yX3_leastAfter ∈ UW := uw_t 386 (by decide +kernel) rfl
set_option maxRecDepth 20000 in
theorem uc_X3_leastAfter : Cond.code yX3_leastAfter cX3_leastAfter 4 (some .int) ∈ UW := uw_t 387 rfl rfl
theorem umX6_184 : Cond.methodLink RX6 184 yX5_holds ∈ UW := uw_t 388 (by decide +kernel) rfl
theorem ui_X5_holds : Cond.instanceMethod yX5_holds ∈ UW := uw_t 389 (by decide +kernel) rfl
theorem us_X5_holds : Cond.selects RX5 yX5_holds yX5_holds ∈ UW := uw_t 390 (by decide +kernel) rfl
set_option maxRecDepth 20000 in
theorem uc_X5_holds : Cond.code yX5_holds cX5_holds 4 (some .boolean) ∈ UW := uw_t 391 rfl rfl
theorem umX6_114 : Cond.methodLink RX6 114 yX1_step ∈ UW := uw_t 392 (by decide +kernel) rfl
theorem ui_X1_step : Cond.instanceMethod yX1_step ∈ UW := uw_t 393 (by decide +kernel) rfl
theorem us_X1_step : Cond.selects RX1 yX1_step yX1_step ∈ UW := uw_t 394 (by decide +kernel) rfl
set_option maxRecDepth 20000 in
theorem uc_X1_step : Cond.code yX1_step cX1_step 2 (some (.object "WoolBridge$Span")) ∈ UW := uw_t 395 rfl rfl
theorem umX1_33 : Cond.methodLink RX1 33 Lib.Math.min.name ∈ UW := uw_t 396 (by decide +kernel) rfl
theorem umX1_39 : Cond.methodLink RX1 39 yX3_take ∈ UW := uw_t 397 (by decide +kernel) rfl
theorem ui_X3_take : Cond.instanceMethod yX3_take ∈ UW := uw_t 398 (by decide +kernel) rfl
theorem us_X3_take : Cond.selects RX3 yX3_take yX3_take ∈ UW := uw_t 399 (by decide +kernel) rfl
set_option maxRecDepth 20000 in
theorem uc_X3_take : Cond.code yX3_take cX3_take 2 none ∈ UW := uw_t 400 rfl rfl
theorem umX6_117 : Cond.methodLink RX6 117 yX3_knit ∈ UW := uw_t 401 (by decide +kernel) rfl
theorem umL_40 : Cond.methodLink RL 40 yX6_turnsBack ∈ UW := uw_t 402 (by decide +kernel) rfl
theorem ui_X6_turnsBack : Cond.instanceMethod yX6_turnsBack ∈ UW := uw_t 403 (by decide +kernel) rfl
theorem us_X6_turnsBack : Cond.selects RX6 yX6_turnsBack yX6_turnsBack ∈ UW := uw_t 404 (by decide +kernel) rfl
set_option maxRecDepth 20000 in
theorem uc_X6_turnsBack : Cond.code yX6_turnsBack cX6_turnsBack 1 (some .int) ∈ UW := uw_t 405 rfl rfl
theorem umX6_124 : Cond.methodLink RX6 124 yX3_unravel ∈ UW := uw_t 406 (by decide +kernel) rfl
theorem ui_X3_unravel : Cond.instanceMethod yX3_unravel ∈ UW := uw_t 407 (by decide +kernel) rfl
theorem us_X3_unravel : Cond.selects RX3 yX3_unravel yX3_unravel ∈ UW := uw_t 408 (by decide +kernel) rfl
set_option maxRecDepth 20000 in
theorem uc_X3_unravel : Cond.code yX3_unravel cX3_unravel 2 (some .int) ∈ UW := uw_t 409 rfl rfl
theorem umL_44 : Cond.methodLink RL 44 yX6_drops ∈ UW := uw_t 410 (by decide +kernel) rfl
theorem ui_X6_drops : Cond.instanceMethod yX6_drops ∈ UW := uw_t 411 (by decide +kernel) rfl
theorem us_X6_drops : Cond.selects RX6 yX6_drops yX6_drops ∈ UW := uw_t 412 (by decide +kernel) rfl
set_option maxRecDepth 20000 in
theorem uc_X6_drops : Cond.code yX6_drops cX6_drops 3 (some .int) ∈ UW := uw_t 413 rfl rfl
theorem umX6_127 : Cond.methodLink RX6 127 yX3_removeFrom ∈ UW := uw_t 414 (by decide +kernel) rfl
theorem umL_48 : Cond.methodLink RL 48 yX6_draws ∈ UW := uw_t 415 (by decide +kernel) rfl
theorem ui_X6_draws : Cond.instanceMethod yX6_draws ∈ UW := uw_t 416 (by decide +kernel) rfl
theorem us_X6_draws : Cond.selects RX6 yX6_draws yX6_draws ∈ UW := uw_t 417 (by decide +kernel) rfl
set_option maxRecDepth 20000 in
theorem uc_X6_draws : Cond.code yX6_draws cX6_draws 3 (some .int) ∈ UW := uw_t 418 rfl rfl
theorem umL_52 : Cond.methodLink RL 52 yX6_rains ∈ UW := uw_t 419 (by decide +kernel) rfl
theorem ui_X6_rains : Cond.instanceMethod yX6_rains ∈ UW := uw_t 420 (by decide +kernel) rfl
theorem us_X6_rains : Cond.selects RX6 yX6_rains yX6_rains ∈ UW := uw_t 421 (by decide +kernel) rfl
set_option maxRecDepth 20000 in
theorem uc_X6_rains : Cond.code yX6_rains cX6_rains 4 (some .int) ∈ UW := uw_t 422 rfl rfl
theorem umL_56 : Cond.methodLink RL 56 yX6_year ∈ UW := uw_t 423 (by decide +kernel) rfl
theorem ui_X6_year : Cond.instanceMethod yX6_year ∈ UW := uw_t 424 (by decide +kernel) rfl
theorem us_X6_year : Cond.selects RX6 yX6_year yX6_year ∈ UW := uw_t 425 (by decide +kernel) rfl
set_option maxRecDepth 20000 in
theorem uc_X6_year : Cond.code yX6_year cX6_year 2 (some .int) ∈ UW := uw_t 426 rfl rfl
theorem umX6_141 : Cond.methodLink RX6 141 yX3_age ∈ UW := uw_t 427 (by decide +kernel) rfl
theorem ui_X3_age : Cond.instanceMethod yX3_age ∈ UW := uw_t 428 (by decide +kernel) rfl
theorem us_X3_age : Cond.selects RX3 yX3_age yX3_age ∈ UW := uw_t 429 (by decide +kernel) rfl
set_option maxRecDepth 20000 in
theorem uc_X3_age : Cond.code yX3_age cX3_age 2 none ∈ UW := uw_t 430 rfl rfl
theorem umX6_144 : Cond.methodLink RX6 144 yX3_strength ∈ UW := uw_t 431 (by decide +kernel) rfl
theorem ui_X3_strength : Cond.instanceMethod yX3_strength ∈ UW := uw_t 432 (by decide +kernel) rfl
theorem us_X3_strength : Cond.selects RX3 yX3_strength yX3_strength ∈ UW := uw_t 433 (by decide +kernel) rfl
set_option maxRecDepth 20000 in
theorem uc_X3_strength : Cond.code yX3_strength cX3_strength 1 (some .int) ∈ UW := uw_t 434 rfl rfl
theorem umX3_72 : Cond.methodLink RX3 72 yX3_leastAfter ∈ UW := uw_t 435 (by decide +kernel) rfl
theorem umL_60 : Cond.methodLink RL 60 yX6_undo ∈ UW := uw_t 436 (by decide +kernel) rfl
theorem ui_X6_undo : Cond.instanceMethod yX6_undo ∈ UW := uw_t 437 (by decide +kernel) rfl
theorem us_X6_undo : Cond.selects RX6 yX6_undo yX6_undo ∈ UW := uw_t 438 (by decide +kernel) rfl
set_option maxRecDepth 20000 in
theorem uc_X6_undo : Cond.code yX6_undo cX6_undo 1 (some .int) ∈ UW := uw_t 439 rfl rfl
theorem umX6_150 : Cond.methodLink RX6 150 yX1_stepBack ∈ UW := uw_t 440 (by decide +kernel) rfl
theorem ui_X1_stepBack : Cond.instanceMethod yX1_stepBack ∈ UW := uw_t 441 (by decide +kernel) rfl
theorem us_X1_stepBack : Cond.selects RX1 yX1_stepBack yX1_stepBack ∈ UW := uw_t 442 (by decide +kernel) rfl
set_option maxRecDepth 20000 in
theorem uc_X1_stepBack : Cond.code yX1_stepBack cX1_stepBack 1 none ∈ UW := uw_t 443 rfl rfl
theorem umL_64 : Cond.methodLink RL 64 yX6_now ∈ UW := uw_t 444 (by decide +kernel) rfl
theorem ui_X6_now : Cond.instanceMethod yX6_now ∈ UW := uw_t 445 (by decide +kernel) rfl
theorem us_X6_now : Cond.selects RX6 yX6_now yX6_now ∈ UW := uw_t 446 (by decide +kernel) rfl
set_option maxRecDepth 20000 in
theorem uc_X6_now : Cond.code yX6_now cX6_now 3 (some .int) ∈ UW := uw_t 447 rfl rfl
theorem umX6_153 : Cond.methodLink RX6 153 yX6_mayCross ∈ UW := uw_t 448 (by decide +kernel) rfl
theorem ui_X6_mayCross : Cond.instanceMethod yX6_mayCross ∈ UW := uw_t 450 (by decide +kernel) rfl
set_option maxRecDepth 20000 in
theorem uc_X6_mayCross : Cond.code yX6_mayCross cX6_mayCross 3 (some .int) ∈ UW := uw_t 451 rfl rfl
theorem umX6_156 : Cond.methodLink RX6 156 yX3_thinnest ∈ UW := uw_t 452 (by decide +kernel) rfl
theorem ui_X3_thinnest : Cond.instanceMethod yX3_thinnest ∈ UW := uw_t 453 (by decide +kernel) rfl
theorem us_X3_thinnest : Cond.selects RX3 yX3_thinnest yX3_thinnest ∈ UW := uw_t 454 (by decide +kernel) rfl
set_option maxRecDepth 20000 in
theorem uc_X3_thinnest : Cond.code yX3_thinnest cX3_thinnest 4 (some .int) ∈ UW := uw_t 455 rfl rfl
theorem umX3_75 : Cond.methodLink RX3 75 yX3_bears ∈ UW := uw_t 456 (by decide +kernel) rfl
theorem umX6_159 : Cond.methodLink RX6 159 yX3_holes ∈ UW := uw_t 457 (by decide +kernel) rfl
theorem ui_X3_holes : Cond.instanceMethod yX3_holes ∈ UW := uw_t 458 (by decide +kernel) rfl
theorem us_X3_holes : Cond.selects RX3 yX3_holes yX3_holes ∈ UW := uw_t 459 (by decide +kernel) rfl
set_option maxRecDepth 20000 in
theorem uc_X3_holes : Cond.code yX3_holes cX3_holes 3 (some .int) ∈ UW := uw_t 460 rfl rfl
theorem umX6_162 : Cond.methodLink RX6 162 yX3_middle ∈ UW := uw_t 461 (by decide +kernel) rfl
theorem ui_X3_middle : Cond.instanceMethod yX3_middle ∈ UW := uw_t 462 (by decide +kernel) rfl
theorem us_X3_middle : Cond.selects RX3 yX3_middle yX3_middle ∈ UW := uw_t 463 (by decide +kernel) rfl
set_option maxRecDepth 20000 in
theorem uc_X3_middle : Cond.code yX3_middle cX3_middle 1 (some .int) ∈ UW := uw_t 464 rfl rfl
theorem umL_68 : Cond.methodLink RL 68 yX6_order ∈ UW := uw_t 465 (by decide +kernel) rfl
theorem ui_X6_order : Cond.instanceMethod yX6_order ∈ UW := uw_t 466 (by decide +kernel) rfl
theorem us_X6_order : Cond.selects RX6 yX6_order yX6_order ∈ UW := uw_t 467 (by decide +kernel) rfl
set_option maxRecDepth 20000 in
theorem uc_X6_order : Cond.code yX6_order cX6_order 3 (some .int) ∈ UW := uw_t 468 rfl rfl
theorem umX6_165 : Cond.methodLink RX6 165 yX0_startFrom ∈ UW := uw_t 469 (by decide +kernel) rfl
theorem ui_X0_startFrom : Cond.instanceMethod yX0_startFrom ∈ UW := uw_t 470 (by decide +kernel) rfl
theorem us_X0_startFrom : Cond.selects RX0 yX0_startFrom yX0_startFrom ∈ UW := uw_t 471 (by decide +kernel) rfl
set_option maxRecDepth 20000 in
theorem uc_X0_startFrom : Cond.code yX0_startFrom cX0_startFrom 3 none ∈ UW := uw_t 472 rfl rfl
theorem umX0_24 : Cond.methodLink RX0 24 yX3_bears ∈ UW := uw_t 473 (by decide +kernel) rfl
theorem umX6_168 : Cond.methodLink RX6 168 yX0_findOrder ∈ UW := uw_t 474 (by decide +kernel) rfl
theorem ui_X0_findOrder : Cond.instanceMethod yX0_findOrder ∈ UW := uw_t 475 (by decide +kernel) rfl
theorem us_X0_findOrder : Cond.selects RX0 yX0_findOrder yX0_findOrder ∈ UW := uw_t 476 (by decide +kernel) rfl
set_option maxRecDepth 20000 in
theorem uc_X0_findOrder : Cond.code yX0_findOrder cX0_findOrder 3 (some .boolean) ∈ UW := uw_t 477 rfl rfl
theorem umX0_52 : Cond.methodLink RX0 52 yX0_findRest ∈ UW := uw_t 478 (by decide +kernel) rfl
theorem ut_X0_findRest : Cond.static yX0_findRest ∈ UW := uw_t 479 (by decide +kernel) rfl
set_option maxRecDepth 20000 in
theorem uc_X0_findRest : Cond.code yX0_findRest cX0_findRest 11 (some .boolean) ∈ UW := uw_t 480 rfl rfl
theorem umX0_35 : Cond.methodLink RX0 35 yX0_length ∈ UW := uw_t 481 (by decide +kernel) rfl
theorem ui_X0_length : Cond.instanceMethod yX0_length ∈ UW := uw_t 483 (by decide +kernel) rfl
set_option maxRecDepth 20000 in
theorem uc_X0_length : Cond.code yX0_length cX0_length 1 (some .int) ∈ UW := uw_t 484 rfl rfl
theorem umX0_71 : Cond.methodLink RX0 71 yX0_first ∈ UW := uw_t 485 (by decide +kernel) rfl
theorem ui_X0_first : Cond.instanceMethod yX0_first ∈ UW := uw_t 487 (by decide +kernel) rfl
set_option maxRecDepth 20000 in
theorem uc_X0_first : Cond.code yX0_first cX0_first 1 (some .int) ∈ UW := uw_t 488 rfl rfl
theorem umX0_65 : Cond.methodLink RX0 65 Lib.Math.max.name ∈ UW := uw_t 489 (by decide +kernel) rfl
theorem umX0_39 : Cond.methodLink RX0 39 yX0_least ∈ UW := uw_t 491 (by decide +kernel) rfl
theorem ui_X0_least : Cond.instanceMethod yX0_least ∈ UW := uw_t 493 (by decide +kernel) rfl
set_option maxRecDepth 20000 in
theorem uc_X0_least : Cond.code yX0_least cX0_least 3 (some .int) ∈ UW := uw_t 494 rfl rfl
theorem umX0_78 : Cond.methodLink RX0 78 Lib.Math.min.name ∈ UW := uw_t 495 (by decide +kernel) rfl
theorem umX0_42 : Cond.methodLink RX0 42 yX5_holds ∈ UW := uw_t 496 (by decide +kernel) rfl
theorem umX0_48 : Cond.methodLink RX0 48 yX0_knit ∈ UW := uw_t 497 (by decide +kernel) rfl
theorem ui_X0_knit : Cond.instanceMethod yX0_knit ∈ UW := uw_t 499 (by decide +kernel) rfl
set_option maxRecDepth 20000 in
theorem uc_X0_knit : Cond.code yX0_knit cX0_knit 4 none ∈ UW := uw_t 500 rfl rfl
theorem umL_72 : Cond.methodLink RL 72 yX6_lastOne ∈ UW := uw_t 501 (by decide +kernel) rfl
theorem ui_X6_lastOne : Cond.instanceMethod yX6_lastOne ∈ UW := uw_t 502 (by decide +kernel) rfl
theorem us_X6_lastOne : Cond.selects RX6 yX6_lastOne yX6_lastOne ∈ UW := uw_t 503 (by decide +kernel) rfl
set_option maxRecDepth 20000 in
theorem uc_X6_lastOne : Cond.code yX6_lastOne cX6_lastOne 2 (some .int) ∈ UW := uw_t 504 rfl rfl
theorem umX6_178 : Cond.methodLink RX6 178 yX0_crossed ∈ UW := uw_t 505 (by decide +kernel) rfl
theorem ui_X0_crossed : Cond.instanceMethod yX0_crossed ∈ UW := uw_t 506 (by decide +kernel) rfl
theorem us_X0_crossed : Cond.selects RX0 yX0_crossed yX0_crossed ∈ UW := uw_t 507 (by decide +kernel) rfl
set_option maxRecDepth 20000 in
theorem uc_X0_crossed : Cond.code yX0_crossed cX0_crossed 3 (some .boolean) ∈ UW := uw_t 508 rfl rfl
theorem umL_76 : Cond.methodLink RL 76 yX6_crossings ∈ UW := uw_t 509 (by decide +kernel) rfl
theorem ui_X6_crossings : Cond.instanceMethod yX6_crossings ∈ UW := uw_t 510 (by decide +kernel) rfl
theorem us_X6_crossings : Cond.selects RX6 yX6_crossings yX6_crossings ∈ UW := uw_t 511 (by decide +kernel) rfl
set_option maxRecDepth 20000 in
theorem uc_X6_crossings : Cond.code yX6_crossings cX6_crossings 3 (some .int) ∈ UW := uw_t 512 rfl rfl
theorem umL_80 : Cond.methodLink RL 80 yX6_over ∈ UW := uw_t 513 (by decide +kernel) rfl
theorem ui_X6_over : Cond.instanceMethod yX6_over ∈ UW := uw_t 514 (by decide +kernel) rfl
theorem us_X6_over : Cond.selects RX6 yX6_over yX6_over ∈ UW := uw_t 515 (by decide +kernel) rfl
set_option maxRecDepth 20000 in
theorem uc_X6_over : Cond.code yX6_over cX6_over 4 (some .int) ∈ UW := uw_t 516 rfl rfl
theorem umL_84 : Cond.methodLink RL 84 yX6_mend ∈ UW := uw_t 517 (by decide +kernel) rfl
theorem ui_X6_mend : Cond.instanceMethod yX6_mend ∈ UW := uw_t 518 (by decide +kernel) rfl
theorem us_X6_mend : Cond.selects RX6 yX6_mend yX6_mend ∈ UW := uw_t 519 (by decide +kernel) rfl
set_option maxRecDepth 20000 in
theorem uc_X6_mend : Cond.code yX6_mend cX6_mend 6 (some .int) ∈ UW := uw_t 520 rfl rfl
theorem umX6_187 : Cond.methodLink RX6 187 yX6_rowsToGap ∈ UW := uw_t 521 (by decide +kernel) rfl
theorem ui_X6_rowsToGap : Cond.instanceMethod yX6_rowsToGap ∈ UW := uw_t 523 (by decide +kernel) rfl
set_option maxRecDepth 20000 in
theorem uc_X6_rowsToGap : Cond.code yX6_rowsToGap cX6_rowsToGap 3 (some .int) ∈ UW := uw_t 524 rfl rfl
theorem umX6_191 : Cond.methodLink RX6 191 yX3_lengthOf ∈ UW := uw_t 525 (by decide +kernel) rfl
theorem umX6_200 : Cond.methodLink RX6 200 yX3_woolFor ∈ UW := uw_t 526 (by decide +kernel) rfl
theorem ui_X3_woolFor : Cond.instanceMethod yX3_woolFor ∈ UW := uw_t 527 (by decide +kernel) rfl
theorem us_X3_woolFor : Cond.selects RX3 yX3_woolFor yX3_woolFor ∈ UW := uw_t 528 (by decide +kernel) rfl
set_option maxRecDepth 20000 in
theorem uc_X3_woolFor : Cond.code yX3_woolFor cX3_woolFor 4 (some .int) ∈ UW := uw_t 529 rfl rfl
theorem umL_88 : Cond.methodLink RL 88 yX6_odds ∈ UW := uw_t 530 (by decide +kernel) rfl
theorem ui_X6_odds : Cond.instanceMethod yX6_odds ∈ UW := uw_t 531 (by decide +kernel) rfl
theorem us_X6_odds : Cond.selects RX6 yX6_odds yX6_odds ∈ UW := uw_t 532 (by decide +kernel) rfl
set_option maxRecDepth 20000 in
theorem uc_X6_odds : Cond.code yX6_odds cX6_odds 8 (some .int) ∈ UW := uw_t 533 rfl rfl
theorem umX6_203 : Cond.methodLink RX6 203 yX6_chancesAfter ∈ UW := uw_t 534 (by decide +kernel) rfl
theorem ui_X6_chancesAfter : Cond.instanceMethod yX6_chancesAfter ∈ UW := uw_t 536 (by decide +kernel) rfl
set_option maxRecDepth 20000 in
theorem uc_X6_chancesAfter : Cond.code yX6_chancesAfter cX6_chancesAfter 7 (some .int) ∈ UW := uw_t 537 rfl rfl
theorem umX6_257 : Cond.methodLink RX6 257 yX6_lengthWith ∈ UW := uw_t 538 (by decide +kernel) rfl
theorem umX6_207 : Cond.methodLink RX6 207 yX6_commonDivisor ∈ UW := uw_t 539 (by decide +kernel) rfl
theorem ut_X6_commonDivisor : Cond.static yX6_commonDivisor ∈ UW := uw_t 540 (by decide +kernel) rfl
set_option maxRecDepth 20000 in
theorem uc_X6_commonDivisor : Cond.code yX6_commonDivisor cX6_commonDivisor 6 (some .int) ∈ UW := uw_t 541 rfl rfl
theorem umX6_211 : Cond.methodLink RX6 211 Lib.Math.max.name ∈ UW := uw_t 542 (by decide +kernel) rfl
theorem umL_93 : Cond.methodLink RL 93 yX6_plumbs ∈ UW := uw_t 543 (by decide +kernel) rfl
theorem ui_X6_plumbs : Cond.instanceMethod yX6_plumbs ∈ UW := uw_t 544 (by decide +kernel) rfl
theorem us_X6_plumbs : Cond.selects RX6 yX6_plumbs yX6_plumbs ∈ UW := uw_t 545 (by decide +kernel) rfl
set_option maxRecDepth 20000 in
theorem uc_X6_plumbs : Cond.code yX6_plumbs cX6_plumbs 3 (some .int) ∈ UW := uw_t 546 rfl rfl
theorem umX6_216 : Cond.methodLink RX6 216 yX2_add ∈ UW := uw_t 547 (by decide +kernel) rfl
theorem ui_X2_add : Cond.instanceMethod yX2_add ∈ UW := uw_t 548 (by decide +kernel) rfl
theorem us_X2_add : Cond.selects RX2 yX2_add yX2_add ∈ UW := uw_t 549 (by decide +kernel) rfl
set_option maxRecDepth 20000 in
theorem uc_X2_add : Cond.code yX2_add cX2_add 3 (some .boolean) ∈ UW := uw_t 550 rfl rfl
theorem umL_97 : Cond.methodLink RL 97 yX6_forget ∈ UW := uw_t 551 (by decide +kernel) rfl
theorem ui_X6_forget : Cond.instanceMethod yX6_forget ∈ UW := uw_t 552 (by decide +kernel) rfl
theorem us_X6_forget : Cond.selects RX6 yX6_forget yX6_forget ∈ UW := uw_t 553 (by decide +kernel) rfl
set_option maxRecDepth 20000 in
theorem uc_X6_forget : Cond.code yX6_forget cX6_forget 1 (some .int) ∈ UW := uw_t 554 rfl rfl
theorem umL_101 : Cond.methodLink RL 101 yX6_drew ∈ UW := uw_t 555 (by decide +kernel) rfl
theorem ui_X6_drew : Cond.instanceMethod yX6_drew ∈ UW := uw_t 556 (by decide +kernel) rfl
theorem us_X6_drew : Cond.selects RX6 yX6_drew yX6_drew ∈ UW := uw_t 557 (by decide +kernel) rfl
set_option maxRecDepth 20000 in
theorem uc_X6_drew : Cond.code yX6_drew cX6_drew 7 (some .int) ∈ UW := uw_t 558 rfl rfl
theorem umX6_220 : Cond.methodLink RX6 220 yX2_isSoIfDrawn ∈ UW := uw_t 559 (by decide +kernel) rfl
theorem ui_X2_isSoIfDrawn : Cond.instanceMethod yX2_isSoIfDrawn ∈ UW := uw_t 560 (by decide +kernel) rfl
theorem us_X2_isSoIfDrawn : Cond.selects RX2 yX2_isSoIfDrawn yX2_isSoIfDrawn ∈ UW := uw_t 561 (by decide +kernel) rfl
set_option maxRecDepth 20000 in
theorem uc_X2_isSoIfDrawn : Cond.code yX2_isSoIfDrawn cX2_isSoIfDrawn 6 (some .boolean) ∈ UW := uw_t 562 rfl rfl
theorem umX2_22 : Cond.methodLink RX2 22 yX3_has ∈ UW := uw_t 563 (by decide +kernel) rfl
theorem umX2_31 : Cond.methodLink RX2 31 yX3_bearsAs ∈ UW := uw_t 564 (by decide +kernel) rfl
theorem umL_105 : Cond.methodLink RL 105 yX6_night ∈ UW := uw_t 565 (by decide +kernel) rfl
theorem ui_X6_night : Cond.instanceMethod yX6_night ∈ UW := uw_t 566 (by decide +kernel) rfl
theorem us_X6_night : Cond.selects RX6 yX6_night yX6_night ∈ UW := uw_t 567 (by decide +kernel) rfl
set_option maxRecDepth 20000 in
theorem uc_X6_night : Cond.code yX6_night cX6_night 7 (some .int) ∈ UW := uw_t 568 rfl rfl
theorem umX6_224 : Cond.methodLink RX6 224 yX2_isSoIfCrossed ∈ UW := uw_t 569 (by decide +kernel) rfl
theorem ui_X2_isSoIfCrossed : Cond.instanceMethod yX2_isSoIfCrossed ∈ UW := uw_t 570 (by decide +kernel) rfl
theorem us_X2_isSoIfCrossed : Cond.selects RX2 yX2_isSoIfCrossed yX2_isSoIfCrossed ∈ UW := uw_t 571 (by decide +kernel) rfl
set_option maxRecDepth 20000 in
theorem uc_X2_isSoIfCrossed : Cond.code yX2_isSoIfCrossed cX2_isSoIfCrossed 9 (some .boolean) ∈ UW := uw_t 572 rfl rfl
theorem umX2_38 : Cond.methodLink RX2 38 Lib.Math.max.name ∈ UW := uw_t 573 (by decide +kernel) rfl
theorem umX2_44 : Cond.methodLink RX2 44 yX3_bears ∈ UW := uw_t 574 (by decide +kernel) rfl
theorem umL_109 : Cond.methodLink RL 109 yX6_mark ∈ UW := uw_t 575 (by decide +kernel) rfl
theorem ui_X6_mark : Cond.instanceMethod yX6_mark ∈ UW := uw_t 576 (by decide +kernel) rfl
theorem us_X6_mark : Cond.selects RX6 yX6_mark yX6_mark ∈ UW := uw_t 577 (by decide +kernel) rfl
set_option maxRecDepth 20000 in
theorem uc_X6_mark : Cond.code yX6_mark cX6_mark 3 (some .int) ∈ UW := uw_t 578 rfl rfl
theorem ukX6_227 : Cond.constant RX6 227 (-1000000) ∈ UW := uw_t 579 (by decide +kernel) rfl
theorem umX6_228 : Cond.methodLink RX6 228 yX6_markOfRow ∈ UW := uw_t 580 (by decide +kernel) rfl
theorem ui_X6_markOfRow : Cond.instanceMethod yX6_markOfRow ∈ UW := uw_t 582 (by decide +kernel) rfl
set_option maxRecDepth 20000 in
theorem uc_X6_markOfRow : Cond.code yX6_markOfRow cX6_markOfRow 2 (some .int) ∈ UW := uw_t 583 rfl rfl
theorem umX6_231 : Cond.methodLink RX6 231 yX6_markOfPoor ∈ UW := uw_t 584 (by decide +kernel) rfl
theorem ui_X6_markOfPoor : Cond.instanceMethod yX6_markOfPoor ∈ UW := uw_t 586 (by decide +kernel) rfl
set_option maxRecDepth 20000 in
theorem uc_X6_markOfPoor : Cond.code yX6_markOfPoor cX6_markOfPoor 2 (some .int) ∈ UW := uw_t 587 rfl rfl
theorem ukX6_261 : Cond.constantLong RX6 261 (10) ∈ UW := uw_t 588 (by decide +kernel) rfl
theorem umX6_234 : Cond.methodLink RX6 234 yX6_markOfBride ∈ UW := uw_t 589 (by decide +kernel) rfl
theorem ui_X6_markOfBride : Cond.instanceMethod yX6_markOfBride ∈ UW := uw_t 591 (by decide +kernel) rfl
set_option maxRecDepth 20000 in
theorem uc_X6_markOfBride : Cond.code yX6_markOfBride cX6_markOfBride 2 (some .int) ∈ UW := uw_t 592 rfl rfl
theorem ukX6_263 : Cond.constantLong RX6 263 (100) ∈ UW := uw_t 593 (by decide +kernel) rfl
theorem umX6_237 : Cond.methodLink RX6 237 yX6_markOfDrover ∈ UW := uw_t 594 (by decide +kernel) rfl
theorem ui_X6_markOfDrover : Cond.instanceMethod yX6_markOfDrover ∈ UW := uw_t 596 (by decide +kernel) rfl
set_option maxRecDepth 20000 in
theorem uc_X6_markOfDrover : Cond.code yX6_markOfDrover cX6_markOfDrover 2 (some .int) ∈ UW := uw_t 597 rfl rfl
theorem ukX6_265 : Cond.constantLong RX6 265 (1000) ∈ UW := uw_t 598 (by decide +kernel) rfl
theorem umX6_240 : Cond.methodLink RX6 240 yX6_markOfOath ∈ UW := uw_t 599 (by decide +kernel) rfl
theorem ui_X6_markOfOath : Cond.instanceMethod yX6_markOfOath ∈ UW := uw_t 601 (by decide +kernel) rfl
set_option maxRecDepth 20000 in
theorem uc_X6_markOfOath : Cond.code yX6_markOfOath cX6_markOfOath 2 (some .int) ∈ UW := uw_t 602 rfl rfl
theorem ukX6_267 : Cond.constantLong RX6 267 (10000) ∈ UW := uw_t 603 (by decide +kernel) rfl
theorem umX6_243 : Cond.methodLink RX6 243 yX6_markOfSheep ∈ UW := uw_t 604 (by decide +kernel) rfl
theorem ui_X6_markOfSheep : Cond.instanceMethod yX6_markOfSheep ∈ UW := uw_t 606 (by decide +kernel) rfl
set_option maxRecDepth 20000 in
theorem uc_X6_markOfSheep : Cond.code yX6_markOfSheep cX6_markOfSheep 2 (some .int) ∈ UW := uw_t 607 rfl rfl
theorem ukX6_269 : Cond.constantLong RX6 269 (100000) ∈ UW := uw_t 608 (by decide +kernel) rfl
theorem umL_113 : Cond.methodLink RL 113 yX6_keep ∈ UW := uw_t 609 (by decide +kernel) rfl
theorem ui_X6_keep : Cond.instanceMethod yX6_keep ∈ UW := uw_t 610 (by decide +kernel) rfl
theorem us_X6_keep : Cond.selects RX6 yX6_keep yX6_keep ∈ UW := uw_t 611 (by decide +kernel) rfl
set_option maxRecDepth 20000 in
theorem uc_X6_keep : Cond.code yX6_keep cX6_keep 2 (some .int) ∈ UW := uw_t 612 rfl rfl
theorem umX6_246 : Cond.methodLink RX6 246 yX1_takeAll ∈ UW := uw_t 613 (by decide +kernel) rfl
theorem ui_X1_takeAll : Cond.instanceMethod yX1_takeAll ∈ UW := uw_t 614 (by decide +kernel) rfl
theorem us_X1_takeAll : Cond.selects RX1 yX1_takeAll yX1_takeAll ∈ UW := uw_t 615 (by decide +kernel) rfl
set_option maxRecDepth 20000 in
theorem uc_X1_takeAll : Cond.code yX1_takeAll cX1_takeAll 3 none ∈ UW := uw_t 616 rfl rfl
theorem umL_117 : Cond.methodLink RL 117 yX6_back ∈ UW := uw_t 617 (by decide +kernel) rfl
theorem ui_X6_back : Cond.instanceMethod yX6_back ∈ UW := uw_t 618 (by decide +kernel) rfl
theorem us_X6_back : Cond.selects RX6 yX6_back yX6_back ∈ UW := uw_t 619 (by decide +kernel) rfl
set_option maxRecDepth 20000 in
theorem uc_X6_back : Cond.code yX6_back cX6_back 2 (some .int) ∈ UW := uw_t 620 rfl rfl
theorem umL_121 : Cond.methodLink RL 121 yX6_count ∈ UW := uw_t 621 (by decide +kernel) rfl
theorem ui_X6_count : Cond.instanceMethod yX6_count ∈ UW := uw_t 622 (by decide +kernel) rfl
theorem us_X6_count : Cond.selects RX6 yX6_count yX6_count ∈ UW := uw_t 623 (by decide +kernel) rfl
set_option maxRecDepth 20000 in
theorem uc_X6_count : Cond.code yX6_count cX6_count 2 (some .int) ∈ UW := uw_t 624 rfl rfl
theorem umL_125 : Cond.methodLink RL 125 yX6_trace ∈ UW := uw_t 625 (by decide +kernel) rfl
theorem ui_X6_trace : Cond.instanceMethod yX6_trace ∈ UW := uw_t 626 (by decide +kernel) rfl
theorem us_X6_trace : Cond.selects RX6 yX6_trace yX6_trace ∈ UW := uw_t 627 (by decide +kernel) rfl
set_option maxRecDepth 20000 in
theorem uc_X6_trace : Cond.code yX6_trace cX6_trace 1 (some .long) ∈ UW := uw_t 628 rfl rfl
theorem ulL_10 : Cond.classLink RL 10 RX7 ∈ UW := uw_t 629 (by decide +kernel) rfl
theorem uo_X7 : Cond.instantiable RX7 15 ∈ UW := uw_t 630 (by decide +kernel) rfl
theorem umL_12 : Cond.methodLink RL 12 yX7_init ∈ UW := uw_t 631 (by decide +kernel) rfl
theorem ui_X7_init : Cond.instanceMethod yX7_init ∈ UW := uw_t 632 (by decide +kernel) rfl
set_option maxRecDepth 20000 in
theorem uc_X7_init : Cond.code yX7_init cX7_init 1 none ∈ UW := uw_t 633 rfl rfl
theorem umX7_1 : Cond.methodLink RX7 1 objectInit ∈ UW := uw_t 634 (by decide +kernel) rfl
theorem umX7_35 : Cond.methodLink RX7 35 yX7_reads ∈ UW := uw_t 635 (by decide +kernel) rfl
theorem ui_X7_reads : Cond.instanceMethod yX7_reads ∈ UW := uw_t 637 (by decide +kernel) rfl
set_option maxRecDepth 20000 in
theorem uc_X7_reads : Cond.code yX7_reads cX7_reads 2 (some .boolean) ∈ UW := uw_t 638 rfl rfl
theorem umX7_73 : Cond.methodLink RX7 73 yX7_token ∈ UW := uw_t 639 (by decide +kernel) rfl
theorem ui_X7_token : Cond.instanceMethod yX7_token ∈ UW := uw_t 641 (by decide +kernel) rfl
set_option maxRecDepth 20000 in
theorem uc_X7_token : Cond.code yX7_token cX7_token 2 none ∈ UW := uw_t 642 rfl rfl
theorem umX7_53 : Cond.methodLink RX7 53 yX7_byteAt ∈ UW := uw_t 643 (by decide +kernel) rfl
theorem ui_X7_byteAt : Cond.instanceMethod yX7_byteAt ∈ UW := uw_t 645 (by decide +kernel) rfl
set_option maxRecDepth 20000 in
theorem uc_X7_byteAt : Cond.code yX7_byteAt cX7_byteAt 2 (some .int) ∈ UW := uw_t 646 rfl rfl
theorem umX7_60 : Cond.methodLink RX7 60 yX7_isLetter ∈ UW := uw_t 647 (by decide +kernel) rfl
theorem ut_X7_isLetter : Cond.static yX7_isLetter ∈ UW := uw_t 648 (by decide +kernel) rfl
set_option maxRecDepth 20000 in
theorem uc_X7_isLetter : Cond.code yX7_isLetter cX7_isLetter 1 (some .boolean) ∈ UW := uw_t 649 rfl rfl
theorem umX7_42 : Cond.methodLink RX7 42 yX7_in ∈ UW := uw_t 650 (by decide +kernel) rfl
theorem ut_X7_in : Cond.static yX7_in ∈ UW := uw_t 651 (by decide +kernel) rfl
set_option maxRecDepth 20000 in
theorem uc_X7_in : Cond.code yX7_in cX7_in 3 (some .boolean) ∈ UW := uw_t 652 rfl rfl
theorem umX7_64 : Cond.methodLink RX7 64 yX7_isDigit ∈ UW := uw_t 653 (by decide +kernel) rfl
theorem ut_X7_isDigit : Cond.static yX7_isDigit ∈ UW := uw_t 654 (by decide +kernel) rfl
set_option maxRecDepth 20000 in
theorem uc_X7_isDigit : Cond.code yX7_isDigit cX7_isDigit 1 (some .boolean) ∈ UW := uw_t 655 rfl rfl
theorem umX7_85 : Cond.methodLink RX7 85 yX7_readsItem ∈ UW := uw_t 656 (by decide +kernel) rfl
theorem ui_X7_readsItem : Cond.instanceMethod yX7_readsItem ∈ UW := uw_t 658 (by decide +kernel) rfl
set_option maxRecDepth 20000 in
theorem uc_X7_readsItem : Cond.code yX7_readsItem cX7_readsItem 3 (some .boolean) ∈ UW := uw_t 659 rfl rfl
theorem umX7_76 : Cond.methodLink RX7 76 yX7_number ∈ UW := uw_t 660 (by decide +kernel) rfl
theorem ui_X7_number : Cond.instanceMethod yX7_number ∈ UW := uw_t 662 (by decide +kernel) rfl
set_option maxRecDepth 20000 in
theorem uc_X7_number : Cond.code yX7_number cX7_number 4 (some .boolean) ∈ UW := uw_t 663 rfl rfl
theorem umX7_79 : Cond.methodLink RX7 79 yX7_readsRows ∈ UW := uw_t 664 (by decide +kernel) rfl
theorem ui_X7_readsRows : Cond.instanceMethod yX7_readsRows ∈ UW := uw_t 666 (by decide +kernel) rfl
set_option maxRecDepth 20000 in
theorem uc_X7_readsRows : Cond.code yX7_readsRows cX7_readsRows 3 (some .boolean) ∈ UW := uw_t 667 rfl rfl
theorem umX7_82 : Cond.methodLink RX7 82 yX7_once ∈ UW := uw_t 668 (by decide +kernel) rfl
theorem ui_X7_once : Cond.instanceMethod yX7_once ∈ UW := uw_t 670 (by decide +kernel) rfl
set_option maxRecDepth 20000 in
theorem uc_X7_once : Cond.code yX7_once cX7_once 4 (some .boolean) ∈ UW := uw_t 671 rfl rfl
theorem umX7_39 : Cond.methodLink RX7 39 yX7_tells ∈ UW := uw_t 672 (by decide +kernel) rfl
theorem ui_X7_tells : Cond.instanceMethod yX7_tells ∈ UW := uw_t 674 (by decide +kernel) rfl
set_option maxRecDepth 20000 in
theorem uc_X7_tells : Cond.code yX7_tells cX7_tells 2 none ∈ UW := uw_t 675 rfl rfl
theorem ufX7_144 : Cond.fieldLink RX7 144 "WoolBridgeModel" "trace" "J" ∈ UW := uw_t 676 (by decide +kernel) rfl
theorem ufX7_7 : Cond.fieldLink RX7 7 "WoolBridgeModel" "text" "[I" ∈ UW := uw_t 677 (by decide +kernel) rfl
theorem ufX7_46 : Cond.fieldLink RX7 46 "WoolBridgeModel" "typed" "I" ∈ UW := uw_t 678 (by decide +kernel) rfl
theorem ufX7_13 : Cond.fieldLink RX7 13 "WoolBridgeModel" "told" "[I" ∈ UW := uw_t 679 (by decide +kernel) rfl
theorem ufX7_16 : Cond.fieldLink RX7 16 "WoolBridgeModel" "draft" "[I" ∈ UW := uw_t 680 (by decide +kernel) rfl
theorem ufX7_19 : Cond.fieldLink RX7 19 "WoolBridgeModel" "s" "[I" ∈ UW := uw_t 681 (by decide +kernel) rfl
theorem ufX7_22 : Cond.fieldLink RX7 22 "WoolBridgeModel" "images" "[I" ∈ UW := uw_t 682 (by decide +kernel) rfl
theorem ufX7_25 : Cond.fieldLink RX7 25 "WoolBridgeModel" "kept" "[Z" ∈ UW := uw_t 683 (by decide +kernel) rfl
theorem ufX7_29 : Cond.fieldLink RX7 29 "WoolBridgeModel" "plumbed" "[I" ∈ UW := uw_t 684 (by decide +kernel) rfl
theorem ufX7_88 : Cond.fieldLink RX7 88 "WoolBridgeModel" "plumbs" "I" ∈ UW := uw_t 685 (by decide +kernel) rfl
theorem ufX7_50 : Cond.fieldLink RX7 50 "WoolBridgeModel" "at" "I" ∈ UW := uw_t 686 (by decide +kernel) rfl
theorem ufX7_67 : Cond.fieldLink RX7 67 "WoolBridgeModel" "sort" "I" ∈ UW := uw_t 687 (by decide +kernel) rfl
theorem ufX7_57 : Cond.fieldLink RX7 57 "WoolBridgeModel" "start" "I" ∈ UW := uw_t 688 (by decide +kernel) rfl
theorem ufX7_70 : Cond.fieldLink RX7 70 "WoolBridgeModel" "value" "I" ∈ UW := uw_t 689 (by decide +kernel) rfl
theorem ufX7_32 : Cond.fieldLink RX7 32 "WoolBridgeModel" "held" "[I" ∈ UW := uw_t 690 (by decide +kernel) rfl
theorem umL_17 : Cond.methodLink RL 17 yX7_type ∈ UW := uw_t 722 (by decide +kernel) rfl
theorem ui_X7_type : Cond.instanceMethod yX7_type ∈ UW := uw_t 723 (by decide +kernel) rfl
theorem us_X7_type : Cond.selects RX7 yX7_type yX7_type ∈ UW := uw_t 724 (by decide +kernel) rfl
set_option maxRecDepth 20000 in
theorem uc_X7_type : Cond.code yX7_type cX7_type 2 (some .int) ∈ UW := uw_t 725 rfl rfl
theorem umL_22 : Cond.methodLink RL 22 yX7_clear ∈ UW := uw_t 726 (by decide +kernel) rfl
theorem ui_X7_clear : Cond.instanceMethod yX7_clear ∈ UW := uw_t 727 (by decide +kernel) rfl
theorem us_X7_clear : Cond.selects RX7 yX7_clear yX7_clear ∈ UW := uw_t 728 (by decide +kernel) rfl
set_option maxRecDepth 20000 in
theorem uc_X7_clear : Cond.code yX7_clear cX7_clear 2 (some .int) ∈ UW := uw_t 729 rfl rfl
theorem umL_26 : Cond.methodLink RL 26 yX7_gorge ∈ UW := uw_t 730 (by decide +kernel) rfl
theorem ui_X7_gorge : Cond.instanceMethod yX7_gorge ∈ UW := uw_t 731 (by decide +kernel) rfl
theorem us_X7_gorge : Cond.selects RX7 yX7_gorge yX7_gorge ∈ UW := uw_t 732 (by decide +kernel) rfl
set_option maxRecDepth 20000 in
theorem uc_X7_gorge : Cond.code yX7_gorge cX7_gorge 1 (some .int) ∈ UW := uw_t 733 rfl rfl
theorem umL_31 : Cond.methodLink RL 31 yX7_person ∈ UW := uw_t 734 (by decide +kernel) rfl
theorem ui_X7_person : Cond.instanceMethod yX7_person ∈ UW := uw_t 735 (by decide +kernel) rfl
theorem us_X7_person : Cond.selects RX7 yX7_person yX7_person ∈ UW := uw_t 736 (by decide +kernel) rfl
set_option maxRecDepth 20000 in
theorem uc_X7_person : Cond.code yX7_person cX7_person 3 (some .int) ∈ UW := uw_t 737 rfl rfl
theorem umX7_91 : Cond.methodLink RX7 91 yX7_isPerson ∈ UW := uw_t 738 (by decide +kernel) rfl
theorem ui_X7_isPerson : Cond.instanceMethod yX7_isPerson ∈ UW := uw_t 740 (by decide +kernel) rfl
set_option maxRecDepth 20000 in
theorem uc_X7_isPerson : Cond.code yX7_isPerson cX7_isPerson 2 (some .boolean) ∈ UW := uw_t 741 rfl rfl
theorem umX7_94 : Cond.methodLink RX7 94 yX7_share ∈ UW := uw_t 742 (by decide +kernel) rfl
theorem ui_X7_share : Cond.instanceMethod yX7_share ∈ UW := uw_t 744 (by decide +kernel) rfl
set_option maxRecDepth 20000 in
theorem uc_X7_share : Cond.code yX7_share cX7_share 4 (some .int) ∈ UW := uw_t 745 rfl rfl
theorem umL_35 : Cond.methodLink RL 35 yX7_row ∈ UW := uw_t 746 (by decide +kernel) rfl
theorem ui_X7_row : Cond.instanceMethod yX7_row ∈ UW := uw_t 747 (by decide +kernel) rfl
theorem us_X7_row : Cond.selects RX7 yX7_row yX7_row ∈ UW := uw_t 748 (by decide +kernel) rfl
set_option maxRecDepth 20000 in
theorem uc_X7_row : Cond.code yX7_row cX7_row 3 (some .int) ∈ UW := uw_t 749 rfl rfl
theorem umX7_97 : Cond.methodLink RX7 97 yX7_isRow ∈ UW := uw_t 750 (by decide +kernel) rfl
theorem ui_X7_isRow : Cond.instanceMethod yX7_isRow ∈ UW := uw_t 752 (by decide +kernel) rfl
set_option maxRecDepth 20000 in
theorem uc_X7_isRow : Cond.code yX7_isRow cX7_isRow 2 (some .boolean) ∈ UW := uw_t 753 rfl rfl
theorem umX7_100 : Cond.methodLink RX7 100 yX7_bears ∈ UW := uw_t 754 (by decide +kernel) rfl
theorem ui_X7_bears : Cond.instanceMethod yX7_bears ∈ UW := uw_t 756 (by decide +kernel) rfl
set_option maxRecDepth 20000 in
theorem uc_X7_bears : Cond.code yX7_bears cX7_bears 3 (some .int) ∈ UW := uw_t 757 rfl rfl
theorem umL_39 : Cond.methodLink RL 39 yX7_crosses ∈ UW := uw_t 758 (by decide +kernel) rfl
theorem ui_X7_crosses : Cond.instanceMethod yX7_crosses ∈ UW := uw_t 759 (by decide +kernel) rfl
theorem us_X7_crosses : Cond.selects RX7 yX7_crosses yX7_crosses ∈ UW := uw_t 760 (by decide +kernel) rfl
set_option maxRecDepth 20000 in
theorem uc_X7_crosses : Cond.code yX7_crosses cX7_crosses 2 (some .int) ∈ UW := uw_t 761 rfl rfl
theorem umX7_119 : Cond.methodLink RX7 119 yX7_holds ∈ UW := uw_t 762 (by decide +kernel) rfl
theorem ui_X7_holds : Cond.instanceMethod yX7_holds ∈ UW := uw_t 764 (by decide +kernel) rfl
set_option maxRecDepth 20000 in
theorem uc_X7_holds : Cond.code yX7_holds cX7_holds 2 (some .boolean) ∈ UW := uw_t 765 rfl rfl
theorem umX7_103 : Cond.methodLink RX7 103 yX7_longOf ∈ UW := uw_t 766 (by decide +kernel) rfl
theorem ut_X7_longOf : Cond.static yX7_longOf ∈ UW := uw_t 767 (by decide +kernel) rfl
set_option maxRecDepth 20000 in
theorem uc_X7_longOf : Cond.code yX7_longOf cX7_longOf 2 (some .int) ∈ UW := uw_t 768 rfl rfl
theorem umX7_107 : Cond.methodLink RX7 107 yX7_most ∈ UW := uw_t 769 (by decide +kernel) rfl
theorem ui_X7_most : Cond.instanceMethod yX7_most ∈ UW := uw_t 771 (by decide +kernel) rfl
set_option maxRecDepth 20000 in
theorem uc_X7_most : Cond.code yX7_most cX7_most 3 (some .int) ∈ UW := uw_t 772 rfl rfl
theorem umX7_122 : Cond.methodLink RX7 122 yX7_keeps ∈ UW := uw_t 773 (by decide +kernel) rfl
theorem ui_X7_keeps : Cond.instanceMethod yX7_keeps ∈ UW := uw_t 775 (by decide +kernel) rfl
set_option maxRecDepth 20000 in
theorem uc_X7_keeps : Cond.code yX7_keeps cX7_keeps 3 none ∈ UW := uw_t 776 rfl rfl
theorem umX7_125 : Cond.methodLink RX7 125 yX7_goesOver ∈ UW := uw_t 777 (by decide +kernel) rfl
theorem ui_X7_goesOver : Cond.instanceMethod yX7_goesOver ∈ UW := uw_t 779 (by decide +kernel) rfl
set_option maxRecDepth 20000 in
theorem uc_X7_goesOver : Cond.code yX7_goesOver cX7_goesOver 2 none ∈ UW := uw_t 780 rfl rfl
theorem umX7_115 : Cond.methodLink RX7 115 yX7_knits ∈ UW := uw_t 781 (by decide +kernel) rfl
theorem ui_X7_knits : Cond.instanceMethod yX7_knits ∈ UW := uw_t 783 (by decide +kernel) rfl
set_option maxRecDepth 20000 in
theorem uc_X7_knits : Cond.code yX7_knits cX7_knits 5 none ∈ UW := uw_t 784 rfl rfl
theorem umX7_111 : Cond.methodLink RX7 111 yX7_goesAway ∈ UW := uw_t 785 (by decide +kernel) rfl
theorem ui_X7_goesAway : Cond.instanceMethod yX7_goesAway ∈ UW := uw_t 787 (by decide +kernel) rfl
set_option maxRecDepth 20000 in
theorem uc_X7_goesAway : Cond.code yX7_goesAway cX7_goesAway 3 none ∈ UW := uw_t 788 rfl rfl
theorem umL_43 : Cond.methodLink RL 43 yX7_turnsBack ∈ UW := uw_t 789 (by decide +kernel) rfl
theorem ui_X7_turnsBack : Cond.instanceMethod yX7_turnsBack ∈ UW := uw_t 790 (by decide +kernel) rfl
theorem us_X7_turnsBack : Cond.selects RX7 yX7_turnsBack yX7_turnsBack ∈ UW := uw_t 791 (by decide +kernel) rfl
set_option maxRecDepth 20000 in
theorem uc_X7_turnsBack : Cond.code yX7_turnsBack cX7_turnsBack 3 (some .int) ∈ UW := uw_t 792 rfl rfl
theorem umL_47 : Cond.methodLink RL 47 yX7_drops ∈ UW := uw_t 793 (by decide +kernel) rfl
theorem ui_X7_drops : Cond.instanceMethod yX7_drops ∈ UW := uw_t 794 (by decide +kernel) rfl
theorem us_X7_drops : Cond.selects RX7 yX7_drops yX7_drops ∈ UW := uw_t 795 (by decide +kernel) rfl
set_option maxRecDepth 20000 in
theorem uc_X7_drops : Cond.code yX7_drops cX7_drops 2 (some .int) ∈ UW := uw_t 796 rfl rfl
theorem umL_51 : Cond.methodLink RL 51 yX7_draws ∈ UW := uw_t 797 (by decide +kernel) rfl
theorem ui_X7_draws : Cond.instanceMethod yX7_draws ∈ UW := uw_t 798 (by decide +kernel) rfl
theorem us_X7_draws : Cond.selects RX7 yX7_draws yX7_draws ∈ UW := uw_t 799 (by decide +kernel) rfl
set_option maxRecDepth 20000 in
theorem uc_X7_draws : Cond.code yX7_draws cX7_draws 2 (some .int) ∈ UW := uw_t 800 rfl rfl
theorem umL_55 : Cond.methodLink RL 55 yX7_rains ∈ UW := uw_t 801 (by decide +kernel) rfl
theorem ui_X7_rains : Cond.instanceMethod yX7_rains ∈ UW := uw_t 802 (by decide +kernel) rfl
theorem us_X7_rains : Cond.selects RX7 yX7_rains yX7_rains ∈ UW := uw_t 803 (by decide +kernel) rfl
set_option maxRecDepth 20000 in
theorem uc_X7_rains : Cond.code yX7_rains cX7_rains 2 (some .int) ∈ UW := uw_t 804 rfl rfl
theorem umL_59 : Cond.methodLink RL 59 yX7_year ∈ UW := uw_t 805 (by decide +kernel) rfl
theorem ui_X7_year : Cond.instanceMethod yX7_year ∈ UW := uw_t 806 (by decide +kernel) rfl
theorem us_X7_year : Cond.selects RX7 yX7_year yX7_year ∈ UW := uw_t 807 (by decide +kernel) rfl
set_option maxRecDepth 20000 in
theorem uc_X7_year : Cond.code yX7_year cX7_year 1 (some .int) ∈ UW := uw_t 808 rfl rfl
theorem umX7_128 : Cond.methodLink RX7 128 yX7_ages ∈ UW := uw_t 809 (by decide +kernel) rfl
theorem ui_X7_ages : Cond.instanceMethod yX7_ages ∈ UW := uw_t 811 (by decide +kernel) rfl
set_option maxRecDepth 20000 in
theorem uc_X7_ages : Cond.code yX7_ages cX7_ages 2 none ∈ UW := uw_t 812 rfl rfl
theorem umL_63 : Cond.methodLink RL 63 yX7_undo ∈ UW := uw_t 813 (by decide +kernel) rfl
theorem ui_X7_undo : Cond.instanceMethod yX7_undo ∈ UW := uw_t 814 (by decide +kernel) rfl
theorem us_X7_undo : Cond.selects RX7 yX7_undo yX7_undo ∈ UW := uw_t 815 (by decide +kernel) rfl
set_option maxRecDepth 20000 in
theorem uc_X7_undo : Cond.code yX7_undo cX7_undo 3 (some .int) ∈ UW := uw_t 816 rfl rfl
theorem umL_67 : Cond.methodLink RL 67 yX7_now ∈ UW := uw_t 817 (by decide +kernel) rfl
theorem ui_X7_now : Cond.instanceMethod yX7_now ∈ UW := uw_t 818 (by decide +kernel) rfl
theorem us_X7_now : Cond.selects RX7 yX7_now yX7_now ∈ UW := uw_t 819 (by decide +kernel) rfl
set_option maxRecDepth 20000 in
theorem uc_X7_now : Cond.code yX7_now cX7_now 5 (some .int) ∈ UW := uw_t 820 rfl rfl
theorem umX7_131 : Cond.methodLink RX7 131 yX7_thin ∈ UW := uw_t 821 (by decide +kernel) rfl
theorem ui_X7_thin : Cond.instanceMethod yX7_thin ∈ UW := uw_t 823 (by decide +kernel) rfl
set_option maxRecDepth 20000 in
theorem uc_X7_thin : Cond.code yX7_thin cX7_thin 3 (some .int) ∈ UW := uw_t 824 rfl rfl
theorem umL_71 : Cond.methodLink RL 71 yX7_order ∈ UW := uw_t 825 (by decide +kernel) rfl
theorem ui_X7_order : Cond.instanceMethod yX7_order ∈ UW := uw_t 826 (by decide +kernel) rfl
theorem us_X7_order : Cond.selects RX7 yX7_order yX7_order ∈ UW := uw_t 827 (by decide +kernel) rfl
set_option maxRecDepth 20000 in
theorem uc_X7_order : Cond.code yX7_order cX7_order 13 (some .int) ∈ UW := uw_t 828 rfl rfl
theorem umX7_134 : Cond.methodLink RX7 134 yX7_remembers ∈ UW := uw_t 829 (by decide +kernel) rfl
theorem ui_X7_remembers : Cond.instanceMethod yX7_remembers ∈ UW := uw_t 831 (by decide +kernel) rfl
set_option maxRecDepth 20000 in
theorem uc_X7_remembers : Cond.code yX7_remembers cX7_remembers 2 none ∈ UW := uw_t 832 rfl rfl
theorem umX7_137 : Cond.methodLink RX7 137 yX7_lets ∈ UW := uw_t 833 (by decide +kernel) rfl
theorem ui_X7_lets : Cond.instanceMethod yX7_lets ∈ UW := uw_t 835 (by decide +kernel) rfl
set_option maxRecDepth 20000 in
theorem uc_X7_lets : Cond.code yX7_lets cX7_lets 2 none ∈ UW := uw_t 836 rfl rfl
theorem umL_75 : Cond.methodLink RL 75 yX7_lastOne ∈ UW := uw_t 837 (by decide +kernel) rfl
theorem ui_X7_lastOne : Cond.instanceMethod yX7_lastOne ∈ UW := uw_t 838 (by decide +kernel) rfl
theorem us_X7_lastOne : Cond.selects RX7 yX7_lastOne yX7_lastOne ∈ UW := uw_t 839 (by decide +kernel) rfl
set_option maxRecDepth 20000 in
theorem uc_X7_lastOne : Cond.code yX7_lastOne cX7_lastOne 3 (some .int) ∈ UW := uw_t 840 rfl rfl
theorem umL_79 : Cond.methodLink RL 79 yX7_crossings ∈ UW := uw_t 841 (by decide +kernel) rfl
theorem ui_X7_crossings : Cond.instanceMethod yX7_crossings ∈ UW := uw_t 842 (by decide +kernel) rfl
theorem us_X7_crossings : Cond.selects RX7 yX7_crossings yX7_crossings ∈ UW := uw_t 843 (by decide +kernel) rfl
set_option maxRecDepth 20000 in
theorem uc_X7_crossings : Cond.code yX7_crossings cX7_crossings 3 (some .int) ∈ UW := uw_t 844 rfl rfl
theorem umL_83 : Cond.methodLink RL 83 yX7_over ∈ UW := uw_t 845 (by decide +kernel) rfl
theorem ui_X7_over : Cond.instanceMethod yX7_over ∈ UW := uw_t 846 (by decide +kernel) rfl
theorem us_X7_over : Cond.selects RX7 yX7_over yX7_over ∈ UW := uw_t 847 (by decide +kernel) rfl
set_option maxRecDepth 20000 in
theorem uc_X7_over : Cond.code yX7_over cX7_over 4 (some .int) ∈ UW := uw_t 848 rfl rfl
theorem umL_87 : Cond.methodLink RL 87 yX7_mend ∈ UW := uw_t 849 (by decide +kernel) rfl
theorem ui_X7_mend : Cond.instanceMethod yX7_mend ∈ UW := uw_t 850 (by decide +kernel) rfl
theorem us_X7_mend : Cond.selects RX7 yX7_mend yX7_mend ∈ UW := uw_t 851 (by decide +kernel) rfl
set_option maxRecDepth 20000 in
theorem uc_X7_mend : Cond.code yX7_mend cX7_mend 8 (some .int) ∈ UW := uw_t 852 rfl rfl
theorem umL_92 : Cond.methodLink RL 92 yX7_odds ∈ UW := uw_t 853 (by decide +kernel) rfl
theorem ui_X7_odds : Cond.instanceMethod yX7_odds ∈ UW := uw_t 854 (by decide +kernel) rfl
theorem us_X7_odds : Cond.selects RX7 yX7_odds yX7_odds ∈ UW := uw_t 855 (by decide +kernel) rfl
set_option maxRecDepth 20000 in
theorem uc_X7_odds : Cond.code yX7_odds cX7_odds 10 (some .int) ∈ UW := uw_t 856 rfl rfl
theorem umL_96 : Cond.methodLink RL 96 yX7_plumbs ∈ UW := uw_t 857 (by decide +kernel) rfl
theorem ui_X7_plumbs : Cond.instanceMethod yX7_plumbs ∈ UW := uw_t 858 (by decide +kernel) rfl
theorem us_X7_plumbs : Cond.selects RX7 yX7_plumbs yX7_plumbs ∈ UW := uw_t 859 (by decide +kernel) rfl
set_option maxRecDepth 20000 in
theorem uc_X7_plumbs : Cond.code yX7_plumbs cX7_plumbs 3 (some .int) ∈ UW := uw_t 860 rfl rfl
theorem umL_100 : Cond.methodLink RL 100 yX7_forget ∈ UW := uw_t 861 (by decide +kernel) rfl
theorem ui_X7_forget : Cond.instanceMethod yX7_forget ∈ UW := uw_t 862 (by decide +kernel) rfl
theorem us_X7_forget : Cond.selects RX7 yX7_forget yX7_forget ∈ UW := uw_t 863 (by decide +kernel) rfl
set_option maxRecDepth 20000 in
theorem uc_X7_forget : Cond.code yX7_forget cX7_forget 2 (some .int) ∈ UW := uw_t 864 rfl rfl
theorem umL_104 : Cond.methodLink RL 104 yX7_drew ∈ UW := uw_t 865 (by decide +kernel) rfl
theorem ui_X7_drew : Cond.instanceMethod yX7_drew ∈ UW := uw_t 866 (by decide +kernel) rfl
theorem us_X7_drew : Cond.selects RX7 yX7_drew yX7_drew ∈ UW := uw_t 867 (by decide +kernel) rfl
set_option maxRecDepth 20000 in
theorem uc_X7_drew : Cond.code yX7_drew cX7_drew 8 (some .int) ∈ UW := uw_t 868 rfl rfl
theorem umX7_140 : Cond.methodLink RX7 140 yX7_isSo ∈ UW := uw_t 869 (by decide +kernel) rfl
theorem ui_X7_isSo : Cond.instanceMethod yX7_isSo ∈ UW := uw_t 871 (by decide +kernel) rfl
set_option maxRecDepth 20000 in
theorem uc_X7_isSo : Cond.code yX7_isSo cX7_isSo 4 (some .boolean) ∈ UW := uw_t 872 rfl rfl
theorem umL_108 : Cond.methodLink RL 108 yX7_night ∈ UW := uw_t 873 (by decide +kernel) rfl
theorem ui_X7_night : Cond.instanceMethod yX7_night ∈ UW := uw_t 874 (by decide +kernel) rfl
theorem us_X7_night : Cond.selects RX7 yX7_night yX7_night ∈ UW := uw_t 875 (by decide +kernel) rfl
set_option maxRecDepth 20000 in
theorem uc_X7_night : Cond.code yX7_night cX7_night 6 (some .int) ∈ UW := uw_t 876 rfl rfl
theorem umL_112 : Cond.methodLink RL 112 yX7_mark ∈ UW := uw_t 877 (by decide +kernel) rfl
theorem ui_X7_mark : Cond.instanceMethod yX7_mark ∈ UW := uw_t 878 (by decide +kernel) rfl
theorem us_X7_mark : Cond.selects RX7 yX7_mark yX7_mark ∈ UW := uw_t 879 (by decide +kernel) rfl
set_option maxRecDepth 20000 in
theorem uc_X7_mark : Cond.code yX7_mark cX7_mark 6 (some .int) ∈ UW := uw_t 880 rfl rfl
theorem ukX7_143 : Cond.constant RX7 143 (-1000000) ∈ UW := uw_t 881 (by decide +kernel) rfl
theorem ukX7_148 : Cond.constantLong RX7 148 (11) ∈ UW := uw_t 882 (by decide +kernel) rfl
theorem ukX7_150 : Cond.constantLong RX7 150 (101) ∈ UW := uw_t 883 (by decide +kernel) rfl
theorem ukX7_152 : Cond.constantLong RX7 152 (1011) ∈ UW := uw_t 884 (by decide +kernel) rfl
theorem ukX7_154 : Cond.constantLong RX7 154 (10101) ∈ UW := uw_t 885 (by decide +kernel) rfl
theorem ukX7_156 : Cond.constantLong RX7 156 (100001) ∈ UW := uw_t 886 (by decide +kernel) rfl
theorem umL_116 : Cond.methodLink RL 116 yX7_keep ∈ UW := uw_t 887 (by decide +kernel) rfl
theorem ui_X7_keep : Cond.instanceMethod yX7_keep ∈ UW := uw_t 888 (by decide +kernel) rfl
theorem us_X7_keep : Cond.selects RX7 yX7_keep yX7_keep ∈ UW := uw_t 889 (by decide +kernel) rfl
set_option maxRecDepth 20000 in
theorem uc_X7_keep : Cond.code yX7_keep cX7_keep 3 (some .int) ∈ UW := uw_t 890 rfl rfl
theorem umL_120 : Cond.methodLink RL 120 yX7_back ∈ UW := uw_t 891 (by decide +kernel) rfl
theorem ui_X7_back : Cond.instanceMethod yX7_back ∈ UW := uw_t 892 (by decide +kernel) rfl
theorem us_X7_back : Cond.selects RX7 yX7_back yX7_back ∈ UW := uw_t 893 (by decide +kernel) rfl
set_option maxRecDepth 20000 in
theorem uc_X7_back : Cond.code yX7_back cX7_back 3 (some .int) ∈ UW := uw_t 894 rfl rfl
theorem umL_124 : Cond.methodLink RL 124 yX7_count ∈ UW := uw_t 895 (by decide +kernel) rfl
theorem ui_X7_count : Cond.instanceMethod yX7_count ∈ UW := uw_t 896 (by decide +kernel) rfl
theorem us_X7_count : Cond.selects RX7 yX7_count yX7_count ∈ UW := uw_t 897 (by decide +kernel) rfl
set_option maxRecDepth 20000 in
theorem uc_X7_count : Cond.code yX7_count cX7_count 2 (some .int) ∈ UW := uw_t 898 rfl rfl
theorem umL_129 : Cond.methodLink RL 129 yX7_trace ∈ UW := uw_t 899 (by decide +kernel) rfl
theorem ui_X7_trace : Cond.instanceMethod yX7_trace ∈ UW := uw_t 900 (by decide +kernel) rfl
theorem us_X7_trace : Cond.selects RX7 yX7_trace yX7_trace ∈ UW := uw_t 901 (by decide +kernel) rfl
set_option maxRecDepth 20000 in
theorem uc_X7_trace : Cond.code yX7_trace cX7_trace 1 (some .long) ∈ UW := uw_t 902 rfl rfl
theorem us_X4_advance : Cond.selects RX4 yX4_advance yX4_advance ∈ UW := uw_s (q := (yX4_advance, 6)) 0 (by decide +kernel) rfl
theorem us_X4_weigh : Cond.selects RX4 yX4_weigh yX4_weigh ∈ UW := uw_s (q := (yX4_weigh, 6)) 1 (by decide +kernel) rfl
theorem us_X4_readItem : Cond.selects RX4 yX4_readItem yX4_readItem ∈ UW := uw_s (q := (yX4_readItem, 6)) 2 (by decide +kernel) rfl
theorem us_X4_readPerson : Cond.selects RX4 yX4_readPerson yX4_readPerson ∈ UW := uw_s (q := (yX4_readPerson, 6)) 3 (by decide +kernel) rfl
theorem us_X4_readNumber : Cond.selects RX4 yX4_readNumber yX4_readNumber ∈ UW := uw_s (q := (yX4_readNumber, 6)) 4 (by decide +kernel) rfl
theorem us_X4_readSemicolon : Cond.selects RX4 yX4_readSemicolon yX4_readSemicolon ∈ UW := uw_s (q := (yX4_readSemicolon, 6)) 5 (by decide +kernel) rfl
theorem us_X4_readRows : Cond.selects RX4 yX4_readRows yX4_readRows ∈ UW := uw_s (q := (yX4_readRows, 6)) 6 (by decide +kernel) rfl
theorem us_X4_readGap : Cond.selects RX4 yX4_readGap yX4_readGap ∈ UW := uw_s (q := (yX4_readGap, 6)) 7 (by decide +kernel) rfl
theorem us_X4_readSlack : Cond.selects RX4 yX4_readSlack yX4_readSlack ∈ UW := uw_s (q := (yX4_readSlack, 6)) 8 (by decide +kernel) rfl
theorem us_X6_span : Cond.selects RX6 yX6_span yX6_span ∈ UW := uw_s (q := (yX6_span, 9)) 9 (by decide +kernel) rfl
theorem us_X6_holdsNow : Cond.selects RX6 yX6_holdsNow yX6_holdsNow ∈ UW := uw_s (q := (yX6_holdsNow, 9)) 10 (by decide +kernel) rfl
theorem us_X6_mayCross : Cond.selects RX6 yX6_mayCross yX6_mayCross ∈ UW := uw_s (q := (yX6_mayCross, 9)) 11 (by decide +kernel) rfl
theorem us_X0_length : Cond.selects RX0 yX0_length yX0_length ∈ UW := uw_s (q := (yX0_length, 4)) 12 (by decide +kernel) rfl
theorem us_X0_first : Cond.selects RX0 yX0_first yX0_first ∈ UW := uw_s (q := (yX0_first, 4)) 13 (by decide +kernel) rfl
theorem us_X0_least : Cond.selects RX0 yX0_least yX0_least ∈ UW := uw_s (q := (yX0_least, 4)) 14 (by decide +kernel) rfl
theorem us_X0_knit : Cond.selects RX0 yX0_knit yX0_knit ∈ UW := uw_s (q := (yX0_knit, 4)) 15 (by decide +kernel) rfl
theorem us_X6_rowsToGap : Cond.selects RX6 yX6_rowsToGap yX6_rowsToGap ∈ UW := uw_s (q := (yX6_rowsToGap, 9)) 16 (by decide +kernel) rfl
theorem us_X6_chancesAfter : Cond.selects RX6 yX6_chancesAfter yX6_chancesAfter ∈ UW := uw_s (q := (yX6_chancesAfter, 9)) 17 (by decide +kernel) rfl
theorem us_X6_markOfRow : Cond.selects RX6 yX6_markOfRow yX6_markOfRow ∈ UW := uw_s (q := (yX6_markOfRow, 9)) 18 (by decide +kernel) rfl
theorem us_X6_markOfPoor : Cond.selects RX6 yX6_markOfPoor yX6_markOfPoor ∈ UW := uw_s (q := (yX6_markOfPoor, 9)) 19 (by decide +kernel) rfl
theorem us_X6_markOfBride : Cond.selects RX6 yX6_markOfBride yX6_markOfBride ∈ UW := uw_s (q := (yX6_markOfBride, 9)) 20 (by decide +kernel) rfl
theorem us_X6_markOfDrover : Cond.selects RX6 yX6_markOfDrover yX6_markOfDrover ∈ UW := uw_s (q := (yX6_markOfDrover, 9)) 21 (by decide +kernel) rfl
theorem us_X6_markOfOath : Cond.selects RX6 yX6_markOfOath yX6_markOfOath ∈ UW := uw_s (q := (yX6_markOfOath, 9)) 22 (by decide +kernel) rfl
theorem us_X6_markOfSheep : Cond.selects RX6 yX6_markOfSheep yX6_markOfSheep ∈ UW := uw_s (q := (yX6_markOfSheep, 9)) 23 (by decide +kernel) rfl
theorem us_X7_reads : Cond.selects RX7 yX7_reads yX7_reads ∈ UW := uw_s (q := (yX7_reads, 15)) 24 (by decide +kernel) rfl
theorem us_X7_token : Cond.selects RX7 yX7_token yX7_token ∈ UW := uw_s (q := (yX7_token, 15)) 25 (by decide +kernel) rfl
theorem us_X7_byteAt : Cond.selects RX7 yX7_byteAt yX7_byteAt ∈ UW := uw_s (q := (yX7_byteAt, 15)) 26 (by decide +kernel) rfl
theorem us_X7_readsItem : Cond.selects RX7 yX7_readsItem yX7_readsItem ∈ UW := uw_s (q := (yX7_readsItem, 15)) 27 (by decide +kernel) rfl
theorem us_X7_number : Cond.selects RX7 yX7_number yX7_number ∈ UW := uw_s (q := (yX7_number, 15)) 28 (by decide +kernel) rfl
theorem us_X7_readsRows : Cond.selects RX7 yX7_readsRows yX7_readsRows ∈ UW := uw_s (q := (yX7_readsRows, 15)) 29 (by decide +kernel) rfl
theorem us_X7_once : Cond.selects RX7 yX7_once yX7_once ∈ UW := uw_s (q := (yX7_once, 15)) 30 (by decide +kernel) rfl
theorem us_X7_tells : Cond.selects RX7 yX7_tells yX7_tells ∈ UW := uw_s (q := (yX7_tells, 15)) 31 (by decide +kernel) rfl
theorem us_X7_isPerson : Cond.selects RX7 yX7_isPerson yX7_isPerson ∈ UW := uw_s (q := (yX7_isPerson, 15)) 32 (by decide +kernel) rfl
theorem us_X7_share : Cond.selects RX7 yX7_share yX7_share ∈ UW := uw_s (q := (yX7_share, 15)) 33 (by decide +kernel) rfl
theorem us_X7_isRow : Cond.selects RX7 yX7_isRow yX7_isRow ∈ UW := uw_s (q := (yX7_isRow, 15)) 34 (by decide +kernel) rfl
theorem us_X7_bears : Cond.selects RX7 yX7_bears yX7_bears ∈ UW := uw_s (q := (yX7_bears, 15)) 35 (by decide +kernel) rfl
theorem us_X7_holds : Cond.selects RX7 yX7_holds yX7_holds ∈ UW := uw_s (q := (yX7_holds, 15)) 36 (by decide +kernel) rfl
theorem us_X7_most : Cond.selects RX7 yX7_most yX7_most ∈ UW := uw_s (q := (yX7_most, 15)) 37 (by decide +kernel) rfl
theorem us_X7_keeps : Cond.selects RX7 yX7_keeps yX7_keeps ∈ UW := uw_s (q := (yX7_keeps, 15)) 38 (by decide +kernel) rfl
theorem us_X7_goesOver : Cond.selects RX7 yX7_goesOver yX7_goesOver ∈ UW := uw_s (q := (yX7_goesOver, 15)) 39 (by decide +kernel) rfl
theorem us_X7_knits : Cond.selects RX7 yX7_knits yX7_knits ∈ UW := uw_s (q := (yX7_knits, 15)) 40 (by decide +kernel) rfl
theorem us_X7_goesAway : Cond.selects RX7 yX7_goesAway yX7_goesAway ∈ UW := uw_s (q := (yX7_goesAway, 15)) 41 (by decide +kernel) rfl
theorem us_X7_ages : Cond.selects RX7 yX7_ages yX7_ages ∈ UW := uw_s (q := (yX7_ages, 15)) 42 (by decide +kernel) rfl
theorem us_X7_thin : Cond.selects RX7 yX7_thin yX7_thin ∈ UW := uw_s (q := (yX7_thin, 15)) 43 (by decide +kernel) rfl
theorem us_X7_remembers : Cond.selects RX7 yX7_remembers yX7_remembers ∈ UW := uw_s (q := (yX7_remembers, 15)) 44 (by decide +kernel) rfl
theorem us_X7_lets : Cond.selects RX7 yX7_lets yX7_lets ∈ UW := uw_s (q := (yX7_lets, 15)) 45 (by decide +kernel) rfl
theorem us_X7_isSo : Cond.selects RX7 yX7_isSo yX7_isSo ∈ UW := uw_s (q := (yX7_isSo, 15)) 46 (by decide +kernel) rfl
theorem uwX0 : ∀ w ∈ u_ws RX0 TX0 4, w ∈ UW := by
  intro w h
  obtain ⟨k, hk, rfl⟩ := List.mem_map.mp h
  have hk := List.mem_range.mp hk
  match k, hk with
  | 0, _ => exact uw_t 129 (by decide +kernel) (by decide +kernel)
  | 1, _ => exact uw_t 131 (by decide +kernel) (by decide +kernel)
  | 2, _ => exact uw_t 133 (by decide +kernel) (by decide +kernel)
  | 3, _ => exact uw_t 135 (by decide +kernel) (by decide +kernel)
  | n + 4, h => exact absurd h (by omega)
theorem uwX1 : ∀ w ∈ u_ws RX1 TX1 3, w ∈ UW := by
  intro w h
  obtain ⟨k, hk, rfl⟩ := List.mem_map.mp h
  have hk := List.mem_range.mp hk
  match k, hk with
  | 0, _ => exact uw_t 92 (by decide +kernel) (by decide +kernel)
  | 1, _ => exact uw_t 94 (by decide +kernel) (by decide +kernel)
  | 2, _ => exact uw_t 96 (by decide +kernel) (by decide +kernel)
  | n + 3, h => exact absurd h (by omega)
theorem uwX2 : ∀ w ∈ u_ws RX2 TX2 3, w ∈ UW := by
  intro w h
  obtain ⟨k, hk, rfl⟩ := List.mem_map.mp h
  have hk := List.mem_range.mp hk
  match k, hk with
  | 0, _ => exact uw_t 110 (by decide +kernel) (by decide +kernel)
  | 1, _ => exact uw_t 112 (by decide +kernel) (by decide +kernel)
  | 2, _ => exact uw_t 114 (by decide +kernel) (by decide +kernel)
  | n + 3, h => exact absurd h (by omega)
theorem uwX3 : ∀ w ∈ u_ws RX3 TX3 6, w ∈ UW := by
  intro w h
  obtain ⟨k, hk, rfl⟩ := List.mem_map.mp h
  have hk := List.mem_range.mp hk
  match k, hk with
  | 0, _ => exact uw_t 75 (by decide +kernel) (by decide +kernel)
  | 1, _ => exact uw_t 77 (by decide +kernel) (by decide +kernel)
  | 2, _ => exact uw_t 79 (by decide +kernel) (by decide +kernel)
  | 3, _ => exact uw_t 81 (by decide +kernel) (by decide +kernel)
  | 4, _ => exact uw_t 83 (by decide +kernel) (by decide +kernel)
  | 5, _ => exact uw_t 85 (by decide +kernel) (by decide +kernel)
  | n + 6, h => exact absurd h (by omega)
theorem uwX4 : ∀ w ∈ u_ws RX4 TX4 6, w ∈ UW := by
  intro w h
  obtain ⟨k, hk, rfl⟩ := List.mem_map.mp h
  have hk := List.mem_range.mp hk
  match k, hk with
  | 0, _ => exact uw_t 32 (by decide +kernel) (by decide +kernel)
  | 1, _ => exact uw_t 34 (by decide +kernel) (by decide +kernel)
  | 2, _ => exact uw_t 36 (by decide +kernel) (by decide +kernel)
  | 3, _ => exact uw_t 38 (by decide +kernel) (by decide +kernel)
  | 4, _ => exact uw_t 40 (by decide +kernel) (by decide +kernel)
  | 5, _ => exact uw_t 42 (by decide +kernel) (by decide +kernel)
  | n + 6, h => exact absurd h (by omega)
theorem uwX5 : ∀ w ∈ u_ws RX5 TX5 9, w ∈ UW := by
  intro w h
  obtain ⟨k, hk, rfl⟩ := List.mem_map.mp h
  have hk := List.mem_range.mp hk
  match k, hk with
  | 0, _ => exact uw_t 170 (by decide +kernel) (by decide +kernel)
  | 1, _ => exact uw_t 172 (by decide +kernel) (by decide +kernel)
  | 2, _ => exact uw_t 174 (by decide +kernel) (by decide +kernel)
  | 3, _ => exact uw_t 176 (by decide +kernel) (by decide +kernel)
  | 4, _ => exact uw_t 178 (by decide +kernel) (by decide +kernel)
  | 5, _ => exact uw_t 180 (by decide +kernel) (by decide +kernel)
  | 6, _ => exact uw_t 182 (by decide +kernel) (by decide +kernel)
  | 7, _ => exact uw_t 184 (by decide +kernel) (by decide +kernel)
  | 8, _ => exact uw_t 186 (by decide +kernel) (by decide +kernel)
  | n + 9, h => exact absurd h (by omega)
theorem uwX6 : ∀ w ∈ u_ws RX6 TX6 9, w ∈ UW := by
  intro w h
  obtain ⟨k, hk, rfl⟩ := List.mem_map.mp h
  have hk := List.mem_range.mp hk
  match k, hk with
  | 0, _ => exact uw_t 198 (by decide +kernel) (by decide +kernel)
  | 1, _ => exact uw_t 200 (by decide +kernel) (by decide +kernel)
  | 2, _ => exact uw_t 202 (by decide +kernel) (by decide +kernel)
  | 3, _ => exact uw_t 204 (by decide +kernel) (by decide +kernel)
  | 4, _ => exact uw_t 206 (by decide +kernel) (by decide +kernel)
  | 5, _ => exact uw_t 208 (by decide +kernel) (by decide +kernel)
  | 6, _ => exact uw_t 210 (by decide +kernel) (by decide +kernel)
  | 7, _ => exact uw_t 212 (by decide +kernel) (by decide +kernel)
  | 8, _ => exact uw_t 214 (by decide +kernel) (by decide +kernel)
  | n + 9, h => exact absurd h (by omega)
theorem uwX7 : ∀ w ∈ u_ws RX7 TX7 15, w ∈ UW := by
  intro w h
  obtain ⟨k, hk, rfl⟩ := List.mem_map.mp h
  have hk := List.mem_range.mp hk
  match k, hk with
  | 0, _ => exact uw_t 691 (by decide +kernel) (by decide +kernel)
  | 1, _ => exact uw_t 693 (by decide +kernel) (by decide +kernel)
  | 2, _ => exact uw_t 695 (by decide +kernel) (by decide +kernel)
  | 3, _ => exact uw_t 697 (by decide +kernel) (by decide +kernel)
  | 4, _ => exact uw_t 699 (by decide +kernel) (by decide +kernel)
  | 5, _ => exact uw_t 701 (by decide +kernel) (by decide +kernel)
  | 6, _ => exact uw_t 703 (by decide +kernel) (by decide +kernel)
  | 7, _ => exact uw_t 705 (by decide +kernel) (by decide +kernel)
  | 8, _ => exact uw_t 707 (by decide +kernel) (by decide +kernel)
  | 9, _ => exact uw_t 709 (by decide +kernel) (by decide +kernel)
  | 10, _ => exact uw_t 711 (by decide +kernel) (by decide +kernel)
  | 11, _ => exact uw_t 713 (by decide +kernel) (by decide +kernel)
  | 12, _ => exact uw_t 715 (by decide +kernel) (by decide +kernel)
  | 13, _ => exact uw_t 717 (by decide +kernel) (by decide +kernel)
  | 14, _ => exact uw_t 719 (by decide +kernel) (by decide +kernel)
  | n + 15, h => exact absurd h (by omega)
/-- the links to private members of nest mates hold -/
def NW (U : State) : Prop := va_Nw (Cond.methodLinkNest RX6 9 yX4_init "WoolBridge") U ∧ va_Nw (Cond.fieldLinkNest RX6 63 "WoolBridge$Text" "size" "I" "WoolBridge") U ∧ va_Nw (Cond.methodLinkNest RX1 17 yX3_init "WoolBridge") U ∧ va_Nw (Cond.fieldLinkNest RX6 147 "WoolBridge$Past" "known" "I" "WoolBridge") U ∧ va_Nw (Cond.methodLinkNest RX6 33 yX2_init "WoolBridge") U ∧ va_Nw (Cond.fieldLinkNest RX6 219 "WoolBridge$Plumbed" "size" "I" "WoolBridge") U ∧ va_Nw (Cond.methodLinkNest RX6 40 yX0_init "WoolBridge") U ∧ va_Nw (Cond.fieldLinkNest RX6 172 "WoolBridge$Ahead" "chosen" "[I" "WoolBridge") U ∧ va_Nw (Cond.methodLinkNest RX6 47 yX5_init "WoolBridge") U ∧ va_Nw (Cond.methodLinkNest RX4 95 yX6_within "WoolBridge") U ∧ va_Nw (Cond.methodLinkNest RX5 41 yX6_within "WoolBridge") U ∧ va_Nw (Cond.methodLinkNest RX3 47 yX6_within "WoolBridge") U ∧ va_Nw (Cond.methodLinkNest RX3 68 yX6_lengthWith "WoolBridge") U ∧ va_Nw (Cond.methodLinkNest RX0 74 yX6_lengthWith "WoolBridge") U
theorem nmX6_9 {U : State} (h : NW U) : va_Nw (Cond.methodLinkNest RX6 9 yX4_init "WoolBridge") U := h.1
theorem nfX6_63 {U : State} (h : NW U) : va_Nw (Cond.fieldLinkNest RX6 63 "WoolBridge$Text" "size" "I" "WoolBridge") U := h.2.1
theorem nmX1_17 {U : State} (h : NW U) : va_Nw (Cond.methodLinkNest RX1 17 yX3_init "WoolBridge") U := h.2.2.1
theorem nfX6_147 {U : State} (h : NW U) : va_Nw (Cond.fieldLinkNest RX6 147 "WoolBridge$Past" "known" "I" "WoolBridge") U := h.2.2.2.1
theorem nmX6_33 {U : State} (h : NW U) : va_Nw (Cond.methodLinkNest RX6 33 yX2_init "WoolBridge") U := h.2.2.2.2.1
theorem nfX6_219 {U : State} (h : NW U) : va_Nw (Cond.fieldLinkNest RX6 219 "WoolBridge$Plumbed" "size" "I" "WoolBridge") U := h.2.2.2.2.2.1
theorem nmX6_40 {U : State} (h : NW U) : va_Nw (Cond.methodLinkNest RX6 40 yX0_init "WoolBridge") U := h.2.2.2.2.2.2.1
theorem nfX6_172 {U : State} (h : NW U) : va_Nw (Cond.fieldLinkNest RX6 172 "WoolBridge$Ahead" "chosen" "[I" "WoolBridge") U := h.2.2.2.2.2.2.2.1
theorem nmX6_47 {U : State} (h : NW U) : va_Nw (Cond.methodLinkNest RX6 47 yX5_init "WoolBridge") U := h.2.2.2.2.2.2.2.2.1
theorem nmX4_95 {U : State} (h : NW U) : va_Nw (Cond.methodLinkNest RX4 95 yX6_within "WoolBridge") U := h.2.2.2.2.2.2.2.2.2.1
theorem nmX5_41 {U : State} (h : NW U) : va_Nw (Cond.methodLinkNest RX5 41 yX6_within "WoolBridge") U := h.2.2.2.2.2.2.2.2.2.2.1
theorem nmX3_47 {U : State} (h : NW U) : va_Nw (Cond.methodLinkNest RX3 47 yX6_within "WoolBridge") U := h.2.2.2.2.2.2.2.2.2.2.2.1
theorem nmX3_68 {U : State} (h : NW U) : va_Nw (Cond.methodLinkNest RX3 68 yX6_lengthWith "WoolBridge") U := h.2.2.2.2.2.2.2.2.2.2.2.2.1
theorem nmX0_74 {U : State} (h : NW U) : va_Nw (Cond.methodLinkNest RX0 74 yX6_lengthWith "WoolBridge") U := h.2.2.2.2.2.2.2.2.2.2.2.2.2
theorem NW.warm {s U : State} (hW : s.WarmedH U.vm) (h : NW s) : NW U := ⟨va_Nw.warmM hW (nmX6_9 h), va_Nw.warmF hW (nfX6_63 h), va_Nw.warmM hW (nmX1_17 h), va_Nw.warmF hW (nfX6_147 h), va_Nw.warmM hW (nmX6_33 h), va_Nw.warmF hW (nfX6_219 h), va_Nw.warmM hW (nmX6_40 h), va_Nw.warmF hW (nfX6_172 h), va_Nw.warmM hW (nmX6_47 h), va_Nw.warmM hW (nmX4_95 h), va_Nw.warmM hW (nmX5_41 h), va_Nw.warmM hW (nmX3_47 h), va_Nw.warmM hW (nmX3_68 h), va_Nw.warmM hW (nmX0_74 h)⟩
theorem NW.same {u U : State} (e : u.vm = U.vm) (h : NW u) : NW U := ⟨va_Nw.same rfl e (nmX6_9 h), va_Nw.same rfl e (nfX6_63 h), va_Nw.same rfl e (nmX1_17 h), va_Nw.same rfl e (nfX6_147 h), va_Nw.same rfl e (nmX6_33 h), va_Nw.same rfl e (nfX6_219 h), va_Nw.same rfl e (nmX6_40 h), va_Nw.same rfl e (nfX6_172 h), va_Nw.same rfl e (nmX6_47 h), va_Nw.same rfl e (nmX4_95 h), va_Nw.same rfl e (nmX5_41 h), va_Nw.same rfl e (nmX3_47 h), va_Nw.same rfl e (nmX3_68 h), va_Nw.same rfl e (nmX0_74 h)⟩
theorem NW.of {A : Array Value} {U : State} (h : ∀ w ∈ lw_tbl, w.before A U = true) : NW U := ⟨va_Nw.of rfl (h _ (List.mem_append_right _ (List.mem_of_getElem? (i := 21) (by decide +kernel)))), va_Nw.of rfl (h _ (List.mem_append_right _ (List.mem_of_getElem? (i := 27) (by decide +kernel)))), va_Nw.of rfl (h _ (List.mem_append_right _ (List.mem_of_getElem? (i := 55) (by decide +kernel)))), va_Nw.of rfl (h _ (List.mem_append_right _ (List.mem_of_getElem? (i := 91) (by decide +kernel)))), va_Nw.of rfl (h _ (List.mem_append_right _ (List.mem_of_getElem? (i := 102) (by decide +kernel)))), va_Nw.of rfl (h _ (List.mem_append_right _ (List.mem_of_getElem? (i := 109) (by decide +kernel)))), va_Nw.of rfl (h _ (List.mem_append_right _ (List.mem_of_getElem? (i := 120) (by decide +kernel)))), va_Nw.of rfl (h _ (List.mem_append_right _ (List.mem_of_getElem? (i := 126) (by decide +kernel)))), va_Nw.of rfl (h _ (List.mem_append_right _ (List.mem_of_getElem? (i := 140) (by decide +kernel)))), va_Nw.of rfl (h _ (List.mem_append_right _ (List.mem_of_getElem? (i := 271) (by decide +kernel)))), va_Nw.of rfl (h _ (List.mem_append_right _ (List.mem_of_getElem? (i := 334) (by decide +kernel)))), va_Nw.of rfl (h _ (List.mem_append_right _ (List.mem_of_getElem? (i := 352) (by decide +kernel)))), va_Nw.of rfl (h _ (List.mem_append_right _ (List.mem_of_getElem? (i := 381) (by decide +kernel)))), va_Nw.of rfl (h _ (List.mem_append_right _ (List.mem_of_getElem? (i := 490) (by decide +kernel))))⟩
