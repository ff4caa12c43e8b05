set_option maxRecDepth 100000 in
theorem jw_0 : Cond.initialized RL ∈ jtw := jin 57 (by decide +kernel) rfl
set_option maxRecDepth 100000 in
theorem jw_1 : Cond.initialized RX6 ∈ jtw := jin 58 (by decide +kernel) rfl
set_option maxRecDepth 100000 in
theorem jw_2 : Cond.initialized RX2 ∈ jtw := jin 59 (by decide +kernel) rfl
set_option maxRecDepth 100000 in
theorem jw_3 : Cond.initialized RX0 ∈ jtw := jin 60 (by decide +kernel) rfl
set_option maxRecDepth 100000 in
theorem jw_4 : Cond.initialized RX3 ∈ jtw := jin 61 (by decide +kernel) rfl
set_option maxRecDepth 100000 in
theorem jw_5 : Cond.initialized RX1 ∈ jtw := jin 62 (by decide +kernel) rfl
set_option maxRecDepth 100000 in
theorem jw_6 : Cond.initialized RX4 ∈ jtw := jin 63 (by decide +kernel) rfl
set_option maxRecDepth 100000 in
theorem jw_7 : Cond.initialized RX5 ∈ jtw := jin 64 (by decide +kernel) rfl
set_option maxRecDepth 100000 in
theorem jw_8 : Cond.initialized RX7 ∈ jtw := jin 65 (by decide +kernel) rfl
set_option maxRecDepth 100000 in
theorem jw_9 : Cond.initialized RJ9 ∈ jtw := jin 66 (by decide +kernel) rfl
set_option maxRecDepth 100000 in
theorem jw_10 : Cond.initialized RJxf58ca ∈ jtw := jin 67 (by decide +kernel) rfl
set_option maxRecDepth 100000 in
theorem jw_11 : Cond.classLink RL 7 RX6 ∈ jtw := jin 68 (by decide +kernel) rfl
set_option maxRecDepth 100000 in
theorem jw_12 : Cond.instantiable RX6 5 ∈ jtw := jin 69 (by decide +kernel) rfl
set_option maxRecDepth 100000 in
theorem jw_13 : Cond.methodLink RL 9 yX6_init ∈ jtw := jin 70 (by decide +kernel) rfl
set_option maxRecDepth 100000 in
theorem jw_14 : Cond.instanceMethod yX6_init ∈ jtw := jin 71 (by decide +kernel) rfl
set_option maxRecDepth 100000 in
theorem jw_15 : Cond.code yX6_init cX6_init 1 none ∈ jtw := jin 72 rfl rfl
set_option maxRecDepth 100000 in
theorem jw_16 : Cond.methodLink RX6 1 objectInit ∈ jtw := jin 73 (by decide +kernel) rfl
set_option maxRecDepth 100000 in
theorem jw_17 : Cond.instanceMethod objectInit ∈ jtw := jin 74 (by decide +kernel) rfl
set_option maxRecDepth 100000 in
theorem jw_19 : Cond.classLink RX6 7 RX2 ∈ jtw := jin 76 (by decide +kernel) rfl
set_option maxRecDepth 100000 in
theorem jw_20 : Cond.instantiable RX2 9 ∈ jtw := jin 77 (by decide +kernel) rfl
set_option maxRecDepth 100000 in
theorem jw_21 : Cond.methodLink RX6 9 yX2_init ∈ jtw := jin 78 (by decide +kernel) rfl
set_option maxRecDepth 100000 in
theorem jw_22 : Cond.instanceMethod yX2_init ∈ jtw := jin 79 (by decide +kernel) rfl
set_option maxRecDepth 100000 in
theorem jw_23 : Cond.code yX2_init cX2_init 2 none ∈ jtw := jin 80 rfl rfl
set_option maxRecDepth 100000 in
theorem jw_24 : Cond.methodLink RX2 3 objectInit ∈ jtw := jin 81 (by decide +kernel) rfl
set_option maxRecDepth 100000 in
theorem jw_25 : Cond.classLink RX2 9 RX0 ∈ jtw := jin 82 (by decide +kernel) rfl
set_option maxRecDepth 100000 in
theorem jw_27 : Cond.classLink RX2 17 RX3 ∈ jtw := jin 84 (by decide +kernel) rfl
set_option maxRecDepth 100000 in
theorem jw_29 : Cond.instantiable RX0 14 ∈ jtw := jin 86 (by decide +kernel) rfl
set_option maxRecDepth 100000 in
theorem jw_31 : Cond.instanceMethod yX0_init ∈ jtw := jin 88 (by decide +kernel) rfl
set_option maxRecDepth 100000 in
theorem jw_32 : Cond.code yX0_init cX0_init 1 none ∈ jtw := jin 89 rfl rfl
set_option maxRecDepth 100000 in
theorem jw_33 : Cond.methodLink RX0 3 objectInit ∈ jtw := jin 90 (by decide +kernel) rfl
set_option maxRecDepth 100000 in
theorem jw_34 : Cond.fieldLink RX0 9 "BoilerPapers$Boiler" "builtFor" "I" ∈ jtw := jin 91 (by decide +kernel) rfl
set_option maxRecDepth 100000 in
theorem jw_36 : Cond.fieldLink RX0 15 "BoilerPapers$Boiler" "working" "I" ∈ jtw := jin 93 (by decide +kernel) rfl
set_option maxRecDepth 100000 in
theorem jw_38 : Cond.fieldLink RX0 18 "BoilerPapers$Boiler" "wear" "I" ∈ jtw := jin 95 (by decide +kernel) rfl
set_option maxRecDepth 100000 in
theorem jw_40 : Cond.fieldLink RX0 21 "BoilerPapers$Boiler" "condition" "I" ∈ jtw := jin 97 (by decide +kernel) rfl
set_option maxRecDepth 100000 in
theorem jw_42 : Cond.fieldLink RX0 24 "BoilerPapers$Boiler" "coldWeeks" "I" ∈ jtw := jin 99 (by decide +kernel) rfl
set_option maxRecDepth 100000 in
theorem jw_43 : Cond.fieldLink RX0 27 "BoilerPapers$Boiler" "repairEnd" "I" ∈ jtw := jin 100 (by decide +kernel) rfl
set_option maxRecDepth 100000 in
theorem jw_45 : Cond.fieldLink RX0 30 "BoilerPapers$Boiler" "repairAsked" "Z" ∈ jtw := jin 102 (by decide +kernel) rfl
set_option maxRecDepth 100000 in
theorem jw_47 : Cond.fieldLink RX0 34 "BoilerPapers$Boiler" "paperGiven" "Z" ∈ jtw := jin 104 (by decide +kernel) rfl
set_option maxRecDepth 100000 in
theorem jw_49 : Cond.fieldLink RX0 40 "BoilerPapers$Boiler" "paperInsurer" "I" ∈ jtw := jin 106 (by decide +kernel) rfl
set_option maxRecDepth 100000 in
theorem jw_50 : Cond.fieldLink RX0 43 "BoilerPapers$Boiler" "paperPressure" "I" ∈ jtw := jin 107 (by decide +kernel) rfl
set_option maxRecDepth 100000 in
theorem jw_52 : Cond.fieldLink RX0 46 "BoilerPapers$Boiler" "paperLast" "I" ∈ jtw := jin 109 (by decide +kernel) rfl
set_option maxRecDepth 100000 in
theorem jw_54 : Cond.fieldLink RX0 37 "BoilerPapers$Boiler" "shutPlanned" "Z" ∈ jtw := jin 111 (by decide +kernel) rfl
set_option maxRecDepth 100000 in
theorem jw_56 : Cond.fieldLink RX0 49 "BoilerPapers$Boiler" "shutFrom" "I" ∈ jtw := jin 113 (by decide +kernel) rfl
set_option maxRecDepth 100000 in
theorem jw_58 : Cond.fieldLink RX0 52 "BoilerPapers$Boiler" "shutLast" "I" ∈ jtw := jin 115 (by decide +kernel) rfl
set_option maxRecDepth 100000 in
theorem jw_60 : Cond.lays RX0 "BoilerPapers$Boiler" "builtFor" "I" ∈ jtw := jin 117 (by decide +kernel) rfl
set_option maxRecDepth 100000 in
theorem jw_62 : Cond.lays RX0 "BoilerPapers$Boiler" "working" "I" ∈ jtw := jin 119 (by decide +kernel) rfl
set_option maxRecDepth 100000 in
theorem jw_64 : Cond.lays RX0 "BoilerPapers$Boiler" "wear" "I" ∈ jtw := jin 121 (by decide +kernel) rfl
set_option maxRecDepth 100000 in
theorem jw_66 : Cond.lays RX0 "BoilerPapers$Boiler" "condition" "I" ∈ jtw := jin 123 (by decide +kernel) rfl
set_option maxRecDepth 100000 in
theorem jw_68 : Cond.lays RX0 "BoilerPapers$Boiler" "coldWeeks" "I" ∈ jtw := jin 125 (by decide +kernel) rfl
set_option maxRecDepth 100000 in
theorem jw_70 : Cond.lays RX0 "BoilerPapers$Boiler" "repairEnd" "I" ∈ jtw := jin 127 (by decide +kernel) rfl
set_option maxRecDepth 100000 in
theorem jw_72 : Cond.lays RX0 "BoilerPapers$Boiler" "repairAsked" "Z" ∈ jtw := jin 129 (by decide +kernel) rfl
set_option maxRecDepth 100000 in
theorem jw_74 : Cond.lays RX0 "BoilerPapers$Boiler" "paperGiven" "Z" ∈ jtw := jin 131 (by decide +kernel) rfl
set_option maxRecDepth 100000 in
theorem jw_76 : Cond.lays RX0 "BoilerPapers$Boiler" "paperInsurer" "I" ∈ jtw := jin 133 (by decide +kernel) rfl
set_option maxRecDepth 100000 in
theorem jw_78 : Cond.lays RX0 "BoilerPapers$Boiler" "paperPressure" "I" ∈ jtw := jin 135 (by decide +kernel) rfl
set_option maxRecDepth 100000 in
theorem jw_80 : Cond.lays RX0 "BoilerPapers$Boiler" "paperLast" "I" ∈ jtw := jin 137 (by decide +kernel) rfl
set_option maxRecDepth 100000 in
theorem jw_82 : Cond.lays RX0 "BoilerPapers$Boiler" "shutPlanned" "Z" ∈ jtw := jin 139 (by decide +kernel) rfl
set_option maxRecDepth 100000 in
theorem jw_84 : Cond.lays RX0 "BoilerPapers$Boiler" "shutFrom" "I" ∈ jtw := jin 141 (by decide +kernel) rfl
set_option maxRecDepth 100000 in
theorem jw_86 : Cond.lays RX0 "BoilerPapers$Boiler" "shutLast" "I" ∈ jtw := jin 143 (by decide +kernel) rfl
set_option maxRecDepth 100000 in
theorem jw_89 : Cond.arrayClass .int ∈ jtw := jin 146 (by decide +kernel) rfl
set_option maxRecDepth 100000 in
theorem jw_90 : Cond.instantiable RX3 5 ∈ jtw := jin 147 (by decide +kernel) rfl
set_option maxRecDepth 100000 in
theorem jw_92 : Cond.instanceMethod yX3_init ∈ jtw := jin 149 (by decide +kernel) rfl
set_option maxRecDepth 100000 in
theorem jw_93 : Cond.code yX3_init cX3_init 1 none ∈ jtw := jin 150 rfl rfl
set_option maxRecDepth 100000 in
theorem jw_94 : Cond.methodLink RX3 3 objectInit ∈ jtw := jin 151 (by decide +kernel) rfl
set_option maxRecDepth 100000 in
theorem jw_95 : Cond.fieldLink RX3 9 "BoilerPapers$Inspector" "insurer" "I" ∈ jtw := jin 152 (by decide +kernel) rfl
set_option maxRecDepth 100000 in
theorem jw_97 : Cond.fieldLink RX3 15 "BoilerPapers$Inspector" "inWeek" "I" ∈ jtw := jin 154 (by decide +kernel) rfl
set_option maxRecDepth 100000 in
theorem jw_98 : Cond.fieldLink RX3 18 "BoilerPapers$Inspector" "doneThisWeek" "I" ∈ jtw := jin 155 (by decide +kernel) rfl
set_option maxRecDepth 100000 in
theorem jw_99 : Cond.fieldLink RX3 21 "BoilerPapers$Inspector" "inspections" "I" ∈ jtw := jin 156 (by decide +kernel) rfl
set_option maxRecDepth 100000 in
theorem jw_100 : Cond.fieldLink RX3 24 "BoilerPapers$Inspector" "papers" "I" ∈ jtw := jin 157 (by decide +kernel) rfl
set_option maxRecDepth 100000 in
theorem jw_101 : Cond.lays RX3 "BoilerPapers$Inspector" "insurer" "I" ∈ jtw := jin 158 (by decide +kernel) rfl
set_option maxRecDepth 100000 in
theorem jw_103 : Cond.lays RX3 "BoilerPapers$Inspector" "inWeek" "I" ∈ jtw := jin 160 (by decide +kernel) rfl
set_option maxRecDepth 100000 in
theorem jw_105 : Cond.lays RX3 "BoilerPapers$Inspector" "doneThisWeek" "I" ∈ jtw := jin 162 (by decide +kernel) rfl
set_option maxRecDepth 100000 in
theorem jw_107 : Cond.lays RX3 "BoilerPapers$Inspector" "inspections" "I" ∈ jtw := jin 164 (by decide +kernel) rfl
set_option maxRecDepth 100000 in
theorem jw_109 : Cond.lays RX3 "BoilerPapers$Inspector" "papers" "I" ∈ jtw := jin 166 (by decide +kernel) rfl
set_option maxRecDepth 100000 in
theorem jw_112 : Cond.fieldLink RX2 11 "BoilerPapers$House" "boilers" "[LBoilerPapers$Boiler;" ∈ jtw := jin 169 (by decide +kernel) rfl
set_option maxRecDepth 100000 in
theorem jw_113 : Cond.fieldLink RX2 19 "BoilerPapers$House" "inspectors" "[LBoilerPapers$Inspector;" ∈ jtw := jin 170 (by decide +kernel) rfl
set_option maxRecDepth 100000 in
theorem jw_114 : Cond.fieldLink RX2 23 "BoilerPapers$House" "settings" "[I" ∈ jtw := jin 171 (by decide +kernel) rfl
set_option maxRecDepth 100000 in
theorem jw_115 : Cond.fieldLink RX2 27 "BoilerPapers$House" "accounts" "[I" ∈ jtw := jin 172 (by decide +kernel) rfl
set_option maxRecDepth 100000 in
theorem jw_116 : Cond.fieldLink RX2 32 "BoilerPapers$House" "boilerCount" "I" ∈ jtw := jin 173 (by decide +kernel) rfl
set_option maxRecDepth 100000 in
theorem jw_117 : Cond.fieldLink RX2 36 "BoilerPapers$House" "inspectorCount" "I" ∈ jtw := jin 174 (by decide +kernel) rfl
set_option maxRecDepth 100000 in
theorem jw_118 : Cond.fieldLink RX2 39 "BoilerPapers$House" "week" "I" ∈ jtw := jin 175 (by decide +kernel) rfl
set_option maxRecDepth 100000 in
theorem jw_119 : Cond.fieldLink RX2 42 "BoilerPapers$House" "putOutByWeeks" "I" ∈ jtw := jin 176 (by decide +kernel) rfl
set_option maxRecDepth 100000 in
theorem jw_120 : Cond.fieldLink RX2 45 "BoilerPapers$House" "repairWeeksPaid" "I" ∈ jtw := jin 177 (by decide +kernel) rfl
set_option maxRecDepth 100000 in
theorem jw_121 : Cond.laysFinal RX2 "BoilerPapers$House" "boilers" "[LBoilerPapers$Boiler;" ∈ jtw := jin 178 (by decide +kernel) rfl
set_option maxRecDepth 100000 in
theorem jw_123 : Cond.laysFinal RX2 "BoilerPapers$House" "inspectors" "[LBoilerPapers$Inspector;" ∈ jtw := jin 180 (by decide +kernel) rfl
set_option maxRecDepth 100000 in
theorem jw_125 : Cond.laysFinal RX2 "BoilerPapers$House" "settings" "[I" ∈ jtw := jin 182 (by decide +kernel) rfl
set_option maxRecDepth 100000 in
theorem jw_127 : Cond.laysFinal RX2 "BoilerPapers$House" "accounts" "[I" ∈ jtw := jin 184 (by decide +kernel) rfl
set_option maxRecDepth 100000 in
theorem jw_129 : Cond.lays RX2 "BoilerPapers$House" "boilerCount" "I" ∈ jtw := jin 186 (by decide +kernel) rfl
set_option maxRecDepth 100000 in
theorem jw_131 : Cond.lays RX2 "BoilerPapers$House" "inspectorCount" "I" ∈ jtw := jin 188 (by decide +kernel) rfl
set_option maxRecDepth 100000 in
theorem jw_133 : Cond.lays RX2 "BoilerPapers$House" "week" "I" ∈ jtw := jin 190 (by decide +kernel) rfl
set_option maxRecDepth 100000 in
theorem jw_135 : Cond.lays RX2 "BoilerPapers$House" "putOutByWeeks" "I" ∈ jtw := jin 192 (by decide +kernel) rfl
set_option maxRecDepth 100000 in
theorem jw_137 : Cond.lays RX2 "BoilerPapers$House" "repairWeeksPaid" "I" ∈ jtw := jin 194 (by decide +kernel) rfl
set_option maxRecDepth 100000 in
theorem jw_140 : Cond.classLink RX6 19 RX1 ∈ jtw := jin 197 (by decide +kernel) rfl
set_option maxRecDepth 100000 in
theorem jw_141 : Cond.instantiable RX1 3 ∈ jtw := jin 198 (by decide +kernel) rfl
set_option maxRecDepth 100000 in
theorem jw_142 : Cond.methodLink RX6 21 yX1_init ∈ jtw := jin 199 (by decide +kernel) rfl
set_option maxRecDepth 100000 in
theorem jw_143 : Cond.instanceMethod yX1_init ∈ jtw := jin 200 (by decide +kernel) rfl
set_option maxRecDepth 100000 in
theorem jw_144 : Cond.code yX1_init cX1_init 2 none ∈ jtw := jin 201 rfl rfl
set_option maxRecDepth 100000 in
theorem jw_145 : Cond.methodLink RX1 3 objectInit ∈ jtw := jin 202 (by decide +kernel) rfl
set_option maxRecDepth 100000 in
theorem jw_146 : Cond.classLink RX1 9 RX2 ∈ jtw := jin 203 (by decide +kernel) rfl
set_option maxRecDepth 100000 in
theorem jw_148 : Cond.methodLink RX1 17 yX2_init ∈ jtw := jin 205 (by decide +kernel) rfl
set_option maxRecDepth 100000 in
theorem jw_149 : Cond.fieldLink RX1 11 "BoilerPapers$History" "states" "[LBoilerPapers$House;" ∈ jtw := jin 206 (by decide +kernel) rfl
set_option maxRecDepth 100000 in
theorem jw_150 : Cond.fieldLink RX1 18 "BoilerPapers$History" "size" "I" ∈ jtw := jin 207 (by decide +kernel) rfl
set_option maxRecDepth 100000 in
theorem jw_151 : Cond.fieldLink RX1 22 "BoilerPapers$History" "next" "I" ∈ jtw := jin 208 (by decide +kernel) rfl
set_option maxRecDepth 100000 in
theorem jw_152 : Cond.laysFinal RX1 "BoilerPapers$History" "states" "[LBoilerPapers$House;" ∈ jtw := jin 209 (by decide +kernel) rfl
set_option maxRecDepth 100000 in
theorem jw_154 : Cond.lays RX1 "BoilerPapers$History" "size" "I" ∈ jtw := jin 211 (by decide +kernel) rfl
set_option maxRecDepth 100000 in
theorem jw_156 : Cond.lays RX1 "BoilerPapers$History" "next" "I" ∈ jtw := jin 213 (by decide +kernel) rfl
set_option maxRecDepth 100000 in
theorem jw_159 : Cond.classLink RX6 26 RX4 ∈ jtw := jin 216 (by decide +kernel) rfl
set_option maxRecDepth 100000 in
theorem jw_160 : Cond.instantiable RX4 7 ∈ jtw := jin 217 (by decide +kernel) rfl
set_option maxRecDepth 100000 in
theorem jw_162 : Cond.instanceMethod yX4_init ∈ jtw := jin 219 (by decide +kernel) rfl
set_option maxRecDepth 100000 in
theorem jw_163 : Cond.code yX4_init cX4_init 1 none ∈ jtw := jin 220 rfl rfl
set_option maxRecDepth 100000 in
theorem jw_164 : Cond.methodLink RX4 3 objectInit ∈ jtw := jin 221 (by decide +kernel) rfl
set_option maxRecDepth 100000 in
theorem jw_165 : Cond.fieldLink RX4 9 "BoilerPapers$OrderText" "signs" "[C" ∈ jtw := jin 222 (by decide +kernel) rfl
set_option maxRecDepth 100000 in
theorem jw_166 : Cond.fieldLink RX4 15 "BoilerPapers$OrderText" "length" "I" ∈ jtw := jin 223 (by decide +kernel) rfl
set_option maxRecDepth 100000 in
theorem jw_168 : Cond.fieldLink RX4 24 "BoilerPapers$OrderText" "start" "I" ∈ jtw := jin 225 (by decide +kernel) rfl
set_option maxRecDepth 100000 in
theorem jw_169 : Cond.fieldLink RX4 21 "BoilerPapers$OrderText" "place" "I" ∈ jtw := jin 226 (by decide +kernel) rfl
set_option maxRecDepth 100000 in
theorem jw_171 : Cond.fieldLink RX4 41 "BoilerPapers$OrderText" "kind" "C" ∈ jtw := jin 228 (by decide +kernel) rfl
set_option maxRecDepth 100000 in
theorem jw_173 : Cond.fieldLink RX4 35 "BoilerPapers$OrderText" "one" "I" ∈ jtw := jin 230 (by decide +kernel) rfl
set_option maxRecDepth 100000 in
theorem jw_175 : Cond.fieldLink RX4 38 "BoilerPapers$OrderText" "other" "I" ∈ jtw := jin 232 (by decide +kernel) rfl
set_option maxRecDepth 100000 in
theorem jw_176 : Cond.laysFinal RX4 "BoilerPapers$OrderText" "signs" "[C" ∈ jtw := jin 233 (by decide +kernel) rfl
set_option maxRecDepth 100000 in
theorem jw_178 : Cond.lays RX4 "BoilerPapers$OrderText" "length" "I" ∈ jtw := jin 235 (by decide +kernel) rfl
set_option maxRecDepth 100000 in
theorem jw_180 : Cond.lays RX4 "BoilerPapers$OrderText" "start" "I" ∈ jtw := jin 237 (by decide +kernel) rfl
set_option maxRecDepth 100000 in
theorem jw_182 : Cond.lays RX4 "BoilerPapers$OrderText" "place" "I" ∈ jtw := jin 239 (by decide +kernel) rfl
set_option maxRecDepth 100000 in
theorem jw_184 : Cond.lays RX4 "BoilerPapers$OrderText" "kind" "C" ∈ jtw := jin 241 (by decide +kernel) rfl
set_option maxRecDepth 100000 in
theorem jw_186 : Cond.lays RX4 "BoilerPapers$OrderText" "one" "I" ∈ jtw := jin 243 (by decide +kernel) rfl
set_option maxRecDepth 100000 in
theorem jw_188 : Cond.lays RX4 "BoilerPapers$OrderText" "other" "I" ∈ jtw := jin 245 (by decide +kernel) rfl
set_option maxRecDepth 100000 in
theorem jw_191 : Cond.arrayClass .char ∈ jtw := jin 248 (by decide +kernel) rfl
set_option maxRecDepth 100000 in
theorem jw_192 : Cond.classLink RX6 33 RX5 ∈ jtw := jin 249 (by decide +kernel) rfl
set_option maxRecDepth 100000 in
theorem jw_193 : Cond.instantiable RX5 4 ∈ jtw := jin 250 (by decide +kernel) rfl
set_option maxRecDepth 100000 in
theorem jw_195 : Cond.instanceMethod yX5_init ∈ jtw := jin 252 (by decide +kernel) rfl
set_option maxRecDepth 100000 in
theorem jw_196 : Cond.code yX5_init cX5_init 1 none ∈ jtw := jin 253 rfl rfl
set_option maxRecDepth 100000 in
theorem jw_197 : Cond.methodLink RX5 3 objectInit ∈ jtw := jin 254 (by decide +kernel) rfl
set_option maxRecDepth 100000 in
theorem jw_198 : Cond.fieldLink RX5 9 "BoilerPapers$Rehearsal" "orders" "I" ∈ jtw := jin 255 (by decide +kernel) rfl
set_option maxRecDepth 100000 in
theorem jw_199 : Cond.fieldLink RX5 65 "BoilerPapers$Rehearsal" "position" "I" ∈ jtw := jin 256 (by decide +kernel) rfl
set_option maxRecDepth 100000 in
theorem jw_200 : Cond.fieldLink RX5 15 "BoilerPapers$Rehearsal" "reason" "I" ∈ jtw := jin 257 (by decide +kernel) rfl
set_option maxRecDepth 100000 in
theorem jw_201 : Cond.fieldLink RX5 68 "BoilerPapers$Rehearsal" "cause" "I" ∈ jtw := jin 258 (by decide +kernel) rfl
set_option maxRecDepth 100000 in
theorem jw_202 : Cond.lays RX5 "BoilerPapers$Rehearsal" "orders" "I" ∈ jtw := jin 259 (by decide +kernel) rfl
set_option maxRecDepth 100000 in
theorem jw_204 : Cond.lays RX5 "BoilerPapers$Rehearsal" "position" "I" ∈ jtw := jin 261 (by decide +kernel) rfl
set_option maxRecDepth 100000 in
theorem jw_206 : Cond.lays RX5 "BoilerPapers$Rehearsal" "reason" "I" ∈ jtw := jin 263 (by decide +kernel) rfl
set_option maxRecDepth 100000 in
theorem jw_208 : Cond.lays RX5 "BoilerPapers$Rehearsal" "cause" "I" ∈ jtw := jin 265 (by decide +kernel) rfl
set_option maxRecDepth 100000 in
theorem jw_211 : Cond.fieldLink RX6 10 "BoilerPapers" "now" "LBoilerPapers$House;" ∈ jtw := jin 268 (by decide +kernel) rfl
set_option maxRecDepth 100000 in
theorem jw_212 : Cond.fieldLink RX6 16 "BoilerPapers" "trial" "LBoilerPapers$House;" ∈ jtw := jin 269 (by decide +kernel) rfl
set_option maxRecDepth 100000 in
theorem jw_213 : Cond.fieldLink RX6 22 "BoilerPapers" "history" "LBoilerPapers$History;" ∈ jtw := jin 270 (by decide +kernel) rfl
set_option maxRecDepth 100000 in
theorem jw_214 : Cond.fieldLink RX6 29 "BoilerPapers" "text" "LBoilerPapers$OrderText;" ∈ jtw := jin 271 (by decide +kernel) rfl
set_option maxRecDepth 100000 in
theorem jw_215 : Cond.fieldLink RX6 36 "BoilerPapers" "rehearsal" "LBoilerPapers$Rehearsal;" ∈ jtw := jin 272 (by decide +kernel) rfl
set_option maxRecDepth 100000 in
theorem jw_216 : Cond.laysFinal RX6 "BoilerPapers" "now" "LBoilerPapers$House;" ∈ jtw := jin 273 (by decide +kernel) rfl
set_option maxRecDepth 100000 in
theorem jw_218 : Cond.laysFinal RX6 "BoilerPapers" "trial" "LBoilerPapers$House;" ∈ jtw := jin 275 (by decide +kernel) rfl
set_option maxRecDepth 100000 in
theorem jw_220 : Cond.laysFinal RX6 "BoilerPapers" "history" "LBoilerPapers$History;" ∈ jtw := jin 277 (by decide +kernel) rfl
set_option maxRecDepth 100000 in
theorem jw_222 : Cond.laysFinal RX6 "BoilerPapers" "text" "LBoilerPapers$OrderText;" ∈ jtw := jin 279 (by decide +kernel) rfl
set_option maxRecDepth 100000 in
theorem jw_224 : Cond.laysFinal RX6 "BoilerPapers" "rehearsal" "LBoilerPapers$Rehearsal;" ∈ jtw := jin 281 (by decide +kernel) rfl
set_option maxRecDepth 100000 in
theorem jw_227 : Cond.methodLink RL 13 yX6_boiler ∈ jtw := jin 284 (by decide +kernel) rfl
set_option maxRecDepth 100000 in
theorem jw_228 : Cond.instanceMethod yX6_boiler ∈ jtw := jin 285 (by decide +kernel) rfl
set_option maxRecDepth 100000 in
theorem jw_229 : Cond.selects RX6 yX6_boiler yX6_boiler ∈ jtw := jin 286 (by decide +kernel) rfl
set_option maxRecDepth 100000 in
theorem jw_230 : Cond.code yX6_boiler cX6_boiler 2 (some .int) ∈ jtw := jin 287 rfl rfl
set_option maxRecDepth 100000 in
theorem jw_231 : Cond.methodLink RX6 40 yX6_trialOfNow ∈ jtw := jin 288 (by decide +kernel) rfl
set_option maxRecDepth 100000 in
theorem jw_233 : Cond.instanceMethod yX6_trialOfNow ∈ jtw := jin 290 (by decide +kernel) rfl
set_option maxRecDepth 100000 in
theorem jw_234 : Cond.code yX6_trialOfNow cX6_trialOfNow 1 (some (.object "BoilerPapers$House")) ∈ jtw := jin 291 rfl rfl
set_option maxRecDepth 100000 in
theorem jw_235 : Cond.methodLink RX6 144 yX2_copyFrom ∈ jtw := jin 292 (by decide +kernel) rfl
set_option maxRecDepth 100000 in
theorem jw_236 : Cond.instanceMethod yX2_copyFrom ∈ jtw := jin 293 (by decide +kernel) rfl
set_option maxRecDepth 100000 in
theorem jw_237 : Cond.selects RX2 yX2_copyFrom yX2_copyFrom ∈ jtw := jin 294 (by decide +kernel) rfl
set_option maxRecDepth 100000 in
theorem jw_238 : Cond.code yX2_copyFrom cX2_copyFrom 5 none ∈ jtw := jin 295 rfl rfl
set_option maxRecDepth 100000 in
theorem jw_239 : Cond.methodLink RX2 48 yX2_copyNumbers ∈ jtw := jin 296 (by decide +kernel) rfl
set_option maxRecDepth 100000 in
theorem jw_240 : Cond.static yX2_copyNumbers ∈ jtw := jin 297 (by decide +kernel) rfl
set_option maxRecDepth 100000 in
theorem jw_241 : Cond.code yX2_copyNumbers cX2_copyNumbers 3 none ∈ jtw := jin 298 rfl rfl
set_option maxRecDepth 100000 in
theorem jw_242 : Cond.methodLink RX2 52 yX2_boilerAt ∈ jtw := jin 299 (by decide +kernel) rfl
set_option maxRecDepth 100000 in
theorem jw_244 : Cond.instanceMethod yX2_boilerAt ∈ jtw := jin 301 (by decide +kernel) rfl
set_option maxRecDepth 100000 in
theorem jw_245 : Cond.code yX2_boilerAt cX2_boilerAt 3 (some (.object "BoilerPapers$Boiler")) ∈ jtw := jin 302 rfl rfl
set_option maxRecDepth 100000 in
theorem jw_246 : Cond.methodLink RX2 56 yX0_copyFrom ∈ jtw := jin 303 (by decide +kernel) rfl
set_option maxRecDepth 100000 in
theorem jw_247 : Cond.instanceMethod yX0_copyFrom ∈ jtw := jin 304 (by decide +kernel) rfl
set_option maxRecDepth 100000 in
theorem jw_248 : Cond.selects RX0 yX0_copyFrom yX0_copyFrom ∈ jtw := jin 305 (by decide +kernel) rfl
set_option maxRecDepth 100000 in
theorem jw_249 : Cond.code yX0_copyFrom cX0_copyFrom 2 none ∈ jtw := jin 306 rfl rfl
set_option maxRecDepth 100000 in
theorem jw_250 : Cond.methodLink RX2 60 yX2_inspectorAt ∈ jtw := jin 307 (by decide +kernel) rfl
set_option maxRecDepth 100000 in
theorem jw_252 : Cond.instanceMethod yX2_inspectorAt ∈ jtw := jin 309 (by decide +kernel) rfl
set_option maxRecDepth 100000 in
theorem jw_253 : Cond.code yX2_inspectorAt cX2_inspectorAt 3 (some (.object "BoilerPapers$Inspector")) ∈ jtw := jin 310 rfl rfl
set_option maxRecDepth 100000 in
theorem jw_254 : Cond.methodLink RX2 64 yX3_copyFrom ∈ jtw := jin 311 (by decide +kernel) rfl
set_option maxRecDepth 100000 in
theorem jw_255 : Cond.instanceMethod yX3_copyFrom ∈ jtw := jin 312 (by decide +kernel) rfl
set_option maxRecDepth 100000 in
theorem jw_256 : Cond.selects RX3 yX3_copyFrom yX3_copyFrom ∈ jtw := jin 313 (by decide +kernel) rfl
set_option maxRecDepth 100000 in
theorem jw_257 : Cond.code yX3_copyFrom cX3_copyFrom 2 none ∈ jtw := jin 314 rfl rfl
set_option maxRecDepth 100000 in
theorem jw_258 : Cond.methodLink RX6 44 yX2_addBoiler ∈ jtw := jin 315 (by decide +kernel) rfl
set_option maxRecDepth 100000 in
theorem jw_259 : Cond.instanceMethod yX2_addBoiler ∈ jtw := jin 316 (by decide +kernel) rfl
set_option maxRecDepth 100000 in
theorem jw_260 : Cond.selects RX2 yX2_addBoiler yX2_addBoiler ∈ jtw := jin 317 (by decide +kernel) rfl
set_option maxRecDepth 100000 in
theorem jw_261 : Cond.code yX2_addBoiler cX2_addBoiler 4 (some .int) ∈ jtw := jin 318 rfl rfl
set_option maxRecDepth 100000 in
theorem jw_262 : Cond.constant RX2 67 (-2000000001) ∈ jtw := jin 319 (by decide +kernel) rfl
set_option maxRecDepth 100000 in
theorem jw_263 : Cond.constant RX2 68 (-2000000003) ∈ jtw := jin 320 (by decide +kernel) rfl
set_option maxRecDepth 100000 in
theorem jw_264 : Cond.methodLink RX2 69 yX0_begin ∈ jtw := jin 321 (by decide +kernel) rfl
set_option maxRecDepth 100000 in
theorem jw_265 : Cond.instanceMethod yX0_begin ∈ jtw := jin 322 (by decide +kernel) rfl
set_option maxRecDepth 100000 in
theorem jw_266 : Cond.selects RX0 yX0_begin yX0_begin ∈ jtw := jin 323 (by decide +kernel) rfl
set_option maxRecDepth 100000 in
theorem jw_267 : Cond.code yX0_begin cX0_begin 2 none ∈ jtw := jin 324 rfl rfl
set_option maxRecDepth 100000 in
theorem jw_268 : Cond.methodLink RX6 48 yX6_settle ∈ jtw := jin 325 (by decide +kernel) rfl
set_option maxRecDepth 100000 in
theorem jw_270 : Cond.instanceMethod yX6_settle ∈ jtw := jin 327 (by decide +kernel) rfl
set_option maxRecDepth 100000 in
theorem jw_271 : Cond.code yX6_settle cX6_settle 2 (some .int) ∈ jtw := jin 328 rfl rfl
set_option maxRecDepth 100000 in
theorem jw_272 : Cond.methodLink RX6 148 yX6_isError ∈ jtw := jin 329 (by decide +kernel) rfl
set_option maxRecDepth 100000 in
theorem jw_273 : Cond.static yX6_isError ∈ jtw := jin 330 (by decide +kernel) rfl
set_option maxRecDepth 100000 in
theorem jw_274 : Cond.code yX6_isError cX6_isError 1 (some .boolean) ∈ jtw := jin 331 rfl rfl
set_option maxRecDepth 100000 in
theorem jw_275 : Cond.constant RX6 133 (-2000000001) ∈ jtw := jin 332 (by decide +kernel) rfl
set_option maxRecDepth 100000 in
theorem jw_276 : Cond.methodLink RX6 152 yX1_keep ∈ jtw := jin 333 (by decide +kernel) rfl
set_option maxRecDepth 100000 in
theorem jw_277 : Cond.instanceMethod yX1_keep ∈ jtw := jin 334 (by decide +kernel) rfl
set_option maxRecDepth 100000 in
theorem jw_278 : Cond.selects RX1 yX1_keep yX1_keep ∈ jtw := jin 335 (by decide +kernel) rfl
set_option maxRecDepth 100000 in
theorem jw_279 : Cond.code yX1_keep cX1_keep 3 none ∈ jtw := jin 336 rfl rfl
set_option maxRecDepth 100000 in
theorem jw_280 : Cond.methodLink RX1 25 yX1_stateAt ∈ jtw := jin 337 (by decide +kernel) rfl
set_option maxRecDepth 100000 in
theorem jw_282 : Cond.instanceMethod yX1_stateAt ∈ jtw := jin 339 (by decide +kernel) rfl
set_option maxRecDepth 100000 in
theorem jw_283 : Cond.code yX1_stateAt cX1_stateAt 2 (some (.object "BoilerPapers$House")) ∈ jtw := jin 340 rfl rfl
set_option maxRecDepth 100000 in
theorem jw_284 : Cond.methodLink RX1 29 yX2_copyFrom ∈ jtw := jin 341 (by decide +kernel) rfl
set_option maxRecDepth 100000 in
theorem jw_285 : Cond.methodLink RX1 33 yJ9_min_7cf53 ∈ jtw := jin 342 (by decide +kernel) rfl
set_option maxRecDepth 100000 in
theorem jw_286 : Cond.static yJ9_min_7cf53 ∈ jtw := jin 343 (by decide +kernel) rfl
set_option maxRecDepth 100000 in
theorem jw_287 : Cond.code yJ9_min_7cf53 cJ9_min_7cf53 2 (some .int) ∈ jtw := jin 344 rfl rfl
set_option maxRecDepth 100000 in
theorem jw_288 : Cond.methodLink RL 18 yX6_inspector ∈ jtw := jin 345 (by decide +kernel) rfl
set_option maxRecDepth 100000 in
theorem jw_289 : Cond.instanceMethod yX6_inspector ∈ jtw := jin 346 (by decide +kernel) rfl
set_option maxRecDepth 100000 in
theorem jw_290 : Cond.selects RX6 yX6_inspector yX6_inspector ∈ jtw := jin 347 (by decide +kernel) rfl
set_option maxRecDepth 100000 in
theorem jw_291 : Cond.code yX6_inspector cX6_inspector 3 (some .int) ∈ jtw := jin 348 rfl rfl
set_option maxRecDepth 100000 in
theorem jw_292 : Cond.methodLink RX6 51 yX2_addInspector ∈ jtw := jin 349 (by decide +kernel) rfl
set_option maxRecDepth 100000 in
theorem jw_293 : Cond.instanceMethod yX2_addInspector ∈ jtw := jin 350 (by decide +kernel) rfl
set_option maxRecDepth 100000 in
theorem jw_294 : Cond.selects RX2 yX2_addInspector yX2_addInspector ∈ jtw := jin 351 (by decide +kernel) rfl
set_option maxRecDepth 100000 in
theorem jw_295 : Cond.code yX2_addInspector cX2_addInspector 5 (some .int) ∈ jtw := jin 352 rfl rfl
set_option maxRecDepth 100000 in
theorem jw_297 : Cond.static yX6_isInsurer ∈ jtw := jin 354 (by decide +kernel) rfl
set_option maxRecDepth 100000 in
theorem jw_298 : Cond.code yX6_isInsurer cX6_isInsurer 1 (some .boolean) ∈ jtw := jin 355 rfl rfl
set_option maxRecDepth 100000 in
theorem jw_299 : Cond.methodLink RX2 77 yX3_begin ∈ jtw := jin 356 (by decide +kernel) rfl
set_option maxRecDepth 100000 in
theorem jw_300 : Cond.instanceMethod yX3_begin ∈ jtw := jin 357 (by decide +kernel) rfl
set_option maxRecDepth 100000 in
theorem jw_301 : Cond.selects RX3 yX3_begin yX3_begin ∈ jtw := jin 358 (by decide +kernel) rfl
set_option maxRecDepth 100000 in
theorem jw_302 : Cond.code yX3_begin cX3_begin 3 none ∈ jtw := jin 359 rfl rfl
set_option maxRecDepth 100000 in
theorem jw_303 : Cond.methodLink RL 23 yX6_press ∈ jtw := jin 360 (by decide +kernel) rfl
set_option maxRecDepth 100000 in
theorem jw_304 : Cond.instanceMethod yX6_press ∈ jtw := jin 361 (by decide +kernel) rfl
set_option maxRecDepth 100000 in
theorem jw_305 : Cond.selects RX6 yX6_press yX6_press ∈ jtw := jin 362 (by decide +kernel) rfl
set_option maxRecDepth 100000 in
theorem jw_306 : Cond.code yX6_press cX6_press 3 (some .int) ∈ jtw := jin 363 rfl rfl
set_option maxRecDepth 100000 in
theorem jw_307 : Cond.methodLink RX6 55 yX2_changePressure ∈ jtw := jin 364 (by decide +kernel) rfl
set_option maxRecDepth 100000 in
theorem jw_308 : Cond.instanceMethod yX2_changePressure ∈ jtw := jin 365 (by decide +kernel) rfl
set_option maxRecDepth 100000 in
theorem jw_309 : Cond.selects RX2 yX2_changePressure yX2_changePressure ∈ jtw := jin 366 (by decide +kernel) rfl
set_option maxRecDepth 100000 in
theorem jw_310 : Cond.code yX2_changePressure cX2_changePressure 5 (some .int) ∈ jtw := jin 367 rfl rfl
set_option maxRecDepth 100000 in
theorem jw_311 : Cond.constant RX2 89 (-2000000002) ∈ jtw := jin 368 (by decide +kernel) rfl
set_option maxRecDepth 100000 in
theorem jw_312 : Cond.methodLink RL 27 yX6_inspect ∈ jtw := jin 369 (by decide +kernel) rfl
set_option maxRecDepth 100000 in
theorem jw_313 : Cond.instanceMethod yX6_inspect ∈ jtw := jin 370 (by decide +kernel) rfl
set_option maxRecDepth 100000 in
theorem jw_314 : Cond.selects RX6 yX6_inspect yX6_inspect ∈ jtw := jin 371 (by decide +kernel) rfl
set_option maxRecDepth 100000 in
theorem jw_315 : Cond.code yX6_inspect cX6_inspect 3 (some .int) ∈ jtw := jin 372 rfl rfl
set_option maxRecDepth 100000 in
theorem jw_316 : Cond.methodLink RX6 58 yX2_examine ∈ jtw := jin 373 (by decide +kernel) rfl
set_option maxRecDepth 100000 in
theorem jw_317 : Cond.instanceMethod yX2_examine ∈ jtw := jin 374 (by decide +kernel) rfl
set_option maxRecDepth 100000 in
theorem jw_318 : Cond.selects RX2 yX2_examine yX2_examine ∈ jtw := jin 375 (by decide +kernel) rfl
set_option maxRecDepth 100000 in
theorem jw_319 : Cond.code yX2_examine cX2_examine 7 (some .int) ∈ jtw := jin 376 rfl rfl
set_option maxRecDepth 100000 in
theorem jw_320 : Cond.methodLink RX2 93 yX0_whyNotInspectedBy ∈ jtw := jin 377 (by decide +kernel) rfl
set_option maxRecDepth 100000 in
theorem jw_321 : Cond.instanceMethod yX0_whyNotInspectedBy ∈ jtw := jin 378 (by decide +kernel) rfl
set_option maxRecDepth 100000 in
theorem jw_322 : Cond.selects RX0 yX0_whyNotInspectedBy yX0_whyNotInspectedBy ∈ jtw := jin 379 (by decide +kernel) rfl
set_option maxRecDepth 100000 in
theorem jw_323 : Cond.code yX0_whyNotInspectedBy cX0_whyNotInspectedBy 2 (some .int) ∈ jtw := jin 380 rfl rfl
set_option maxRecDepth 100000 in
theorem jw_324 : Cond.methodLink RX0 59 yX3_left ∈ jtw := jin 381 (by decide +kernel) rfl
set_option maxRecDepth 100000 in
theorem jw_325 : Cond.instanceMethod yX3_left ∈ jtw := jin 382 (by decide +kernel) rfl
set_option maxRecDepth 100000 in
theorem jw_326 : Cond.selects RX3 yX3_left yX3_left ∈ jtw := jin 383 (by decide +kernel) rfl
set_option maxRecDepth 100000 in
theorem jw_327 : Cond.code yX3_left cX3_left 1 (some .int) ∈ jtw := jin 384 rfl rfl
set_option maxRecDepth 100000 in
theorem jw_328 : Cond.methodLink RX2 100 yX2_pressureOffered ∈ jtw := jin 385 (by decide +kernel) rfl
set_option maxRecDepth 100000 in
theorem jw_330 : Cond.instanceMethod yX2_pressureOffered ∈ jtw := jin 387 (by decide +kernel) rfl
set_option maxRecDepth 100000 in
theorem jw_331 : Cond.code yX2_pressureOffered cX2_pressureOffered 4 (some .int) ∈ jtw := jin 388 rfl rfl
set_option maxRecDepth 100000 in
theorem jw_332 : Cond.methodLink RX2 118 yX2_settingAt ∈ jtw := jin 389 (by decide +kernel) rfl
set_option maxRecDepth 100000 in
theorem jw_334 : Cond.instanceMethod yX2_settingAt ∈ jtw := jin 391 (by decide +kernel) rfl
set_option maxRecDepth 100000 in
theorem jw_335 : Cond.code yX2_settingAt cX2_settingAt 3 (some .int) ∈ jtw := jin 392 rfl rfl
set_option maxRecDepth 100000 in
theorem jw_336 : Cond.methodLink RX2 199 yX0_strength ∈ jtw := jin 393 (by decide +kernel) rfl
set_option maxRecDepth 100000 in
theorem jw_337 : Cond.instanceMethod yX0_strength ∈ jtw := jin 394 (by decide +kernel) rfl
set_option maxRecDepth 100000 in
theorem jw_338 : Cond.selects RX0 yX0_strength yX0_strength ∈ jtw := jin 395 (by decide +kernel) rfl
set_option maxRecDepth 100000 in
theorem jw_339 : Cond.code yX0_strength cX0_strength 1 (some .int) ∈ jtw := jin 396 rfl rfl
set_option maxRecDepth 100000 in
theorem jw_340 : Cond.methodLink RX2 104 yX2_lastWeekOffered ∈ jtw := jin 397 (by decide +kernel) rfl
set_option maxRecDepth 100000 in
theorem jw_342 : Cond.instanceMethod yX2_lastWeekOffered ∈ jtw := jin 399 (by decide +kernel) rfl
set_option maxRecDepth 100000 in
theorem jw_343 : Cond.code yX2_lastWeekOffered cX2_lastWeekOffered 3 (some .int) ∈ jtw := jin 400 rfl rfl
set_option maxRecDepth 100000 in
theorem jw_344 : Cond.methodLink RX2 107 yX0_takePaper ∈ jtw := jin 401 (by decide +kernel) rfl
set_option maxRecDepth 100000 in
theorem jw_345 : Cond.instanceMethod yX0_takePaper ∈ jtw := jin 402 (by decide +kernel) rfl
set_option maxRecDepth 100000 in
theorem jw_346 : Cond.selects RX0 yX0_takePaper yX0_takePaper ∈ jtw := jin 403 (by decide +kernel) rfl
set_option maxRecDepth 100000 in
theorem jw_347 : Cond.code yX0_takePaper cX0_takePaper 4 none ∈ jtw := jin 404 rfl rfl
set_option maxRecDepth 100000 in
theorem jw_348 : Cond.methodLink RX2 111 yX0_refusePaper ∈ jtw := jin 405 (by decide +kernel) rfl
set_option maxRecDepth 100000 in
theorem jw_349 : Cond.instanceMethod yX0_refusePaper ∈ jtw := jin 406 (by decide +kernel) rfl
set_option maxRecDepth 100000 in
theorem jw_350 : Cond.selects RX0 yX0_refusePaper yX0_refusePaper ∈ jtw := jin 407 (by decide +kernel) rfl
set_option maxRecDepth 100000 in
theorem jw_351 : Cond.code yX0_refusePaper cX0_refusePaper 1 none ∈ jtw := jin 408 rfl rfl
set_option maxRecDepth 100000 in
theorem jw_352 : Cond.methodLink RX2 114 yX3_noteInspection ∈ jtw := jin 409 (by decide +kernel) rfl
set_option maxRecDepth 100000 in
theorem jw_353 : Cond.instanceMethod yX3_noteInspection ∈ jtw := jin 410 (by decide +kernel) rfl
set_option maxRecDepth 100000 in
theorem jw_354 : Cond.selects RX3 yX3_noteInspection yX3_noteInspection ∈ jtw := jin 411 (by decide +kernel) rfl
set_option maxRecDepth 100000 in
theorem jw_355 : Cond.code yX3_noteInspection cX3_noteInspection 2 none ∈ jtw := jin 412 rfl rfl
set_option maxRecDepth 100000 in
theorem jw_356 : Cond.methodLink RX2 122 yX2_ownerPays ∈ jtw := jin 413 (by decide +kernel) rfl
set_option maxRecDepth 100000 in
theorem jw_358 : Cond.instanceMethod yX2_ownerPays ∈ jtw := jin 415 (by decide +kernel) rfl
set_option maxRecDepth 100000 in
theorem jw_359 : Cond.code yX2_ownerPays cX2_ownerPays 3 none ∈ jtw := jin 416 rfl rfl
set_option maxRecDepth 100000 in
theorem jw_360 : Cond.methodLink RL 31 yX6_fire ∈ jtw := jin 417 (by decide +kernel) rfl
set_option maxRecDepth 100000 in
theorem jw_361 : Cond.instanceMethod yX6_fire ∈ jtw := jin 418 (by decide +kernel) rfl
set_option maxRecDepth 100000 in
theorem jw_362 : Cond.selects RX6 yX6_fire yX6_fire ∈ jtw := jin 419 (by decide +kernel) rfl
set_option maxRecDepth 100000 in
theorem jw_363 : Cond.code yX6_fire cX6_fire 2 (some .int) ∈ jtw := jin 420 rfl rfl
set_option maxRecDepth 100000 in
theorem jw_364 : Cond.methodLink RX6 61 yX2_light ∈ jtw := jin 421 (by decide +kernel) rfl
set_option maxRecDepth 100000 in
theorem jw_365 : Cond.instanceMethod yX2_light ∈ jtw := jin 422 (by decide +kernel) rfl
set_option maxRecDepth 100000 in
theorem jw_366 : Cond.selects RX2 yX2_light yX2_light ∈ jtw := jin 423 (by decide +kernel) rfl
set_option maxRecDepth 100000 in
theorem jw_367 : Cond.code yX2_light cX2_light 3 (some .int) ∈ jtw := jin 424 rfl rfl
set_option maxRecDepth 100000 in
theorem jw_368 : Cond.methodLink RX2 125 yX0_whyNotFiredIn ∈ jtw := jin 425 (by decide +kernel) rfl
set_option maxRecDepth 100000 in
theorem jw_369 : Cond.instanceMethod yX0_whyNotFiredIn ∈ jtw := jin 426 (by decide +kernel) rfl
set_option maxRecDepth 100000 in
theorem jw_370 : Cond.selects RX0 yX0_whyNotFiredIn yX0_whyNotFiredIn ∈ jtw := jin 427 (by decide +kernel) rfl
set_option maxRecDepth 100000 in
theorem jw_371 : Cond.code yX0_whyNotFiredIn cX0_whyNotFiredIn 2 (some .int) ∈ jtw := jin 428 rfl rfl
set_option maxRecDepth 100000 in
theorem jw_372 : Cond.methodLink RX0 55 yX0_isShutIn ∈ jtw := jin 429 (by decide +kernel) rfl
set_option maxRecDepth 100000 in
theorem jw_373 : Cond.instanceMethod yX0_isShutIn ∈ jtw := jin 430 (by decide +kernel) rfl
set_option maxRecDepth 100000 in
theorem jw_374 : Cond.selects RX0 yX0_isShutIn yX0_isShutIn ∈ jtw := jin 431 (by decide +kernel) rfl
set_option maxRecDepth 100000 in
theorem jw_375 : Cond.code yX0_isShutIn cX0_isShutIn 2 (some .boolean) ∈ jtw := jin 432 rfl rfl
set_option maxRecDepth 100000 in
theorem jw_376 : Cond.methodLink RL 35 yX6_out ∈ jtw := jin 433 (by decide +kernel) rfl
set_option maxRecDepth 100000 in
theorem jw_377 : Cond.instanceMethod yX6_out ∈ jtw := jin 434 (by decide +kernel) rfl
set_option maxRecDepth 100000 in
theorem jw_378 : Cond.selects RX6 yX6_out yX6_out ∈ jtw := jin 435 (by decide +kernel) rfl
set_option maxRecDepth 100000 in
theorem jw_379 : Cond.code yX6_out cX6_out 2 (some .int) ∈ jtw := jin 436 rfl rfl
set_option maxRecDepth 100000 in
theorem jw_380 : Cond.methodLink RX6 64 yX2_putOut ∈ jtw := jin 437 (by decide +kernel) rfl
set_option maxRecDepth 100000 in
theorem jw_381 : Cond.instanceMethod yX2_putOut ∈ jtw := jin 438 (by decide +kernel) rfl
set_option maxRecDepth 100000 in
theorem jw_382 : Cond.selects RX2 yX2_putOut yX2_putOut ∈ jtw := jin 439 (by decide +kernel) rfl
set_option maxRecDepth 100000 in
theorem jw_383 : Cond.code yX2_putOut cX2_putOut 3 (some .int) ∈ jtw := jin 440 rfl rfl
set_option maxRecDepth 100000 in
theorem jw_384 : Cond.methodLink RX2 131 yX0_becomeCold ∈ jtw := jin 441 (by decide +kernel) rfl
set_option maxRecDepth 100000 in
theorem jw_385 : Cond.instanceMethod yX0_becomeCold ∈ jtw := jin 442 (by decide +kernel) rfl
set_option maxRecDepth 100000 in
theorem jw_386 : Cond.selects RX0 yX0_becomeCold yX0_becomeCold ∈ jtw := jin 443 (by decide +kernel) rfl
set_option maxRecDepth 100000 in
theorem jw_387 : Cond.code yX0_becomeCold cX0_becomeCold 1 none ∈ jtw := jin 444 rfl rfl
set_option maxRecDepth 100000 in
theorem jw_388 : Cond.methodLink RL 39 yX6_plan ∈ jtw := jin 445 (by decide +kernel) rfl
set_option maxRecDepth 100000 in
theorem jw_389 : Cond.instanceMethod yX6_plan ∈ jtw := jin 446 (by decide +kernel) rfl
set_option maxRecDepth 100000 in
theorem jw_390 : Cond.selects RX6 yX6_plan yX6_plan ∈ jtw := jin 447 (by decide +kernel) rfl
set_option maxRecDepth 100000 in
theorem jw_391 : Cond.code yX6_plan cX6_plan 4 (some .int) ∈ jtw := jin 448 rfl rfl
set_option maxRecDepth 100000 in
theorem jw_392 : Cond.methodLink RX6 67 yX2_planShutdown ∈ jtw := jin 449 (by decide +kernel) rfl
set_option maxRecDepth 100000 in
theorem jw_393 : Cond.instanceMethod yX2_planShutdown ∈ jtw := jin 450 (by decide +kernel) rfl
set_option maxRecDepth 100000 in
theorem jw_394 : Cond.selects RX2 yX2_planShutdown yX2_planShutdown ∈ jtw := jin 451 (by decide +kernel) rfl
set_option maxRecDepth 100000 in
theorem jw_395 : Cond.code yX2_planShutdown cX2_planShutdown 5 (some .int) ∈ jtw := jin 452 rfl rfl
set_option maxRecDepth 100000 in
theorem jw_396 : Cond.methodLink RL 44 yX6_repair ∈ jtw := jin 453 (by decide +kernel) rfl
set_option maxRecDepth 100000 in
theorem jw_397 : Cond.instanceMethod yX6_repair ∈ jtw := jin 454 (by decide +kernel) rfl
set_option maxRecDepth 100000 in
theorem jw_398 : Cond.selects RX6 yX6_repair yX6_repair ∈ jtw := jin 455 (by decide +kernel) rfl
set_option maxRecDepth 100000 in
theorem jw_399 : Cond.code yX6_repair cX6_repair 2 (some .int) ∈ jtw := jin 456 rfl rfl
set_option maxRecDepth 100000 in
theorem jw_400 : Cond.methodLink RX6 71 yX2_sendToRepair ∈ jtw := jin 457 (by decide +kernel) rfl
set_option maxRecDepth 100000 in
theorem jw_401 : Cond.instanceMethod yX2_sendToRepair ∈ jtw := jin 458 (by decide +kernel) rfl
set_option maxRecDepth 100000 in
theorem jw_402 : Cond.selects RX2 yX2_sendToRepair yX2_sendToRepair ∈ jtw := jin 459 (by decide +kernel) rfl
set_option maxRecDepth 100000 in
theorem jw_403 : Cond.code yX2_sendToRepair cX2_sendToRepair 4 (some .int) ∈ jtw := jin 460 rfl rfl
set_option maxRecDepth 100000 in
theorem jw_404 : Cond.methodLink RL 48 yX6_pass ∈ jtw := jin 461 (by decide +kernel) rfl
set_option maxRecDepth 100000 in
theorem jw_405 : Cond.instanceMethod yX6_pass ∈ jtw := jin 462 (by decide +kernel) rfl
set_option maxRecDepth 100000 in
theorem jw_406 : Cond.selects RX6 yX6_pass yX6_pass ∈ jtw := jin 463 (by decide +kernel) rfl
set_option maxRecDepth 100000 in
theorem jw_407 : Cond.code yX6_pass cX6_pass 2 (some .int) ∈ jtw := jin 464 rfl rfl
set_option maxRecDepth 100000 in
theorem jw_408 : Cond.methodLink RX6 74 yX2_letWeeksPass ∈ jtw := jin 465 (by decide +kernel) rfl
set_option maxRecDepth 100000 in
theorem jw_409 : Cond.instanceMethod yX2_letWeeksPass ∈ jtw := jin 466 (by decide +kernel) rfl
set_option maxRecDepth 100000 in
theorem jw_410 : Cond.selects RX2 yX2_letWeeksPass yX2_letWeeksPass ∈ jtw := jin 467 (by decide +kernel) rfl
set_option maxRecDepth 100000 in
theorem jw_411 : Cond.code yX2_letWeeksPass cX2_letWeeksPass 4 (some .int) ∈ jtw := jin 468 rfl rfl
set_option maxRecDepth 100000 in
theorem jw_412 : Cond.methodLink RX2 150 yX2_letOneWeekPass ∈ jtw := jin 469 (by decide +kernel) rfl
set_option maxRecDepth 100000 in
theorem jw_414 : Cond.instanceMethod yX2_letOneWeekPass ∈ jtw := jin 471 (by decide +kernel) rfl
set_option maxRecDepth 100000 in
theorem jw_415 : Cond.code yX2_letOneWeekPass cX2_letOneWeekPass 4 (some .int) ∈ jtw := jin 472 rfl rfl
set_option maxRecDepth 100000 in
theorem jw_416 : Cond.methodLink RX2 154 yX3_beginWeek ∈ jtw := jin 473 (by decide +kernel) rfl
set_option maxRecDepth 100000 in
theorem jw_417 : Cond.instanceMethod yX3_beginWeek ∈ jtw := jin 474 (by decide +kernel) rfl
set_option maxRecDepth 100000 in
theorem jw_418 : Cond.selects RX3 yX3_beginWeek yX3_beginWeek ∈ jtw := jin 475 (by decide +kernel) rfl
set_option maxRecDepth 100000 in
theorem jw_419 : Cond.code yX3_beginWeek cX3_beginWeek 1 none ∈ jtw := jin 476 rfl rfl
set_option maxRecDepth 100000 in
theorem jw_420 : Cond.methodLink RX2 157 yX0_age ∈ jtw := jin 477 (by decide +kernel) rfl
set_option maxRecDepth 100000 in
theorem jw_421 : Cond.instanceMethod yX0_age ∈ jtw := jin 478 (by decide +kernel) rfl
set_option maxRecDepth 100000 in
theorem jw_422 : Cond.selects RX0 yX0_age yX0_age ∈ jtw := jin 479 (by decide +kernel) rfl
set_option maxRecDepth 100000 in
theorem jw_423 : Cond.code yX0_age cX0_age 1 none ∈ jtw := jin 480 rfl rfl
set_option maxRecDepth 100000 in
theorem jw_424 : Cond.methodLink RX0 65 yJ9_min_7cf53 ∈ jtw := jin 481 (by decide +kernel) rfl
set_option maxRecDepth 100000 in
theorem jw_425 : Cond.methodLink RX2 160 yX0_endRepairIn ∈ jtw := jin 482 (by decide +kernel) rfl
set_option maxRecDepth 100000 in
theorem jw_426 : Cond.instanceMethod yX0_endRepairIn ∈ jtw := jin 483 (by decide +kernel) rfl
set_option maxRecDepth 100000 in
theorem jw_427 : Cond.selects RX0 yX0_endRepairIn yX0_endRepairIn ∈ jtw := jin 484 (by decide +kernel) rfl
set_option maxRecDepth 100000 in
theorem jw_428 : Cond.code yX0_endRepairIn cX0_endRepairIn 2 none ∈ jtw := jin 485 rfl rfl
set_option maxRecDepth 100000 in
theorem jw_429 : Cond.methodLink RX0 71 yX0_becomeCold ∈ jtw := jin 486 (by decide +kernel) rfl
set_option maxRecDepth 100000 in
theorem jw_430 : Cond.methodLink RX2 163 yX0_dropWhatIsPastIn ∈ jtw := jin 487 (by decide +kernel) rfl
set_option maxRecDepth 100000 in
theorem jw_431 : Cond.instanceMethod yX0_dropWhatIsPastIn ∈ jtw := jin 488 (by decide +kernel) rfl
set_option maxRecDepth 100000 in
theorem jw_432 : Cond.selects RX0 yX0_dropWhatIsPastIn yX0_dropWhatIsPastIn ∈ jtw := jin 489 (by decide +kernel) rfl
set_option maxRecDepth 100000 in
theorem jw_433 : Cond.code yX0_dropWhatIsPastIn cX0_dropWhatIsPastIn 2 none ∈ jtw := jin 490 rfl rfl
set_option maxRecDepth 100000 in
theorem jw_434 : Cond.methodLink RX2 166 yX0_mustGoOutIn ∈ jtw := jin 491 (by decide +kernel) rfl
set_option maxRecDepth 100000 in
theorem jw_435 : Cond.instanceMethod yX0_mustGoOutIn ∈ jtw := jin 492 (by decide +kernel) rfl
set_option maxRecDepth 100000 in
theorem jw_436 : Cond.selects RX0 yX0_mustGoOutIn yX0_mustGoOutIn ∈ jtw := jin 493 (by decide +kernel) rfl
set_option maxRecDepth 100000 in
theorem jw_437 : Cond.code yX0_mustGoOutIn cX0_mustGoOutIn 2 (some .boolean) ∈ jtw := jin 494 rfl rfl
set_option maxRecDepth 100000 in
theorem jw_438 : Cond.methodLink RL 52 yX6_set ∈ jtw := jin 495 (by decide +kernel) rfl
set_option maxRecDepth 100000 in
theorem jw_439 : Cond.instanceMethod yX6_set ∈ jtw := jin 496 (by decide +kernel) rfl
set_option maxRecDepth 100000 in
theorem jw_440 : Cond.selects RX6 yX6_set yX6_set ∈ jtw := jin 497 (by decide +kernel) rfl
set_option maxRecDepth 100000 in
theorem jw_441 : Cond.code yX6_set cX6_set 3 (some .int) ∈ jtw := jin 498 rfl rfl
set_option maxRecDepth 100000 in
theorem jw_442 : Cond.methodLink RX6 77 yX2_changeSetting ∈ jtw := jin 499 (by decide +kernel) rfl
set_option maxRecDepth 100000 in
theorem jw_443 : Cond.instanceMethod yX2_changeSetting ∈ jtw := jin 500 (by decide +kernel) rfl
set_option maxRecDepth 100000 in
theorem jw_444 : Cond.selects RX2 yX2_changeSetting yX2_changeSetting ∈ jtw := jin 501 (by decide +kernel) rfl
set_option maxRecDepth 100000 in
theorem jw_445 : Cond.code yX2_changeSetting cX2_changeSetting 4 (some .int) ∈ jtw := jin 502 rfl rfl
set_option maxRecDepth 100000 in
theorem jw_448 : Cond.methodLink RL 56 yX6_boilerOf ∈ jtw := jin 505 (by decide +kernel) rfl
set_option maxRecDepth 100000 in
theorem jw_449 : Cond.instanceMethod yX6_boilerOf ∈ jtw := jin 506 (by decide +kernel) rfl
set_option maxRecDepth 100000 in
theorem jw_450 : Cond.selects RX6 yX6_boilerOf yX6_boilerOf ∈ jtw := jin 507 (by decide +kernel) rfl
set_option maxRecDepth 100000 in
theorem jw_451 : Cond.code yX6_boilerOf cX6_boilerOf 3 (some .int) ∈ jtw := jin 508 rfl rfl
set_option maxRecDepth 100000 in
theorem jw_452 : Cond.methodLink RX6 80 yX2_factOfBoiler ∈ jtw := jin 509 (by decide +kernel) rfl
set_option maxRecDepth 100000 in
theorem jw_453 : Cond.instanceMethod yX2_factOfBoiler ∈ jtw := jin 510 (by decide +kernel) rfl
set_option maxRecDepth 100000 in
theorem jw_454 : Cond.selects RX2 yX2_factOfBoiler yX2_factOfBoiler ∈ jtw := jin 511 (by decide +kernel) rfl
set_option maxRecDepth 100000 in
theorem jw_455 : Cond.code yX2_factOfBoiler cX2_factOfBoiler 4 (some .int) ∈ jtw := jin 512 rfl rfl
set_option maxRecDepth 100000 in
theorem jw_456 : Cond.methodLink RX2 191 yX0_fact ∈ jtw := jin 513 (by decide +kernel) rfl
set_option maxRecDepth 100000 in
theorem jw_457 : Cond.instanceMethod yX0_fact ∈ jtw := jin 514 (by decide +kernel) rfl
set_option maxRecDepth 100000 in
theorem jw_458 : Cond.selects RX0 yX0_fact yX0_fact ∈ jtw := jin 515 (by decide +kernel) rfl
set_option maxRecDepth 100000 in
theorem jw_459 : Cond.code yX0_fact cX0_fact 3 (some .int) ∈ jtw := jin 516 rfl rfl
set_option maxRecDepth 100000 in
theorem jw_460 : Cond.constant RX0 75 (-2000000004) ∈ jtw := jin 517 (by decide +kernel) rfl
set_option maxRecDepth 100000 in
theorem jw_461 : Cond.methodLink RX0 76 yX0_strength ∈ jtw := jin 518 (by decide +kernel) rfl
set_option maxRecDepth 100000 in
theorem jw_462 : Cond.constant RX0 79 (-2000000001) ∈ jtw := jin 519 (by decide +kernel) rfl
set_option maxRecDepth 100000 in
theorem jw_463 : Cond.methodLink RL 60 yX6_paperOf ∈ jtw := jin 520 (by decide +kernel) rfl
set_option maxRecDepth 100000 in
theorem jw_464 : Cond.instanceMethod yX6_paperOf ∈ jtw := jin 521 (by decide +kernel) rfl
set_option maxRecDepth 100000 in
theorem jw_465 : Cond.selects RX6 yX6_paperOf yX6_paperOf ∈ jtw := jin 522 (by decide +kernel) rfl
set_option maxRecDepth 100000 in
theorem jw_466 : Cond.code yX6_paperOf cX6_paperOf 3 (some .int) ∈ jtw := jin 523 rfl rfl
set_option maxRecDepth 100000 in
theorem jw_467 : Cond.methodLink RX6 83 yX2_factOfPaper ∈ jtw := jin 524 (by decide +kernel) rfl
set_option maxRecDepth 100000 in
theorem jw_468 : Cond.instanceMethod yX2_factOfPaper ∈ jtw := jin 525 (by decide +kernel) rfl
set_option maxRecDepth 100000 in
theorem jw_469 : Cond.selects RX2 yX2_factOfPaper yX2_factOfPaper ∈ jtw := jin 526 (by decide +kernel) rfl
set_option maxRecDepth 100000 in
theorem jw_470 : Cond.code yX2_factOfPaper cX2_factOfPaper 4 (some .int) ∈ jtw := jin 527 rfl rfl
set_option maxRecDepth 100000 in
theorem jw_471 : Cond.methodLink RX2 194 yX0_factOfPaper ∈ jtw := jin 528 (by decide +kernel) rfl
set_option maxRecDepth 100000 in
theorem jw_472 : Cond.instanceMethod yX0_factOfPaper ∈ jtw := jin 529 (by decide +kernel) rfl
set_option maxRecDepth 100000 in
theorem jw_473 : Cond.selects RX0 yX0_factOfPaper yX0_factOfPaper ∈ jtw := jin 530 (by decide +kernel) rfl
set_option maxRecDepth 100000 in
theorem jw_474 : Cond.code yX0_factOfPaper cX0_factOfPaper 2 (some .int) ∈ jtw := jin 531 rfl rfl
set_option maxRecDepth 100000 in
theorem jw_475 : Cond.methodLink RL 64 yX6_inspectorOf ∈ jtw := jin 532 (by decide +kernel) rfl
set_option maxRecDepth 100000 in
theorem jw_476 : Cond.instanceMethod yX6_inspectorOf ∈ jtw := jin 533 (by decide +kernel) rfl
set_option maxRecDepth 100000 in
theorem jw_477 : Cond.selects RX6 yX6_inspectorOf yX6_inspectorOf ∈ jtw := jin 534 (by decide +kernel) rfl
set_option maxRecDepth 100000 in
theorem jw_478 : Cond.code yX6_inspectorOf cX6_inspectorOf 3 (some .int) ∈ jtw := jin 535 rfl rfl
set_option maxRecDepth 100000 in
theorem jw_479 : Cond.methodLink RX6 86 yX2_factOfInspector ∈ jtw := jin 536 (by decide +kernel) rfl
set_option maxRecDepth 100000 in
theorem jw_480 : Cond.instanceMethod yX2_factOfInspector ∈ jtw := jin 537 (by decide +kernel) rfl
set_option maxRecDepth 100000 in
theorem jw_481 : Cond.selects RX2 yX2_factOfInspector yX2_factOfInspector ∈ jtw := jin 538 (by decide +kernel) rfl
set_option maxRecDepth 100000 in
theorem jw_482 : Cond.code yX2_factOfInspector cX2_factOfInspector 4 (some .int) ∈ jtw := jin 539 rfl rfl
set_option maxRecDepth 100000 in
theorem jw_483 : Cond.methodLink RX2 197 yX3_fact ∈ jtw := jin 540 (by decide +kernel) rfl
set_option maxRecDepth 100000 in
theorem jw_484 : Cond.instanceMethod yX3_fact ∈ jtw := jin 541 (by decide +kernel) rfl
set_option maxRecDepth 100000 in
theorem jw_485 : Cond.selects RX3 yX3_fact yX3_fact ∈ jtw := jin 542 (by decide +kernel) rfl
set_option maxRecDepth 100000 in
theorem jw_486 : Cond.code yX3_fact cX3_fact 2 (some .int) ∈ jtw := jin 543 rfl rfl
set_option maxRecDepth 100000 in
theorem jw_487 : Cond.methodLink RX3 27 yX3_left ∈ jtw := jin 544 (by decide +kernel) rfl
set_option maxRecDepth 100000 in
theorem jw_488 : Cond.constant RX3 31 (-2000000001) ∈ jtw := jin 545 (by decide +kernel) rfl
set_option maxRecDepth 100000 in
theorem jw_489 : Cond.methodLink RL 68 yX6_why ∈ jtw := jin 546 (by decide +kernel) rfl
set_option maxRecDepth 100000 in
theorem jw_490 : Cond.instanceMethod yX6_why ∈ jtw := jin 547 (by decide +kernel) rfl
set_option maxRecDepth 100000 in
theorem jw_491 : Cond.selects RX6 yX6_why yX6_why ∈ jtw := jin 548 (by decide +kernel) rfl
set_option maxRecDepth 100000 in
theorem jw_492 : Cond.code yX6_why cX6_why 3 (some .int) ∈ jtw := jin 549 rfl rfl
set_option maxRecDepth 100000 in
theorem jw_493 : Cond.methodLink RX6 89 yX2_whyNotFired ∈ jtw := jin 550 (by decide +kernel) rfl
set_option maxRecDepth 100000 in
theorem jw_494 : Cond.instanceMethod yX2_whyNotFired ∈ jtw := jin 551 (by decide +kernel) rfl
set_option maxRecDepth 100000 in
theorem jw_495 : Cond.selects RX2 yX2_whyNotFired yX2_whyNotFired ∈ jtw := jin 552 (by decide +kernel) rfl
set_option maxRecDepth 100000 in
theorem jw_496 : Cond.code yX2_whyNotFired cX2_whyNotFired 3 (some .int) ∈ jtw := jin 553 rfl rfl
set_option maxRecDepth 100000 in
theorem jw_497 : Cond.methodLink RX6 92 yX2_whyNotInspected ∈ jtw := jin 554 (by decide +kernel) rfl
set_option maxRecDepth 100000 in
theorem jw_498 : Cond.instanceMethod yX2_whyNotInspected ∈ jtw := jin 555 (by decide +kernel) rfl
set_option maxRecDepth 100000 in
theorem jw_499 : Cond.selects RX2 yX2_whyNotInspected yX2_whyNotInspected ∈ jtw := jin 556 (by decide +kernel) rfl
set_option maxRecDepth 100000 in
theorem jw_500 : Cond.code yX2_whyNotInspected cX2_whyNotInspected 5 (some .int) ∈ jtw := jin 557 rfl rfl
set_option maxRecDepth 100000 in
theorem jw_501 : Cond.methodLink RL 72 yX6_account ∈ jtw := jin 558 (by decide +kernel) rfl
set_option maxRecDepth 100000 in
theorem jw_502 : Cond.instanceMethod yX6_account ∈ jtw := jin 559 (by decide +kernel) rfl
set_option maxRecDepth 100000 in
theorem jw_503 : Cond.selects RX6 yX6_account yX6_account ∈ jtw := jin 560 (by decide +kernel) rfl
set_option maxRecDepth 100000 in
theorem jw_504 : Cond.code yX6_account cX6_account 2 (some .int) ∈ jtw := jin 561 rfl rfl
set_option maxRecDepth 100000 in
theorem jw_505 : Cond.methodLink RX6 95 yX2_balanceOf ∈ jtw := jin 562 (by decide +kernel) rfl
set_option maxRecDepth 100000 in
theorem jw_506 : Cond.instanceMethod yX2_balanceOf ∈ jtw := jin 563 (by decide +kernel) rfl
set_option maxRecDepth 100000 in
theorem jw_507 : Cond.selects RX2 yX2_balanceOf yX2_balanceOf ∈ jtw := jin 564 (by decide +kernel) rfl
set_option maxRecDepth 100000 in
theorem jw_508 : Cond.code yX2_balanceOf cX2_balanceOf 3 (some .int) ∈ jtw := jin 565 rfl rfl
set_option maxRecDepth 100000 in
theorem jw_509 : Cond.methodLink RL 76 yX6_would ∈ jtw := jin 566 (by decide +kernel) rfl
set_option maxRecDepth 100000 in
theorem jw_510 : Cond.instanceMethod yX6_would ∈ jtw := jin 567 (by decide +kernel) rfl
set_option maxRecDepth 100000 in
theorem jw_511 : Cond.selects RX6 yX6_would yX6_would ∈ jtw := jin 568 (by decide +kernel) rfl
set_option maxRecDepth 100000 in
theorem jw_512 : Cond.code yX6_would cX6_would 4 (some .int) ∈ jtw := jin 569 rfl rfl
set_option maxRecDepth 100000 in
theorem jw_513 : Cond.methodLink RX6 98 yX2_paperThatWouldBe ∈ jtw := jin 570 (by decide +kernel) rfl
set_option maxRecDepth 100000 in
theorem jw_514 : Cond.instanceMethod yX2_paperThatWouldBe ∈ jtw := jin 571 (by decide +kernel) rfl
set_option maxRecDepth 100000 in
theorem jw_515 : Cond.selects RX2 yX2_paperThatWouldBe yX2_paperThatWouldBe ∈ jtw := jin 572 (by decide +kernel) rfl
set_option maxRecDepth 100000 in
theorem jw_516 : Cond.code yX2_paperThatWouldBe cX2_paperThatWouldBe 6 (some .int) ∈ jtw := jin 573 rfl rfl
set_option maxRecDepth 100000 in
theorem jw_517 : Cond.constant RX2 202 (-2000000004) ∈ jtw := jin 574 (by decide +kernel) rfl
set_option maxRecDepth 100000 in
theorem jw_518 : Cond.methodLink RL 80 yX6_better ∈ jtw := jin 575 (by decide +kernel) rfl
set_option maxRecDepth 100000 in
theorem jw_519 : Cond.instanceMethod yX6_better ∈ jtw := jin 576 (by decide +kernel) rfl
set_option maxRecDepth 100000 in
theorem jw_520 : Cond.selects RX6 yX6_better yX6_better ∈ jtw := jin 577 (by decide +kernel) rfl
set_option maxRecDepth 100000 in
theorem jw_521 : Cond.code yX6_better cX6_better 2 (some .int) ∈ jtw := jin 578 rfl rfl
set_option maxRecDepth 100000 in
theorem jw_522 : Cond.methodLink RX6 101 yX2_betterInsurer ∈ jtw := jin 579 (by decide +kernel) rfl
set_option maxRecDepth 100000 in
theorem jw_523 : Cond.instanceMethod yX2_betterInsurer ∈ jtw := jin 580 (by decide +kernel) rfl
set_option maxRecDepth 100000 in
theorem jw_524 : Cond.selects RX2 yX2_betterInsurer yX2_betterInsurer ∈ jtw := jin 581 (by decide +kernel) rfl
set_option maxRecDepth 100000 in
theorem jw_525 : Cond.code yX2_betterInsurer cX2_betterInsurer 5 (some .int) ∈ jtw := jin 582 rfl rfl
set_option maxRecDepth 100000 in
theorem jw_526 : Cond.methodLink RX2 203 yX2_isOneBetter ∈ jtw := jin 583 (by decide +kernel) rfl
set_option maxRecDepth 100000 in
theorem jw_528 : Cond.instanceMethod yX2_isOneBetter ∈ jtw := jin 585 (by decide +kernel) rfl
set_option maxRecDepth 100000 in
theorem jw_529 : Cond.code yX2_isOneBetter cX2_isOneBetter 4 (some .boolean) ∈ jtw := jin 586 rfl rfl
set_option maxRecDepth 100000 in
theorem jw_530 : Cond.methodLink RL 84 yX6_first ∈ jtw := jin 587 (by decide +kernel) rfl
set_option maxRecDepth 100000 in
theorem jw_531 : Cond.instanceMethod yX6_first ∈ jtw := jin 588 (by decide +kernel) rfl
set_option maxRecDepth 100000 in
theorem jw_532 : Cond.selects RX6 yX6_first yX6_first ∈ jtw := jin 589 (by decide +kernel) rfl
set_option maxRecDepth 100000 in
theorem jw_533 : Cond.code yX6_first cX6_first 2 (some .int) ∈ jtw := jin 590 rfl rfl
set_option maxRecDepth 100000 in
theorem jw_534 : Cond.methodLink RX6 104 yX2_firstToRunOut ∈ jtw := jin 591 (by decide +kernel) rfl
set_option maxRecDepth 100000 in
theorem jw_535 : Cond.instanceMethod yX2_firstToRunOut ∈ jtw := jin 592 (by decide +kernel) rfl
set_option maxRecDepth 100000 in
theorem jw_536 : Cond.selects RX2 yX2_firstToRunOut yX2_firstToRunOut ∈ jtw := jin 593 (by decide +kernel) rfl
set_option maxRecDepth 100000 in
theorem jw_537 : Cond.code yX2_firstToRunOut cX2_firstToRunOut 6 (some .int) ∈ jtw := jin 594 rfl rfl
set_option maxRecDepth 100000 in
theorem jw_538 : Cond.methodLink RL 88 yX6_goesOn ∈ jtw := jin 595 (by decide +kernel) rfl
set_option maxRecDepth 100000 in
theorem jw_539 : Cond.instanceMethod yX6_goesOn ∈ jtw := jin 596 (by decide +kernel) rfl
set_option maxRecDepth 100000 in
theorem jw_540 : Cond.selects RX6 yX6_goesOn yX6_goesOn ∈ jtw := jin 597 (by decide +kernel) rfl
set_option maxRecDepth 100000 in
theorem jw_541 : Cond.code yX6_goesOn cX6_goesOn 2 (some .int) ∈ jtw := jin 598 rfl rfl
set_option maxRecDepth 100000 in
theorem jw_542 : Cond.methodLink RX6 107 yX2_weeksUntilPutOut ∈ jtw := jin 599 (by decide +kernel) rfl
set_option maxRecDepth 100000 in
theorem jw_543 : Cond.instanceMethod yX2_weeksUntilPutOut ∈ jtw := jin 600 (by decide +kernel) rfl
set_option maxRecDepth 100000 in
theorem jw_544 : Cond.selects RX2 yX2_weeksUntilPutOut yX2_weeksUntilPutOut ∈ jtw := jin 601 (by decide +kernel) rfl
set_option maxRecDepth 100000 in
theorem jw_545 : Cond.code yX2_weeksUntilPutOut cX2_weeksUntilPutOut 3 (some .int) ∈ jtw := jin 602 rfl rfl
set_option maxRecDepth 100000 in
theorem jw_546 : Cond.methodLink RX2 207 yX0_weeksUntilPutOut ∈ jtw := jin 603 (by decide +kernel) rfl
set_option maxRecDepth 100000 in
theorem jw_547 : Cond.instanceMethod yX0_weeksUntilPutOut ∈ jtw := jin 604 (by decide +kernel) rfl
set_option maxRecDepth 100000 in
theorem jw_548 : Cond.selects RX0 yX0_weeksUntilPutOut yX0_weeksUntilPutOut ∈ jtw := jin 605 (by decide +kernel) rfl
set_option maxRecDepth 100000 in
theorem jw_549 : Cond.code yX0_weeksUntilPutOut cX0_weeksUntilPutOut 3 (some .int) ∈ jtw := jin 606 rfl rfl
set_option maxRecDepth 100000 in
theorem jw_550 : Cond.constant RX0 74 (-2000000002) ∈ jtw := jin 607 (by decide +kernel) rfl
set_option maxRecDepth 100000 in
theorem jw_551 : Cond.methodLink RL 92 yX6_share ∈ jtw := jin 608 (by decide +kernel) rfl
set_option maxRecDepth 100000 in
theorem jw_552 : Cond.instanceMethod yX6_share ∈ jtw := jin 609 (by decide +kernel) rfl
set_option maxRecDepth 100000 in
theorem jw_553 : Cond.selects RX6 yX6_share yX6_share ∈ jtw := jin 610 (by decide +kernel) rfl
set_option maxRecDepth 100000 in
theorem jw_554 : Cond.code yX6_share cX6_share 2 (some .int) ∈ jtw := jin 611 rfl rfl
set_option maxRecDepth 100000 in
theorem jw_555 : Cond.methodLink RX6 110 yX2_shareOfStrength ∈ jtw := jin 612 (by decide +kernel) rfl
set_option maxRecDepth 100000 in
theorem jw_556 : Cond.instanceMethod yX2_shareOfStrength ∈ jtw := jin 613 (by decide +kernel) rfl
set_option maxRecDepth 100000 in
theorem jw_557 : Cond.selects RX2 yX2_shareOfStrength yX2_shareOfStrength ∈ jtw := jin 614 (by decide +kernel) rfl
set_option maxRecDepth 100000 in
theorem jw_558 : Cond.code yX2_shareOfStrength cX2_shareOfStrength 3 (some .int) ∈ jtw := jin 615 rfl rfl
set_option maxRecDepth 100000 in
theorem jw_559 : Cond.methodLink RX2 210 yX2_bitsOfShare ∈ jtw := jin 616 (by decide +kernel) rfl
set_option maxRecDepth 100000 in
theorem jw_560 : Cond.static yX2_bitsOfShare ∈ jtw := jin 617 (by decide +kernel) rfl
set_option maxRecDepth 100000 in
theorem jw_561 : Cond.code yX2_bitsOfShare cX2_bitsOfShare 4 (some .int) ∈ jtw := jin 618 rfl rfl
set_option maxRecDepth 100000 in
theorem jw_563 : Cond.methodLink RL 96 yX6_count ∈ jtw := jin 620 (by decide +kernel) rfl
set_option maxRecDepth 100000 in
theorem jw_564 : Cond.instanceMethod yX6_count ∈ jtw := jin 621 (by decide +kernel) rfl
set_option maxRecDepth 100000 in
theorem jw_565 : Cond.selects RX6 yX6_count yX6_count ∈ jtw := jin 622 (by decide +kernel) rfl
set_option maxRecDepth 100000 in
theorem jw_566 : Cond.code yX6_count cX6_count 2 (some .int) ∈ jtw := jin 623 rfl rfl
set_option maxRecDepth 100000 in
theorem jw_567 : Cond.methodLink RX6 113 yX1_size ∈ jtw := jin 624 (by decide +kernel) rfl
set_option maxRecDepth 100000 in
theorem jw_568 : Cond.instanceMethod yX1_size ∈ jtw := jin 625 (by decide +kernel) rfl
set_option maxRecDepth 100000 in
theorem jw_569 : Cond.selects RX1 yX1_size yX1_size ∈ jtw := jin 626 (by decide +kernel) rfl
set_option maxRecDepth 100000 in
theorem jw_570 : Cond.code yX1_size cX1_size 1 (some .int) ∈ jtw := jin 627 rfl rfl
set_option maxRecDepth 100000 in
theorem jw_571 : Cond.methodLink RX6 117 yX4_length ∈ jtw := jin 628 (by decide +kernel) rfl
set_option maxRecDepth 100000 in
theorem jw_572 : Cond.instanceMethod yX4_length ∈ jtw := jin 629 (by decide +kernel) rfl
set_option maxRecDepth 100000 in
theorem jw_573 : Cond.selects RX4 yX4_length yX4_length ∈ jtw := jin 630 (by decide +kernel) rfl
set_option maxRecDepth 100000 in
theorem jw_574 : Cond.code yX4_length cX4_length 1 (some .int) ∈ jtw := jin 631 rfl rfl
set_option maxRecDepth 100000 in
theorem jw_575 : Cond.methodLink RX6 120 yX2_numberOf ∈ jtw := jin 632 (by decide +kernel) rfl
set_option maxRecDepth 100000 in
theorem jw_576 : Cond.instanceMethod yX2_numberOf ∈ jtw := jin 633 (by decide +kernel) rfl
set_option maxRecDepth 100000 in
theorem jw_577 : Cond.selects RX2 yX2_numberOf yX2_numberOf ∈ jtw := jin 634 (by decide +kernel) rfl
set_option maxRecDepth 100000 in
theorem jw_578 : Cond.code yX2_numberOf cX2_numberOf 2 (some .int) ∈ jtw := jin 635 rfl rfl
set_option maxRecDepth 100000 in
theorem jw_579 : Cond.methodLink RX2 215 yX2_setOfBoilers ∈ jtw := jin 636 (by decide +kernel) rfl
set_option maxRecDepth 100000 in
theorem jw_581 : Cond.instanceMethod yX2_setOfBoilers ∈ jtw := jin 638 (by decide +kernel) rfl
set_option maxRecDepth 100000 in
theorem jw_582 : Cond.code yX2_setOfBoilers cX2_setOfBoilers 5 (some .int) ∈ jtw := jin 639 rfl rfl
set_option maxRecDepth 100000 in
theorem jw_583 : Cond.methodLink RX2 224 yX2_isInSet ∈ jtw := jin 640 (by decide +kernel) rfl
set_option maxRecDepth 100000 in
theorem jw_585 : Cond.instanceMethod yX2_isInSet ∈ jtw := jin 642 (by decide +kernel) rfl
set_option maxRecDepth 100000 in
theorem jw_586 : Cond.code yX2_isInSet cX2_isInSet 3 (some .boolean) ∈ jtw := jin 643 rfl rfl
set_option maxRecDepth 100000 in
theorem jw_587 : Cond.methodLink RX2 218 yX2_allAccounts ∈ jtw := jin 644 (by decide +kernel) rfl
set_option maxRecDepth 100000 in
theorem jw_589 : Cond.instanceMethod yX2_allAccounts ∈ jtw := jin 646 (by decide +kernel) rfl
set_option maxRecDepth 100000 in
theorem jw_590 : Cond.code yX2_allAccounts cX2_allAccounts 6 (some .int) ∈ jtw := jin 647 rfl rfl
set_option maxRecDepth 100000 in
theorem jw_591 : Cond.methodLink RX2 221 yX2_allOfInspectors ∈ jtw := jin 648 (by decide +kernel) rfl
set_option maxRecDepth 100000 in
theorem jw_593 : Cond.instanceMethod yX2_allOfInspectors ∈ jtw := jin 650 (by decide +kernel) rfl
set_option maxRecDepth 100000 in
theorem jw_594 : Cond.code yX2_allOfInspectors cX2_allOfInspectors 5 (some .int) ∈ jtw := jin 651 rfl rfl
set_option maxRecDepth 100000 in
theorem jw_595 : Cond.methodLink RL 100 yX6_undo ∈ jtw := jin 652 (by decide +kernel) rfl
set_option maxRecDepth 100000 in
theorem jw_596 : Cond.instanceMethod yX6_undo ∈ jtw := jin 653 (by decide +kernel) rfl
set_option maxRecDepth 100000 in
theorem jw_597 : Cond.selects RX6 yX6_undo yX6_undo ∈ jtw := jin 654 (by decide +kernel) rfl
set_option maxRecDepth 100000 in
theorem jw_598 : Cond.code yX6_undo cX6_undo 1 (some .int) ∈ jtw := jin 655 rfl rfl
set_option maxRecDepth 100000 in
theorem jw_599 : Cond.methodLink RX6 123 yX1_bringBack ∈ jtw := jin 656 (by decide +kernel) rfl
set_option maxRecDepth 100000 in
theorem jw_600 : Cond.instanceMethod yX1_bringBack ∈ jtw := jin 657 (by decide +kernel) rfl
set_option maxRecDepth 100000 in
theorem jw_601 : Cond.selects RX1 yX1_bringBack yX1_bringBack ∈ jtw := jin 658 (by decide +kernel) rfl
set_option maxRecDepth 100000 in
theorem jw_602 : Cond.code yX1_bringBack cX1_bringBack 4 (some .int) ∈ jtw := jin 659 rfl rfl
set_option maxRecDepth 100000 in
theorem jw_603 : Cond.constant RX1 39 (-2000000002) ∈ jtw := jin 660 (by decide +kernel) rfl
set_option maxRecDepth 100000 in
theorem jw_604 : Cond.methodLink RL 105 yX6_type ∈ jtw := jin 661 (by decide +kernel) rfl
set_option maxRecDepth 100000 in
theorem jw_605 : Cond.instanceMethod yX6_type ∈ jtw := jin 662 (by decide +kernel) rfl
set_option maxRecDepth 100000 in
theorem jw_606 : Cond.selects RX6 yX6_type yX6_type ∈ jtw := jin 663 (by decide +kernel) rfl
set_option maxRecDepth 100000 in
theorem jw_607 : Cond.code yX6_type cX6_type 2 (some .int) ∈ jtw := jin 664 rfl rfl
set_option maxRecDepth 100000 in
theorem jw_608 : Cond.methodLink RX6 127 yX4_append ∈ jtw := jin 665 (by decide +kernel) rfl
set_option maxRecDepth 100000 in
theorem jw_609 : Cond.instanceMethod yX4_append ∈ jtw := jin 666 (by decide +kernel) rfl
set_option maxRecDepth 100000 in
theorem jw_610 : Cond.selects RX4 yX4_append yX4_append ∈ jtw := jin 667 (by decide +kernel) rfl
set_option maxRecDepth 100000 in
theorem jw_611 : Cond.code yX4_append cX4_append 2 (some .int) ∈ jtw := jin 668 rfl rfl
set_option maxRecDepth 100000 in
theorem jw_612 : Cond.constant RX4 19 (-2000000001) ∈ jtw := jin 669 (by decide +kernel) rfl
set_option maxRecDepth 100000 in
theorem jw_613 : Cond.constant RX4 20 (-2000000003) ∈ jtw := jin 670 (by decide +kernel) rfl
set_option maxRecDepth 100000 in
theorem jw_614 : Cond.methodLink RL 109 yX6_clearText ∈ jtw := jin 671 (by decide +kernel) rfl
set_option maxRecDepth 100000 in
theorem jw_615 : Cond.instanceMethod yX6_clearText ∈ jtw := jin 672 (by decide +kernel) rfl
set_option maxRecDepth 100000 in
theorem jw_616 : Cond.selects RX6 yX6_clearText yX6_clearText ∈ jtw := jin 673 (by decide +kernel) rfl
set_option maxRecDepth 100000 in
theorem jw_617 : Cond.code yX6_clearText cX6_clearText 1 (some .int) ∈ jtw := jin 674 rfl rfl
set_option maxRecDepth 100000 in
theorem jw_618 : Cond.methodLink RX6 130 yX4_empty ∈ jtw := jin 675 (by decide +kernel) rfl
set_option maxRecDepth 100000 in
theorem jw_619 : Cond.instanceMethod yX4_empty ∈ jtw := jin 676 (by decide +kernel) rfl
set_option maxRecDepth 100000 in
theorem jw_620 : Cond.selects RX4 yX4_empty yX4_empty ∈ jtw := jin 677 (by decide +kernel) rfl
set_option maxRecDepth 100000 in
theorem jw_621 : Cond.code yX4_empty cX4_empty 2 (some .int) ∈ jtw := jin 678 rfl rfl
set_option maxRecDepth 100000 in
theorem jw_622 : Cond.methodLink RL 113 yX6_fault ∈ jtw := jin 679 (by decide +kernel) rfl
set_option maxRecDepth 100000 in
theorem jw_623 : Cond.instanceMethod yX6_fault ∈ jtw := jin 680 (by decide +kernel) rfl
set_option maxRecDepth 100000 in
theorem jw_624 : Cond.selects RX6 yX6_fault yX6_fault ∈ jtw := jin 681 (by decide +kernel) rfl
set_option maxRecDepth 100000 in
theorem jw_625 : Cond.code yX6_fault cX6_fault 2 (some .int) ∈ jtw := jin 682 rfl rfl
set_option maxRecDepth 100000 in
theorem jw_626 : Cond.methodLink RX6 134 yX5_run ∈ jtw := jin 683 (by decide +kernel) rfl
set_option maxRecDepth 100000 in
theorem jw_627 : Cond.instanceMethod yX5_run ∈ jtw := jin 684 (by decide +kernel) rfl
set_option maxRecDepth 100000 in
theorem jw_628 : Cond.selects RX5 yX5_run yX5_run ∈ jtw := jin 685 (by decide +kernel) rfl
set_option maxRecDepth 100000 in
theorem jw_629 : Cond.code yX5_run cX5_run 4 none ∈ jtw := jin 686 rfl rfl
set_option maxRecDepth 100000 in
theorem jw_630 : Cond.methodLink RX5 18 yX4_goToStart ∈ jtw := jin 687 (by decide +kernel) rfl
set_option maxRecDepth 100000 in
theorem jw_631 : Cond.instanceMethod yX4_goToStart ∈ jtw := jin 688 (by decide +kernel) rfl
set_option maxRecDepth 100000 in
theorem jw_632 : Cond.selects RX4 yX4_goToStart yX4_goToStart ∈ jtw := jin 689 (by decide +kernel) rfl
set_option maxRecDepth 100000 in
theorem jw_633 : Cond.code yX4_goToStart cX4_goToStart 1 none ∈ jtw := jin 690 rfl rfl
set_option maxRecDepth 100000 in
theorem jw_634 : Cond.methodLink RX5 23 yX4_hasMore ∈ jtw := jin 691 (by decide +kernel) rfl
set_option maxRecDepth 100000 in
theorem jw_635 : Cond.instanceMethod yX4_hasMore ∈ jtw := jin 692 (by decide +kernel) rfl
set_option maxRecDepth 100000 in
theorem jw_636 : Cond.selects RX4 yX4_hasMore yX4_hasMore ∈ jtw := jin 693 (by decide +kernel) rfl
set_option maxRecDepth 100000 in
theorem jw_637 : Cond.code yX4_hasMore cX4_hasMore 1 (some .boolean) ∈ jtw := jin 694 rfl rfl
set_option maxRecDepth 100000 in
theorem jw_638 : Cond.methodLink RX5 27 yX4_readOrder ∈ jtw := jin 695 (by decide +kernel) rfl
set_option maxRecDepth 100000 in
theorem jw_639 : Cond.instanceMethod yX4_readOrder ∈ jtw := jin 696 (by decide +kernel) rfl
set_option maxRecDepth 100000 in
theorem jw_640 : Cond.selects RX4 yX4_readOrder yX4_readOrder ∈ jtw := jin 697 (by decide +kernel) rfl
set_option maxRecDepth 100000 in
theorem jw_641 : Cond.code yX4_readOrder cX4_readOrder 1 (some .boolean) ∈ jtw := jin 698 rfl rfl
set_option maxRecDepth 100000 in
theorem jw_642 : Cond.methodLink RX4 27 yX4_readKind ∈ jtw := jin 699 (by decide +kernel) rfl
set_option maxRecDepth 100000 in
theorem jw_644 : Cond.instanceMethod yX4_readKind ∈ jtw := jin 701 (by decide +kernel) rfl
set_option maxRecDepth 100000 in
theorem jw_645 : Cond.code yX4_readKind cX4_readKind 2 (some .boolean) ∈ jtw := jin 702 rfl rfl
set_option maxRecDepth 100000 in
theorem jw_646 : Cond.methodLink RX4 49 yX4_signHere ∈ jtw := jin 703 (by decide +kernel) rfl
set_option maxRecDepth 100000 in
theorem jw_648 : Cond.instanceMethod yX4_signHere ∈ jtw := jin 705 (by decide +kernel) rfl
set_option maxRecDepth 100000 in
theorem jw_649 : Cond.code yX4_signHere cX4_signHere 2 (some .int) ∈ jtw := jin 706 rfl rfl
set_option maxRecDepth 100000 in
theorem jw_650 : Cond.methodLink RX4 31 yX4_readNumber ∈ jtw := jin 707 (by decide +kernel) rfl
set_option maxRecDepth 100000 in
theorem jw_652 : Cond.instanceMethod yX4_readNumber ∈ jtw := jin 709 (by decide +kernel) rfl
set_option maxRecDepth 100000 in
theorem jw_653 : Cond.code yX4_readNumber cX4_readNumber 3 (some .int) ∈ jtw := jin 710 rfl rfl
set_option maxRecDepth 100000 in
theorem jw_654 : Cond.methodLink RX4 52 yX4_readDigit ∈ jtw := jin 711 (by decide +kernel) rfl
set_option maxRecDepth 100000 in
theorem jw_656 : Cond.instanceMethod yX4_readDigit ∈ jtw := jin 713 (by decide +kernel) rfl
set_option maxRecDepth 100000 in
theorem jw_657 : Cond.code yX4_readDigit cX4_readDigit 2 (some .int) ∈ jtw := jin 714 rfl rfl
set_option maxRecDepth 100000 in
theorem jw_658 : Cond.methodLink RX4 45 yX4_readSign ∈ jtw := jin 715 (by decide +kernel) rfl
set_option maxRecDepth 100000 in
theorem jw_660 : Cond.instanceMethod yX4_readSign ∈ jtw := jin 717 (by decide +kernel) rfl
set_option maxRecDepth 100000 in
theorem jw_661 : Cond.code yX4_readSign cX4_readSign 2 (some .boolean) ∈ jtw := jin 718 rfl rfl
set_option maxRecDepth 100000 in
theorem jw_662 : Cond.methodLink RX5 43 yX2_obey ∈ jtw := jin 719 (by decide +kernel) rfl
set_option maxRecDepth 100000 in
theorem jw_663 : Cond.instanceMethod yX2_obey ∈ jtw := jin 720 (by decide +kernel) rfl
set_option maxRecDepth 100000 in
theorem jw_664 : Cond.selects RX2 yX2_obey yX2_obey ∈ jtw := jin 721 (by decide +kernel) rfl
set_option maxRecDepth 100000 in
theorem jw_665 : Cond.code yX2_obey cX2_obey 4 (some .int) ∈ jtw := jin 722 rfl rfl
set_option maxRecDepth 100000 in
theorem jw_666 : Cond.methodLink RX2 172 yX2_addBoiler ∈ jtw := jin 723 (by decide +kernel) rfl
set_option maxRecDepth 100000 in
theorem jw_667 : Cond.methodLink RX2 175 yX2_examine ∈ jtw := jin 724 (by decide +kernel) rfl
set_option maxRecDepth 100000 in
theorem jw_668 : Cond.methodLink RX2 179 yX2_light ∈ jtw := jin 725 (by decide +kernel) rfl
set_option maxRecDepth 100000 in
theorem jw_669 : Cond.methodLink RX2 182 yX2_putOut ∈ jtw := jin 726 (by decide +kernel) rfl
set_option maxRecDepth 100000 in
theorem jw_670 : Cond.methodLink RX2 185 yX2_sendToRepair ∈ jtw := jin 727 (by decide +kernel) rfl
set_option maxRecDepth 100000 in
theorem jw_671 : Cond.methodLink RX2 188 yX2_letWeeksPass ∈ jtw := jin 728 (by decide +kernel) rfl
set_option maxRecDepth 100000 in
theorem jw_672 : Cond.methodLink RX5 49 yX5_takeAnswer ∈ jtw := jin 729 (by decide +kernel) rfl
set_option maxRecDepth 100000 in
theorem jw_674 : Cond.instanceMethod yX5_takeAnswer ∈ jtw := jin 731 (by decide +kernel) rfl
set_option maxRecDepth 100000 in
theorem jw_675 : Cond.code yX5_takeAnswer cX5_takeAnswer 3 none ∈ jtw := jin 732 rfl rfl
set_option maxRecDepth 100000 in
theorem jw_677 : Cond.methodLink RX5 57 yX5_stopAt ∈ jtw := jin 734 (by decide +kernel) rfl
set_option maxRecDepth 100000 in
theorem jw_679 : Cond.instanceMethod yX5_stopAt ∈ jtw := jin 736 (by decide +kernel) rfl
set_option maxRecDepth 100000 in
theorem jw_680 : Cond.code yX5_stopAt cX5_stopAt 4 none ∈ jtw := jin 737 rfl rfl
set_option maxRecDepth 100000 in
theorem jw_681 : Cond.methodLink RX5 53 yX4_brokeOffAt ∈ jtw := jin 738 (by decide +kernel) rfl
set_option maxRecDepth 100000 in
theorem jw_682 : Cond.instanceMethod yX4_brokeOffAt ∈ jtw := jin 739 (by decide +kernel) rfl
set_option maxRecDepth 100000 in
theorem jw_683 : Cond.selects RX4 yX4_brokeOffAt yX4_brokeOffAt ∈ jtw := jin 740 (by decide +kernel) rfl
set_option maxRecDepth 100000 in
theorem jw_684 : Cond.code yX4_brokeOffAt cX4_brokeOffAt 1 (some .int) ∈ jtw := jin 741 rfl rfl
set_option maxRecDepth 100000 in
theorem jw_685 : Cond.methodLink RX6 138 yX5_factOfFault ∈ jtw := jin 742 (by decide +kernel) rfl
set_option maxRecDepth 100000 in
theorem jw_686 : Cond.instanceMethod yX5_factOfFault ∈ jtw := jin 743 (by decide +kernel) rfl
set_option maxRecDepth 100000 in
theorem jw_687 : Cond.selects RX5 yX5_factOfFault yX5_factOfFault ∈ jtw := jin 744 (by decide +kernel) rfl
set_option maxRecDepth 100000 in
theorem jw_688 : Cond.code yX5_factOfFault cX5_factOfFault 2 (some .int) ∈ jtw := jin 745 rfl rfl
set_option maxRecDepth 100000 in
theorem jw_689 : Cond.constant RX5 72 (-2000000004) ∈ jtw := jin 746 (by decide +kernel) rfl
set_option maxRecDepth 100000 in
theorem jw_690 : Cond.methodLink RL 117 yX6_play ∈ jtw := jin 747 (by decide +kernel) rfl
set_option maxRecDepth 100000 in
theorem jw_691 : Cond.instanceMethod yX6_play ∈ jtw := jin 748 (by decide +kernel) rfl
set_option maxRecDepth 100000 in
theorem jw_692 : Cond.selects RX6 yX6_play yX6_play ∈ jtw := jin 749 (by decide +kernel) rfl
set_option maxRecDepth 100000 in
theorem jw_693 : Cond.code yX6_play cX6_play 1 (some .int) ∈ jtw := jin 750 rfl rfl
set_option maxRecDepth 100000 in
theorem jw_694 : Cond.methodLink RX6 141 yX5_ordersDone ∈ jtw := jin 751 (by decide +kernel) rfl
set_option maxRecDepth 100000 in
theorem jw_695 : Cond.instanceMethod yX5_ordersDone ∈ jtw := jin 752 (by decide +kernel) rfl
set_option maxRecDepth 100000 in
theorem jw_696 : Cond.selects RX5 yX5_ordersDone yX5_ordersDone ∈ jtw := jin 753 (by decide +kernel) rfl
set_option maxRecDepth 100000 in
theorem jw_697 : Cond.code yX5_ordersDone cX5_ordersDone 1 (some .int) ∈ jtw := jin 754 rfl rfl
set_option maxRecDepth 100000 in
theorem jw_698 : Cond.constant RX5 71 (-2000000002) ∈ jtw := jin 755 (by decide +kernel) rfl
set_option maxRecDepth 100000 in
theorem jw_699 : Cond.classLink RL 10 RX7 ∈ jtw := jin 756 (by decide +kernel) rfl
set_option maxRecDepth 100000 in
theorem jw_700 : Cond.instantiable RX7 13 ∈ jtw := jin 757 (by decide +kernel) rfl
set_option maxRecDepth 100000 in
theorem jw_701 : Cond.methodLink RL 12 yX7_init ∈ jtw := jin 758 (by decide +kernel) rfl
set_option maxRecDepth 100000 in
theorem jw_702 : Cond.instanceMethod yX7_init ∈ jtw := jin 759 (by decide +kernel) rfl
set_option maxRecDepth 100000 in
theorem jw_703 : Cond.code yX7_init cX7_init 1 none ∈ jtw := jin 760 rfl rfl
set_option maxRecDepth 100000 in
theorem jw_704 : Cond.methodLink RX7 1 objectInit ∈ jtw := jin 761 (by decide +kernel) rfl
set_option maxRecDepth 100000 in
theorem jw_705 : Cond.fieldLink RX7 7 "BoilerPapersModel" "s" "[I" ∈ jtw := jin 762 (by decide +kernel) rfl
set_option maxRecDepth 100000 in
theorem jw_706 : Cond.fieldLink RX7 13 "BoilerPapersModel" "begun" "[I" ∈ jtw := jin 763 (by decide +kernel) rfl
set_option maxRecDepth 100000 in
theorem jw_707 : Cond.fieldLink RX7 16 "BoilerPapersModel" "past" "[I" ∈ jtw := jin 764 (by decide +kernel) rfl
set_option maxRecDepth 100000 in
theorem jw_708 : Cond.fieldLink RX7 26 "BoilerPapersModel" "states" "I" ∈ jtw := jin 765 (by decide +kernel) rfl
set_option maxRecDepth 100000 in
theorem jw_709 : Cond.fieldLink RX7 19 "BoilerPapersModel" "text" "[I" ∈ jtw := jin 766 (by decide +kernel) rfl
set_option maxRecDepth 100000 in
theorem jw_710 : Cond.fieldLink RX7 135 "BoilerPapersModel" "length" "I" ∈ jtw := jin 767 (by decide +kernel) rfl
set_option maxRecDepth 100000 in
theorem jw_711 : Cond.fieldLink RX7 138 "BoilerPapersModel" "at" "I" ∈ jtw := jin 768 (by decide +kernel) rfl
set_option maxRecDepth 100000 in
theorem jw_712 : Cond.fieldLink RX7 161 "BoilerPapersModel" "from" "I" ∈ jtw := jin 769 (by decide +kernel) rfl
set_option maxRecDepth 100000 in
theorem jw_713 : Cond.fieldLink RX7 158 "BoilerPapersModel" "done" "I" ∈ jtw := jin 770 (by decide +kernel) rfl
set_option maxRecDepth 100000 in
theorem jw_714 : Cond.fieldLink RX7 176 "BoilerPapersModel" "told" "I" ∈ jtw := jin 771 (by decide +kernel) rfl
set_option maxRecDepth 100000 in
theorem jw_715 : Cond.fieldLink RX7 144 "BoilerPapersModel" "isForm" "Z" ∈ jtw := jin 772 (by decide +kernel) rfl
set_option maxRecDepth 100000 in
theorem jw_716 : Cond.fieldLink RX7 152 "BoilerPapersModel" "one" "I" ∈ jtw := jin 773 (by decide +kernel) rfl
set_option maxRecDepth 100000 in
theorem jw_717 : Cond.fieldLink RX7 155 "BoilerPapersModel" "other" "I" ∈ jtw := jin 774 (by decide +kernel) rfl
set_option maxRecDepth 100000 in
theorem jw_718 : Cond.laysFinal RX7 "BoilerPapersModel" "s" "[I" ∈ jtw := jin 775 (by decide +kernel) rfl
set_option maxRecDepth 100000 in
theorem jw_720 : Cond.laysFinal RX7 "BoilerPapersModel" "begun" "[I" ∈ jtw := jin 777 (by decide +kernel) rfl
set_option maxRecDepth 100000 in
theorem jw_722 : Cond.laysFinal RX7 "BoilerPapersModel" "past" "[I" ∈ jtw := jin 779 (by decide +kernel) rfl
set_option maxRecDepth 100000 in
theorem jw_724 : Cond.lays RX7 "BoilerPapersModel" "states" "I" ∈ jtw := jin 781 (by decide +kernel) rfl
set_option maxRecDepth 100000 in
theorem jw_726 : Cond.laysFinal RX7 "BoilerPapersModel" "text" "[I" ∈ jtw := jin 783 (by decide +kernel) rfl
set_option maxRecDepth 100000 in
theorem jw_728 : Cond.lays RX7 "BoilerPapersModel" "length" "I" ∈ jtw := jin 785 (by decide +kernel) rfl
set_option maxRecDepth 100000 in
theorem jw_730 : Cond.lays RX7 "BoilerPapersModel" "at" "I" ∈ jtw := jin 787 (by decide +kernel) rfl
set_option maxRecDepth 100000 in
theorem jw_732 : Cond.lays RX7 "BoilerPapersModel" "from" "I" ∈ jtw := jin 789 (by decide +kernel) rfl
set_option maxRecDepth 100000 in
theorem jw_734 : Cond.lays RX7 "BoilerPapersModel" "done" "I" ∈ jtw := jin 791 (by decide +kernel) rfl
set_option maxRecDepth 100000 in
theorem jw_736 : Cond.lays RX7 "BoilerPapersModel" "told" "I" ∈ jtw := jin 793 (by decide +kernel) rfl
set_option maxRecDepth 100000 in
theorem jw_738 : Cond.lays RX7 "BoilerPapersModel" "isForm" "Z" ∈ jtw := jin 795 (by decide +kernel) rfl
set_option maxRecDepth 100000 in
theorem jw_740 : Cond.lays RX7 "BoilerPapersModel" "one" "I" ∈ jtw := jin 797 (by decide +kernel) rfl
set_option maxRecDepth 100000 in
theorem jw_742 : Cond.lays RX7 "BoilerPapersModel" "other" "I" ∈ jtw := jin 799 (by decide +kernel) rfl
set_option maxRecDepth 100000 in
theorem jw_745 : Cond.methodLink RL 17 yX7_boiler ∈ jtw := jin 802 (by decide +kernel) rfl
set_option maxRecDepth 100000 in
theorem jw_746 : Cond.instanceMethod yX7_boiler ∈ jtw := jin 803 (by decide +kernel) rfl
set_option maxRecDepth 100000 in
theorem jw_747 : Cond.selects RX7 yX7_boiler yX7_boiler ∈ jtw := jin 804 (by decide +kernel) rfl
set_option maxRecDepth 100000 in
theorem jw_748 : Cond.code yX7_boiler cX7_boiler 2 (some .int) ∈ jtw := jin 805 rfl rfl
set_option maxRecDepth 100000 in
theorem jw_749 : Cond.methodLink RX7 97 yX7_begins ∈ jtw := jin 806 (by decide +kernel) rfl
set_option maxRecDepth 100000 in
theorem jw_751 : Cond.instanceMethod yX7_begins ∈ jtw := jin 808 (by decide +kernel) rfl
set_option maxRecDepth 100000 in
theorem jw_752 : Cond.code yX7_begins cX7_begins 2 none ∈ jtw := jin 809 rfl rfl
set_option maxRecDepth 100000 in
theorem jw_753 : Cond.methodLink RX7 100 yX7_comes ∈ jtw := jin 810 (by decide +kernel) rfl
set_option maxRecDepth 100000 in
theorem jw_755 : Cond.instanceMethod yX7_comes ∈ jtw := jin 812 (by decide +kernel) rfl
set_option maxRecDepth 100000 in
theorem jw_756 : Cond.code yX7_comes cX7_comes 4 (some .int) ∈ jtw := jin 813 rfl rfl
set_option maxRecDepth 100000 in
theorem jw_757 : Cond.methodLink RX7 30 yX7_in ∈ jtw := jin 814 (by decide +kernel) rfl
set_option maxRecDepth 100000 in
theorem jw_758 : Cond.static yX7_in ∈ jtw := jin 815 (by decide +kernel) rfl
set_option maxRecDepth 100000 in
theorem jw_759 : Cond.code yX7_in cX7_in 3 (some .boolean) ∈ jtw := jin 816 rfl rfl
set_option maxRecDepth 100000 in
theorem jw_760 : Cond.constant RX7 22 (-2000000001) ∈ jtw := jin 817 (by decide +kernel) rfl
set_option maxRecDepth 100000 in
theorem jw_761 : Cond.constant RX7 66 (-2000000003) ∈ jtw := jin 818 (by decide +kernel) rfl
set_option maxRecDepth 100000 in
theorem jw_762 : Cond.methodLink RX7 52 yX7_lays ∈ jtw := jin 819 (by decide +kernel) rfl
set_option maxRecDepth 100000 in
theorem jw_764 : Cond.instanceMethod yX7_lays ∈ jtw := jin 821 (by decide +kernel) rfl
set_option maxRecDepth 100000 in
theorem jw_765 : Cond.code yX7_lays cX7_lays 4 none ∈ jtw := jin 822 rfl rfl
set_option maxRecDepth 100000 in
theorem jw_766 : Cond.methodLink RX7 103 yX7_acted ∈ jtw := jin 823 (by decide +kernel) rfl
set_option maxRecDepth 100000 in
theorem jw_768 : Cond.instanceMethod yX7_acted ∈ jtw := jin 825 (by decide +kernel) rfl
set_option maxRecDepth 100000 in
theorem jw_769 : Cond.code yX7_acted cX7_acted 3 (some .int) ∈ jtw := jin 826 rfl rfl
set_option maxRecDepth 100000 in
theorem jw_770 : Cond.methodLink RX7 23 yX7_returns ∈ jtw := jin 827 (by decide +kernel) rfl
set_option maxRecDepth 100000 in
theorem jw_772 : Cond.instanceMethod yX7_returns ∈ jtw := jin 829 (by decide +kernel) rfl
set_option maxRecDepth 100000 in
theorem jw_773 : Cond.code yX7_returns cX7_returns 2 none ∈ jtw := jin 830 rfl rfl
set_option maxRecDepth 100000 in
theorem jw_774 : Cond.methodLink RL 22 yX7_inspector ∈ jtw := jin 831 (by decide +kernel) rfl
set_option maxRecDepth 100000 in
theorem jw_775 : Cond.instanceMethod yX7_inspector ∈ jtw := jin 832 (by decide +kernel) rfl
set_option maxRecDepth 100000 in
theorem jw_776 : Cond.selects RX7 yX7_inspector yX7_inspector ∈ jtw := jin 833 (by decide +kernel) rfl
set_option maxRecDepth 100000 in
theorem jw_777 : Cond.code yX7_inspector cX7_inspector 4 (some .int) ∈ jtw := jin 834 rfl rfl
set_option maxRecDepth 100000 in
theorem jw_778 : Cond.methodLink RL 26 yX7_press ∈ jtw := jin 835 (by decide +kernel) rfl
set_option maxRecDepth 100000 in
theorem jw_779 : Cond.instanceMethod yX7_press ∈ jtw := jin 836 (by decide +kernel) rfl
set_option maxRecDepth 100000 in
theorem jw_780 : Cond.selects RX7 yX7_press yX7_press ∈ jtw := jin 837 (by decide +kernel) rfl
set_option maxRecDepth 100000 in
theorem jw_781 : Cond.code yX7_press cX7_press 4 (some .int) ∈ jtw := jin 838 rfl rfl
set_option maxRecDepth 100000 in
theorem jw_782 : Cond.methodLink RX7 67 yX7_isBoiler ∈ jtw := jin 839 (by decide +kernel) rfl
set_option maxRecDepth 100000 in
theorem jw_784 : Cond.instanceMethod yX7_isBoiler ∈ jtw := jin 841 (by decide +kernel) rfl
set_option maxRecDepth 100000 in
theorem jw_785 : Cond.code yX7_isBoiler cX7_isBoiler 2 (some .boolean) ∈ jtw := jin 842 rfl rfl
set_option maxRecDepth 100000 in
theorem jw_786 : Cond.methodLink RX7 34 yX7_of ∈ jtw := jin 843 (by decide +kernel) rfl
set_option maxRecDepth 100000 in
theorem jw_788 : Cond.instanceMethod yX7_of ∈ jtw := jin 845 (by decide +kernel) rfl
set_option maxRecDepth 100000 in
theorem jw_789 : Cond.code yX7_of cX7_of 3 (some .int) ∈ jtw := jin 846 rfl rfl
set_option maxRecDepth 100000 in
theorem jw_790 : Cond.constant RX7 76 (-2000000002) ∈ jtw := jin 847 (by decide +kernel) rfl
set_option maxRecDepth 100000 in
theorem jw_791 : Cond.methodLink RL 30 yX7_inspect ∈ jtw := jin 848 (by decide +kernel) rfl
set_option maxRecDepth 100000 in
theorem jw_792 : Cond.instanceMethod yX7_inspect ∈ jtw := jin 849 (by decide +kernel) rfl
set_option maxRecDepth 100000 in
theorem jw_793 : Cond.selects RX7 yX7_inspect yX7_inspect ∈ jtw := jin 850 (by decide +kernel) rfl
set_option maxRecDepth 100000 in
theorem jw_794 : Cond.code yX7_inspect cX7_inspect 3 (some .int) ∈ jtw := jin 851 rfl rfl
set_option maxRecDepth 100000 in
theorem jw_795 : Cond.methodLink RX7 106 yX7_inspects ∈ jtw := jin 852 (by decide +kernel) rfl
set_option maxRecDepth 100000 in
theorem jw_797 : Cond.instanceMethod yX7_inspects ∈ jtw := jin 854 (by decide +kernel) rfl
set_option maxRecDepth 100000 in
theorem jw_798 : Cond.code yX7_inspects cX7_inspects 5 (some .int) ∈ jtw := jin 855 rfl rfl
set_option maxRecDepth 100000 in
theorem jw_799 : Cond.methodLink RX7 70 yX7_isInspector ∈ jtw := jin 856 (by decide +kernel) rfl
set_option maxRecDepth 100000 in
theorem jw_801 : Cond.instanceMethod yX7_isInspector ∈ jtw := jin 858 (by decide +kernel) rfl
set_option maxRecDepth 100000 in
theorem jw_802 : Cond.code yX7_isInspector cX7_isInspector 2 (some .boolean) ∈ jtw := jin 859 rfl rfl
set_option maxRecDepth 100000 in
theorem jw_803 : Cond.methodLink RX7 73 yX7_whyNotInspected ∈ jtw := jin 860 (by decide +kernel) rfl
set_option maxRecDepth 100000 in
theorem jw_805 : Cond.instanceMethod yX7_whyNotInspected ∈ jtw := jin 862 (by decide +kernel) rfl
set_option maxRecDepth 100000 in
theorem jw_806 : Cond.code yX7_whyNotInspected cX7_whyNotInspected 3 (some .int) ∈ jtw := jin 863 rfl rfl
set_option maxRecDepth 100000 in
theorem jw_807 : Cond.methodLink RX7 49 yX7_by ∈ jtw := jin 864 (by decide +kernel) rfl
set_option maxRecDepth 100000 in
theorem jw_809 : Cond.instanceMethod yX7_by ∈ jtw := jin 866 (by decide +kernel) rfl
set_option maxRecDepth 100000 in
theorem jw_810 : Cond.code yX7_by cX7_by 3 (some .int) ∈ jtw := jin 867 rfl rfl
set_option maxRecDepth 100000 in
theorem jw_811 : Cond.methodLink RX7 77 yX7_pressureBy ∈ jtw := jin 868 (by decide +kernel) rfl
set_option maxRecDepth 100000 in
theorem jw_813 : Cond.instanceMethod yX7_pressureBy ∈ jtw := jin 870 (by decide +kernel) rfl
set_option maxRecDepth 100000 in
theorem jw_814 : Cond.code yX7_pressureBy cX7_pressureBy 4 (some .int) ∈ jtw := jin 871 rfl rfl
set_option maxRecDepth 100000 in
theorem jw_815 : Cond.methodLink RX7 38 yX7_strength ∈ jtw := jin 872 (by decide +kernel) rfl
set_option maxRecDepth 100000 in
theorem jw_817 : Cond.instanceMethod yX7_strength ∈ jtw := jin 874 (by decide +kernel) rfl
set_option maxRecDepth 100000 in
theorem jw_818 : Cond.code yX7_strength cX7_strength 2 (some .int) ∈ jtw := jin 875 rfl rfl
set_option maxRecDepth 100000 in
theorem jw_819 : Cond.methodLink RX7 80 yX7_pays ∈ jtw := jin 876 (by decide +kernel) rfl
set_option maxRecDepth 100000 in
theorem jw_821 : Cond.instanceMethod yX7_pays ∈ jtw := jin 878 (by decide +kernel) rfl
set_option maxRecDepth 100000 in
theorem jw_822 : Cond.code yX7_pays cX7_pays 3 none ∈ jtw := jin 879 rfl rfl
set_option maxRecDepth 100000 in
theorem jw_823 : Cond.methodLink RX7 84 yX7_counts ∈ jtw := jin 880 (by decide +kernel) rfl
set_option maxRecDepth 100000 in
theorem jw_825 : Cond.instanceMethod yX7_counts ∈ jtw := jin 882 (by decide +kernel) rfl
set_option maxRecDepth 100000 in
theorem jw_826 : Cond.code yX7_counts cX7_counts 3 none ∈ jtw := jin 883 rfl rfl
set_option maxRecDepth 100000 in
theorem jw_827 : Cond.methodLink RX7 87 yX7_lastBy ∈ jtw := jin 884 (by decide +kernel) rfl
set_option maxRecDepth 100000 in
theorem jw_829 : Cond.instanceMethod yX7_lastBy ∈ jtw := jin 886 (by decide +kernel) rfl
set_option maxRecDepth 100000 in
theorem jw_830 : Cond.code yX7_lastBy cX7_lastBy 3 (some .int) ∈ jtw := jin 887 rfl rfl
set_option maxRecDepth 100000 in
theorem jw_831 : Cond.methodLink RL 34 yX7_fire ∈ jtw := jin 888 (by decide +kernel) rfl
set_option maxRecDepth 100000 in
theorem jw_832 : Cond.instanceMethod yX7_fire ∈ jtw := jin 889 (by decide +kernel) rfl
set_option maxRecDepth 100000 in
theorem jw_833 : Cond.selects RX7 yX7_fire yX7_fire ∈ jtw := jin 890 (by decide +kernel) rfl
set_option maxRecDepth 100000 in
theorem jw_834 : Cond.code yX7_fire cX7_fire 2 (some .int) ∈ jtw := jin 891 rfl rfl
set_option maxRecDepth 100000 in
theorem jw_835 : Cond.methodLink RX7 109 yX7_fires ∈ jtw := jin 892 (by decide +kernel) rfl
set_option maxRecDepth 100000 in
theorem jw_837 : Cond.instanceMethod yX7_fires ∈ jtw := jin 894 (by decide +kernel) rfl
set_option maxRecDepth 100000 in
theorem jw_838 : Cond.code yX7_fires cX7_fires 2 (some .int) ∈ jtw := jin 895 rfl rfl
set_option maxRecDepth 100000 in
theorem jw_839 : Cond.methodLink RX7 90 yX7_whyNotFired ∈ jtw := jin 896 (by decide +kernel) rfl
set_option maxRecDepth 100000 in
theorem jw_841 : Cond.instanceMethod yX7_whyNotFired ∈ jtw := jin 898 (by decide +kernel) rfl
set_option maxRecDepth 100000 in
theorem jw_842 : Cond.code yX7_whyNotFired cX7_whyNotFired 2 (some .int) ∈ jtw := jin 899 rfl rfl
set_option maxRecDepth 100000 in
theorem jw_843 : Cond.methodLink RX7 42 yX7_isShut ∈ jtw := jin 900 (by decide +kernel) rfl
set_option maxRecDepth 100000 in
theorem jw_845 : Cond.instanceMethod yX7_isShut ∈ jtw := jin 902 (by decide +kernel) rfl
set_option maxRecDepth 100000 in
theorem jw_846 : Cond.code yX7_isShut cX7_isShut 2 (some .boolean) ∈ jtw := jin 903 rfl rfl
set_option maxRecDepth 100000 in
theorem jw_847 : Cond.methodLink RX7 46 yX7_hasPaper ∈ jtw := jin 904 (by decide +kernel) rfl
set_option maxRecDepth 100000 in
theorem jw_849 : Cond.instanceMethod yX7_hasPaper ∈ jtw := jin 906 (by decide +kernel) rfl
set_option maxRecDepth 100000 in
theorem jw_850 : Cond.code yX7_hasPaper cX7_hasPaper 2 (some .boolean) ∈ jtw := jin 907 rfl rfl
set_option maxRecDepth 100000 in
theorem jw_851 : Cond.methodLink RL 38 yX7_out ∈ jtw := jin 908 (by decide +kernel) rfl
set_option maxRecDepth 100000 in
theorem jw_852 : Cond.instanceMethod yX7_out ∈ jtw := jin 909 (by decide +kernel) rfl
set_option maxRecDepth 100000 in
theorem jw_853 : Cond.selects RX7 yX7_out yX7_out ∈ jtw := jin 910 (by decide +kernel) rfl
set_option maxRecDepth 100000 in
theorem jw_854 : Cond.code yX7_out cX7_out 2 (some .int) ∈ jtw := jin 911 rfl rfl
set_option maxRecDepth 100000 in
theorem jw_855 : Cond.methodLink RX7 112 yX7_puts ∈ jtw := jin 912 (by decide +kernel) rfl
set_option maxRecDepth 100000 in
theorem jw_857 : Cond.instanceMethod yX7_puts ∈ jtw := jin 914 (by decide +kernel) rfl
set_option maxRecDepth 100000 in
theorem jw_858 : Cond.code yX7_puts cX7_puts 2 (some .int) ∈ jtw := jin 915 rfl rfl
set_option maxRecDepth 100000 in
theorem jw_859 : Cond.methodLink RX7 56 yX7_cools ∈ jtw := jin 916 (by decide +kernel) rfl
set_option maxRecDepth 100000 in
theorem jw_861 : Cond.instanceMethod yX7_cools ∈ jtw := jin 918 (by decide +kernel) rfl
set_option maxRecDepth 100000 in
theorem jw_862 : Cond.code yX7_cools cX7_cools 2 none ∈ jtw := jin 919 rfl rfl
set_option maxRecDepth 100000 in
theorem jw_863 : Cond.methodLink RL 43 yX7_plan ∈ jtw := jin 920 (by decide +kernel) rfl
set_option maxRecDepth 100000 in
theorem jw_864 : Cond.instanceMethod yX7_plan ∈ jtw := jin 921 (by decide +kernel) rfl
set_option maxRecDepth 100000 in
theorem jw_865 : Cond.selects RX7 yX7_plan yX7_plan ∈ jtw := jin 922 (by decide +kernel) rfl
set_option maxRecDepth 100000 in
theorem jw_866 : Cond.code yX7_plan cX7_plan 4 (some .int) ∈ jtw := jin 923 rfl rfl
set_option maxRecDepth 100000 in
theorem jw_867 : Cond.methodLink RL 47 yX7_repair ∈ jtw := jin 924 (by decide +kernel) rfl
set_option maxRecDepth 100000 in
theorem jw_868 : Cond.instanceMethod yX7_repair ∈ jtw := jin 925 (by decide +kernel) rfl
set_option maxRecDepth 100000 in
theorem jw_869 : Cond.selects RX7 yX7_repair yX7_repair ∈ jtw := jin 926 (by decide +kernel) rfl
set_option maxRecDepth 100000 in
theorem jw_870 : Cond.code yX7_repair cX7_repair 2 (some .int) ∈ jtw := jin 927 rfl rfl
set_option maxRecDepth 100000 in
theorem jw_871 : Cond.methodLink RX7 115 yX7_sends ∈ jtw := jin 928 (by decide +kernel) rfl
set_option maxRecDepth 100000 in
theorem jw_873 : Cond.instanceMethod yX7_sends ∈ jtw := jin 930 (by decide +kernel) rfl
set_option maxRecDepth 100000 in
theorem jw_874 : Cond.code yX7_sends cX7_sends 3 (some .int) ∈ jtw := jin 931 rfl rfl
set_option maxRecDepth 100000 in
theorem jw_875 : Cond.methodLink RL 51 yX7_pass ∈ jtw := jin 932 (by decide +kernel) rfl
set_option maxRecDepth 100000 in
theorem jw_876 : Cond.instanceMethod yX7_pass ∈ jtw := jin 933 (by decide +kernel) rfl
set_option maxRecDepth 100000 in
theorem jw_877 : Cond.selects RX7 yX7_pass yX7_pass ∈ jtw := jin 934 (by decide +kernel) rfl
set_option maxRecDepth 100000 in
theorem jw_878 : Cond.code yX7_pass cX7_pass 2 (some .int) ∈ jtw := jin 935 rfl rfl
set_option maxRecDepth 100000 in
theorem jw_879 : Cond.methodLink RX7 118 yX7_passes ∈ jtw := jin 936 (by decide +kernel) rfl
set_option maxRecDepth 100000 in
theorem jw_881 : Cond.instanceMethod yX7_passes ∈ jtw := jin 938 (by decide +kernel) rfl
set_option maxRecDepth 100000 in
theorem jw_882 : Cond.code yX7_passes cX7_passes 4 (some .int) ∈ jtw := jin 939 rfl rfl
set_option maxRecDepth 100000 in
theorem jw_883 : Cond.methodLink RX7 93 yX7_week ∈ jtw := jin 940 (by decide +kernel) rfl
set_option maxRecDepth 100000 in
theorem jw_885 : Cond.instanceMethod yX7_week ∈ jtw := jin 942 (by decide +kernel) rfl
set_option maxRecDepth 100000 in
theorem jw_886 : Cond.code yX7_week cX7_week 3 (some .int) ∈ jtw := jin 943 rfl rfl
set_option maxRecDepth 100000 in
theorem jw_887 : Cond.methodLink RX7 60 yX7_grows ∈ jtw := jin 944 (by decide +kernel) rfl
set_option maxRecDepth 100000 in
theorem jw_889 : Cond.instanceMethod yX7_grows ∈ jtw := jin 946 (by decide +kernel) rfl
set_option maxRecDepth 100000 in
theorem jw_890 : Cond.code yX7_grows cX7_grows 3 none ∈ jtw := jin 947 rfl rfl
set_option maxRecDepth 100000 in
theorem jw_891 : Cond.methodLink RX7 63 yX7_repairs ∈ jtw := jin 948 (by decide +kernel) rfl
set_option maxRecDepth 100000 in
theorem jw_893 : Cond.instanceMethod yX7_repairs ∈ jtw := jin 950 (by decide +kernel) rfl
set_option maxRecDepth 100000 in
theorem jw_894 : Cond.code yX7_repairs cX7_repairs 2 none ∈ jtw := jin 951 rfl rfl
set_option maxRecDepth 100000 in
theorem jw_895 : Cond.methodLink RL 55 yX7_set ∈ jtw := jin 952 (by decide +kernel) rfl
set_option maxRecDepth 100000 in
theorem jw_896 : Cond.instanceMethod yX7_set ∈ jtw := jin 953 (by decide +kernel) rfl
set_option maxRecDepth 100000 in
theorem jw_897 : Cond.selects RX7 yX7_set yX7_set ∈ jtw := jin 954 (by decide +kernel) rfl
set_option maxRecDepth 100000 in
theorem jw_898 : Cond.code yX7_set cX7_set 4 (some .int) ∈ jtw := jin 955 rfl rfl
set_option maxRecDepth 100000 in
theorem jw_899 : Cond.methodLink RL 59 yX7_boilerOf ∈ jtw := jin 956 (by decide +kernel) rfl
set_option maxRecDepth 100000 in
theorem jw_900 : Cond.instanceMethod yX7_boilerOf ∈ jtw := jin 957 (by decide +kernel) rfl
set_option maxRecDepth 100000 in
theorem jw_901 : Cond.selects RX7 yX7_boilerOf yX7_boilerOf ∈ jtw := jin 958 (by decide +kernel) rfl
set_option maxRecDepth 100000 in
theorem jw_902 : Cond.code yX7_boilerOf cX7_boilerOf 3 (some .int) ∈ jtw := jin 959 rfl rfl
set_option maxRecDepth 100000 in
theorem jw_903 : Cond.constant RX7 121 (-2000000004) ∈ jtw := jin 960 (by decide +kernel) rfl
set_option maxRecDepth 100000 in
theorem jw_904 : Cond.methodLink RL 63 yX7_paperOf ∈ jtw := jin 961 (by decide +kernel) rfl
set_option maxRecDepth 100000 in
theorem jw_905 : Cond.instanceMethod yX7_paperOf ∈ jtw := jin 962 (by decide +kernel) rfl
set_option maxRecDepth 100000 in
theorem jw_906 : Cond.selects RX7 yX7_paperOf yX7_paperOf ∈ jtw := jin 963 (by decide +kernel) rfl
set_option maxRecDepth 100000 in
theorem jw_907 : Cond.code yX7_paperOf cX7_paperOf 3 (some .int) ∈ jtw := jin 964 rfl rfl
set_option maxRecDepth 100000 in
theorem jw_908 : Cond.methodLink RL 67 yX7_inspectorOf ∈ jtw := jin 965 (by decide +kernel) rfl
set_option maxRecDepth 100000 in
theorem jw_909 : Cond.instanceMethod yX7_inspectorOf ∈ jtw := jin 966 (by decide +kernel) rfl
set_option maxRecDepth 100000 in
theorem jw_910 : Cond.selects RX7 yX7_inspectorOf yX7_inspectorOf ∈ jtw := jin 967 (by decide +kernel) rfl
set_option maxRecDepth 100000 in
theorem jw_911 : Cond.code yX7_inspectorOf cX7_inspectorOf 3 (some .int) ∈ jtw := jin 968 rfl rfl
set_option maxRecDepth 100000 in
theorem jw_912 : Cond.methodLink RL 71 yX7_why ∈ jtw := jin 969 (by decide +kernel) rfl
set_option maxRecDepth 100000 in
theorem jw_913 : Cond.instanceMethod yX7_why ∈ jtw := jin 970 (by decide +kernel) rfl
set_option maxRecDepth 100000 in
theorem jw_914 : Cond.selects RX7 yX7_why yX7_why ∈ jtw := jin 971 (by decide +kernel) rfl
set_option maxRecDepth 100000 in
theorem jw_915 : Cond.code yX7_why cX7_why 3 (some .int) ∈ jtw := jin 972 rfl rfl
set_option maxRecDepth 100000 in
theorem jw_916 : Cond.methodLink RL 75 yX7_account ∈ jtw := jin 973 (by decide +kernel) rfl
set_option maxRecDepth 100000 in
theorem jw_917 : Cond.instanceMethod yX7_account ∈ jtw := jin 974 (by decide +kernel) rfl
set_option maxRecDepth 100000 in
theorem jw_918 : Cond.selects RX7 yX7_account yX7_account ∈ jtw := jin 975 (by decide +kernel) rfl
set_option maxRecDepth 100000 in
theorem jw_919 : Cond.code yX7_account cX7_account 2 (some .int) ∈ jtw := jin 976 rfl rfl
set_option maxRecDepth 100000 in
theorem jw_920 : Cond.methodLink RL 79 yX7_would ∈ jtw := jin 977 (by decide +kernel) rfl
set_option maxRecDepth 100000 in
theorem jw_921 : Cond.instanceMethod yX7_would ∈ jtw := jin 978 (by decide +kernel) rfl
set_option maxRecDepth 100000 in
theorem jw_922 : Cond.selects RX7 yX7_would yX7_would ∈ jtw := jin 979 (by decide +kernel) rfl
set_option maxRecDepth 100000 in
theorem jw_923 : Cond.code yX7_would cX7_would 5 (some .int) ∈ jtw := jin 980 rfl rfl
set_option maxRecDepth 100000 in
theorem jw_924 : Cond.methodLink RL 83 yX7_better ∈ jtw := jin 981 (by decide +kernel) rfl
set_option maxRecDepth 100000 in
theorem jw_925 : Cond.instanceMethod yX7_better ∈ jtw := jin 982 (by decide +kernel) rfl
set_option maxRecDepth 100000 in
theorem jw_926 : Cond.selects RX7 yX7_better yX7_better ∈ jtw := jin 983 (by decide +kernel) rfl
set_option maxRecDepth 100000 in
theorem jw_927 : Cond.code yX7_better cX7_better 6 (some .int) ∈ jtw := jin 984 rfl rfl
set_option maxRecDepth 100000 in
theorem jw_928 : Cond.methodLink RX7 122 yX7_wouldDo ∈ jtw := jin 985 (by decide +kernel) rfl
set_option maxRecDepth 100000 in
theorem jw_930 : Cond.instanceMethod yX7_wouldDo ∈ jtw := jin 987 (by decide +kernel) rfl
set_option maxRecDepth 100000 in
theorem jw_931 : Cond.code yX7_wouldDo cX7_wouldDo 3 (some .boolean) ∈ jtw := jin 988 rfl rfl
set_option maxRecDepth 100000 in
theorem jw_932 : Cond.methodLink RL 87 yX7_first ∈ jtw := jin 989 (by decide +kernel) rfl
set_option maxRecDepth 100000 in
theorem jw_933 : Cond.instanceMethod yX7_first ∈ jtw := jin 990 (by decide +kernel) rfl
set_option maxRecDepth 100000 in
theorem jw_934 : Cond.selects RX7 yX7_first yX7_first ∈ jtw := jin 991 (by decide +kernel) rfl
set_option maxRecDepth 100000 in
theorem jw_935 : Cond.code yX7_first cX7_first 5 (some .int) ∈ jtw := jin 992 rfl rfl
set_option maxRecDepth 100000 in
theorem jw_936 : Cond.methodLink RL 91 yX7_goesOn ∈ jtw := jin 993 (by decide +kernel) rfl
set_option maxRecDepth 100000 in
theorem jw_937 : Cond.instanceMethod yX7_goesOn ∈ jtw := jin 994 (by decide +kernel) rfl
set_option maxRecDepth 100000 in
theorem jw_938 : Cond.selects RX7 yX7_goesOn yX7_goesOn ∈ jtw := jin 995 (by decide +kernel) rfl
set_option maxRecDepth 100000 in
theorem jw_939 : Cond.code yX7_goesOn cX7_goesOn 4 (some .int) ∈ jtw := jin 996 rfl rfl
set_option maxRecDepth 100000 in
theorem jw_940 : Cond.methodLink RL 95 yX7_share ∈ jtw := jin 997 (by decide +kernel) rfl
set_option maxRecDepth 100000 in
theorem jw_941 : Cond.instanceMethod yX7_share ∈ jtw := jin 998 (by decide +kernel) rfl
set_option maxRecDepth 100000 in
theorem jw_942 : Cond.selects RX7 yX7_share yX7_share ∈ jtw := jin 999 (by decide +kernel) rfl
set_option maxRecDepth 100000 in
theorem jw_943 : Cond.code yX7_share cX7_share 4 (some .int) ∈ jtw := jin 1000 rfl rfl
set_option maxRecDepth 100000 in
theorem jw_944 : Cond.methodLink RX7 126 yJxf58ca_floatToIntBits_5c35a ∈ jtw := jin 1001 (by decide +kernel) rfl
set_option maxRecDepth 100000 in
theorem jw_945 : Cond.static yJxf58ca_floatToIntBits_5c35a ∈ jtw := jin 1002 (by decide +kernel) rfl
set_option maxRecDepth 100000 in
theorem jw_946 : Cond.code yJxf58ca_floatToIntBits_5c35a cJxf58ca_floatToIntBits_5c35a 1 (some .int) ∈ jtw := jin 1003 rfl rfl
set_option maxRecDepth 100000 in
theorem jw_947 : Cond.methodLink RJxf58ca 59 yJxf58ca_isNaN_12338 ∈ jtw := jin 1004 (by decide +kernel) rfl
set_option maxRecDepth 100000 in
theorem jw_948 : Cond.static yJxf58ca_isNaN_12338 ∈ jtw := jin 1005 (by decide +kernel) rfl
set_option maxRecDepth 100000 in
theorem jw_949 : Cond.code yJxf58ca_isNaN_12338 cJxf58ca_isNaN_12338 1 (some .boolean) ∈ jtw := jin 1006 rfl rfl
set_option maxRecDepth 100000 in
theorem jw_953 : Cond.constant RJxf58ca 77 (2143289344) ∈ jtw := jin 1010 (by decide +kernel) rfl
set_option maxRecDepth 100000 in
theorem jw_954 : Cond.methodLink RL 99 yX7_count ∈ jtw := jin 1011 (by decide +kernel) rfl
set_option maxRecDepth 100000 in
theorem jw_955 : Cond.instanceMethod yX7_count ∈ jtw := jin 1012 (by decide +kernel) rfl
set_option maxRecDepth 100000 in
theorem jw_956 : Cond.selects RX7 yX7_count yX7_count ∈ jtw := jin 1013 (by decide +kernel) rfl
set_option maxRecDepth 100000 in
theorem jw_957 : Cond.code yX7_count cX7_count 2 (some .int) ∈ jtw := jin 1014 rfl rfl
set_option maxRecDepth 100000 in
theorem jw_958 : Cond.methodLink RX7 132 yX7_set0 ∈ jtw := jin 1015 (by decide +kernel) rfl
set_option maxRecDepth 100000 in
theorem jw_960 : Cond.instanceMethod yX7_set0 ∈ jtw := jin 1017 (by decide +kernel) rfl
set_option maxRecDepth 100000 in
theorem jw_961 : Cond.code yX7_set0 cX7_set0 5 (some .int) ∈ jtw := jin 1018 rfl rfl
set_option maxRecDepth 100000 in
theorem jw_962 : Cond.methodLink RL 104 yX7_undo ∈ jtw := jin 1019 (by decide +kernel) rfl
set_option maxRecDepth 100000 in
theorem jw_963 : Cond.instanceMethod yX7_undo ∈ jtw := jin 1020 (by decide +kernel) rfl
set_option maxRecDepth 100000 in
theorem jw_964 : Cond.selects RX7 yX7_undo yX7_undo ∈ jtw := jin 1021 (by decide +kernel) rfl
set_option maxRecDepth 100000 in
theorem jw_965 : Cond.code yX7_undo cX7_undo 2 (some .int) ∈ jtw := jin 1022 rfl rfl
set_option maxRecDepth 100000 in
theorem jw_966 : Cond.methodLink RL 108 yX7_type ∈ jtw := jin 1023 (by decide +kernel) rfl
set_option maxRecDepth 100000 in
theorem jw_967 : Cond.instanceMethod yX7_type ∈ jtw := jin 1024 (by decide +kernel) rfl
set_option maxRecDepth 100000 in
theorem jw_968 : Cond.selects RX7 yX7_type yX7_type ∈ jtw := jin 1025 (by decide +kernel) rfl
set_option maxRecDepth 100000 in
theorem jw_969 : Cond.code yX7_type cX7_type 2 (some .int) ∈ jtw := jin 1026 rfl rfl
set_option maxRecDepth 100000 in
theorem jw_970 : Cond.methodLink RL 112 yX7_clearText ∈ jtw := jin 1027 (by decide +kernel) rfl
set_option maxRecDepth 100000 in
theorem jw_971 : Cond.instanceMethod yX7_clearText ∈ jtw := jin 1028 (by decide +kernel) rfl
set_option maxRecDepth 100000 in
theorem jw_972 : Cond.selects RX7 yX7_clearText yX7_clearText ∈ jtw := jin 1029 (by decide +kernel) rfl
set_option maxRecDepth 100000 in
theorem jw_973 : Cond.code yX7_clearText cX7_clearText 2 (some .int) ∈ jtw := jin 1030 rfl rfl
set_option maxRecDepth 100000 in
theorem jw_974 : Cond.methodLink RL 116 yX7_fault ∈ jtw := jin 1031 (by decide +kernel) rfl
set_option maxRecDepth 100000 in
theorem jw_975 : Cond.instanceMethod yX7_fault ∈ jtw := jin 1032 (by decide +kernel) rfl
set_option maxRecDepth 100000 in
theorem jw_976 : Cond.selects RX7 yX7_fault yX7_fault ∈ jtw := jin 1033 (by decide +kernel) rfl
set_option maxRecDepth 100000 in
theorem jw_977 : Cond.code yX7_fault cX7_fault 3 (some .int) ∈ jtw := jin 1034 rfl rfl
set_option maxRecDepth 100000 in
theorem jw_978 : Cond.methodLink RX7 179 yX7_doesAll ∈ jtw := jin 1035 (by decide +kernel) rfl
set_option maxRecDepth 100000 in
theorem jw_980 : Cond.instanceMethod yX7_doesAll ∈ jtw := jin 1037 (by decide +kernel) rfl
set_option maxRecDepth 100000 in
theorem jw_981 : Cond.code yX7_doesAll cX7_doesAll 2 (some .boolean) ∈ jtw := jin 1038 rfl rfl
set_option maxRecDepth 100000 in
theorem jw_982 : Cond.methodLink RX7 141 yX7_here ∈ jtw := jin 1039 (by decide +kernel) rfl
set_option maxRecDepth 100000 in
theorem jw_984 : Cond.instanceMethod yX7_here ∈ jtw := jin 1041 (by decide +kernel) rfl
set_option maxRecDepth 100000 in
theorem jw_985 : Cond.code yX7_here cX7_here 1 (some .int) ∈ jtw := jin 1042 rfl rfl
set_option maxRecDepth 100000 in
theorem jw_986 : Cond.methodLink RX7 164 yX7_isOrder ∈ jtw := jin 1043 (by decide +kernel) rfl
set_option maxRecDepth 100000 in
theorem jw_987 : Cond.static yX7_isOrder ∈ jtw := jin 1044 (by decide +kernel) rfl
set_option maxRecDepth 100000 in
theorem jw_988 : Cond.code yX7_isOrder cX7_isOrder 1 (some .boolean) ∈ jtw := jin 1045 rfl rfl
set_option maxRecDepth 100000 in
theorem jw_989 : Cond.methodLink RX7 167 yX7_number ∈ jtw := jin 1046 (by decide +kernel) rfl
set_option maxRecDepth 100000 in
theorem jw_991 : Cond.instanceMethod yX7_number ∈ jtw := jin 1048 (by decide +kernel) rfl
set_option maxRecDepth 100000 in
theorem jw_992 : Cond.code yX7_number cX7_number 3 (some .int) ∈ jtw := jin 1049 rfl rfl
set_option maxRecDepth 100000 in
theorem jw_993 : Cond.methodLink RX7 148 yX7_isDigit ∈ jtw := jin 1050 (by decide +kernel) rfl
set_option maxRecDepth 100000 in
theorem jw_995 : Cond.instanceMethod yX7_isDigit ∈ jtw := jin 1052 (by decide +kernel) rfl
set_option maxRecDepth 100000 in
theorem jw_996 : Cond.code yX7_isDigit cX7_isDigit 1 (some .boolean) ∈ jtw := jin 1053 rfl rfl
set_option maxRecDepth 100000 in
theorem jw_997 : Cond.methodLink RX7 170 yX7_takesSign ∈ jtw := jin 1054 (by decide +kernel) rfl
set_option maxRecDepth 100000 in
theorem jw_999 : Cond.instanceMethod yX7_takesSign ∈ jtw := jin 1056 (by decide +kernel) rfl
set_option maxRecDepth 100000 in
theorem jw_1000 : Cond.code yX7_takesSign cX7_takesSign 2 none ∈ jtw := jin 1057 rfl rfl
set_option maxRecDepth 100000 in
theorem jw_1001 : Cond.methodLink RX7 173 yX7_called ∈ jtw := jin 1058 (by decide +kernel) rfl
set_option maxRecDepth 100000 in
theorem jw_1003 : Cond.instanceMethod yX7_called ∈ jtw := jin 1060 (by decide +kernel) rfl
set_option maxRecDepth 100000 in
theorem jw_1004 : Cond.code yX7_called cX7_called 2 (some .int) ∈ jtw := jin 1061 rfl rfl
set_option maxRecDepth 100000 in
theorem jw_1005 : Cond.methodLink RL 120 yX7_play ∈ jtw := jin 1062 (by decide +kernel) rfl
set_option maxRecDepth 100000 in
theorem jw_1006 : Cond.instanceMethod yX7_play ∈ jtw := jin 1063 (by decide +kernel) rfl
set_option maxRecDepth 100000 in
theorem jw_1007 : Cond.selects RX7 yX7_play yX7_play ∈ jtw := jin 1064 (by decide +kernel) rfl
set_option maxRecDepth 100000 in
theorem jw_1008 : Cond.code yX7_play cX7_play 1 (some .int) ∈ jtw := jin 1065 rfl rfl
theorem jws_0 : Cond.selects RX6 yX6_trialOfNow yX6_trialOfNow ∈ jtw := jin 0 (by decide +kernel) rfl
theorem jws_1 : Cond.selects RX2 yX2_boilerAt yX2_boilerAt ∈ jtw := jin 1 (by decide +kernel) rfl
theorem jws_2 : Cond.selects RX2 yX2_inspectorAt yX2_inspectorAt ∈ jtw := jin 2 (by decide +kernel) rfl
theorem jws_3 : Cond.selects RX6 yX6_settle yX6_settle ∈ jtw := jin 3 (by decide +kernel) rfl
theorem jws_4 : Cond.selects RX1 yX1_stateAt yX1_stateAt ∈ jtw := jin 4 (by decide +kernel) rfl
theorem jws_5 : Cond.selects RX2 yX2_pressureOffered yX2_pressureOffered ∈ jtw := jin 5 (by decide +kernel) rfl
theorem jws_6 : Cond.selects RX2 yX2_settingAt yX2_settingAt ∈ jtw := jin 6 (by decide +kernel) rfl
theorem jws_7 : Cond.selects RX2 yX2_lastWeekOffered yX2_lastWeekOffered ∈ jtw := jin 7 (by decide +kernel) rfl
theorem jws_8 : Cond.selects RX2 yX2_ownerPays yX2_ownerPays ∈ jtw := jin 8 (by decide +kernel) rfl
theorem jws_9 : Cond.selects RX2 yX2_letOneWeekPass yX2_letOneWeekPass ∈ jtw := jin 9 (by decide +kernel) rfl
theorem jws_10 : Cond.selects RX2 yX2_isOneBetter yX2_isOneBetter ∈ jtw := jin 10 (by decide +kernel) rfl
theorem jws_11 : Cond.selects RX2 yX2_setOfBoilers yX2_setOfBoilers ∈ jtw := jin 11 (by decide +kernel) rfl
theorem jws_12 : Cond.selects RX2 yX2_isInSet yX2_isInSet ∈ jtw := jin 12 (by decide +kernel) rfl
theorem jws_13 : Cond.selects RX2 yX2_allAccounts yX2_allAccounts ∈ jtw := jin 13 (by decide +kernel) rfl
theorem jws_14 : Cond.selects RX2 yX2_allOfInspectors yX2_allOfInspectors ∈ jtw := jin 14 (by decide +kernel) rfl
theorem jws_15 : Cond.selects RX4 yX4_readKind yX4_readKind ∈ jtw := jin 15 (by decide +kernel) rfl
theorem jws_16 : Cond.selects RX4 yX4_signHere yX4_signHere ∈ jtw := jin 16 (by decide +kernel) rfl
theorem jws_17 : Cond.selects RX4 yX4_readNumber yX4_readNumber ∈ jtw := jin 17 (by decide +kernel) rfl
theorem jws_18 : Cond.selects RX4 yX4_readDigit yX4_readDigit ∈ jtw := jin 18 (by decide +kernel) rfl
theorem jws_19 : Cond.selects RX4 yX4_readSign yX4_readSign ∈ jtw := jin 19 (by decide +kernel) rfl
theorem jws_20 : Cond.selects RX5 yX5_takeAnswer yX5_takeAnswer ∈ jtw := jin 20 (by decide +kernel) rfl
theorem jws_21 : Cond.selects RX5 yX5_stopAt yX5_stopAt ∈ jtw := jin 21 (by decide +kernel) rfl
theorem jws_22 : Cond.selects RX7 yX7_begins yX7_begins ∈ jtw := jin 22 (by decide +kernel) rfl
theorem jws_23 : Cond.selects RX7 yX7_comes yX7_comes ∈ jtw := jin 23 (by decide +kernel) rfl
theorem jws_24 : Cond.selects RX7 yX7_lays yX7_lays ∈ jtw := jin 24 (by decide +kernel) rfl
theorem jws_25 : Cond.selects RX7 yX7_acted yX7_acted ∈ jtw := jin 25 (by decide +kernel) rfl
theorem jws_26 : Cond.selects RX7 yX7_returns yX7_returns ∈ jtw := jin 26 (by decide +kernel) rfl
theorem jws_27 : Cond.selects RX7 yX7_isBoiler yX7_isBoiler ∈ jtw := jin 27 (by decide +kernel) rfl
theorem jws_28 : Cond.selects RX7 yX7_of yX7_of ∈ jtw := jin 28 (by decide +kernel) rfl
theorem jws_29 : Cond.selects RX7 yX7_inspects yX7_inspects ∈ jtw := jin 29 (by decide +kernel) rfl
theorem jws_30 : Cond.selects RX7 yX7_isInspector yX7_isInspector ∈ jtw := jin 30 (by decide +kernel) rfl
theorem jws_31 : Cond.selects RX7 yX7_whyNotInspected yX7_whyNotInspected ∈ jtw := jin 31 (by decide +kernel) rfl
theorem jws_32 : Cond.selects RX7 yX7_by yX7_by ∈ jtw := jin 32 (by decide +kernel) rfl
theorem jws_33 : Cond.selects RX7 yX7_pressureBy yX7_pressureBy ∈ jtw := jin 33 (by decide +kernel) rfl
theorem jws_34 : Cond.selects RX7 yX7_strength yX7_strength ∈ jtw := jin 34 (by decide +kernel) rfl
theorem jws_35 : Cond.selects RX7 yX7_pays yX7_pays ∈ jtw := jin 35 (by decide +kernel) rfl
theorem jws_36 : Cond.selects RX7 yX7_counts yX7_counts ∈ jtw := jin 36 (by decide +kernel) rfl
theorem jws_37 : Cond.selects RX7 yX7_lastBy yX7_lastBy ∈ jtw := jin 37 (by decide +kernel) rfl
theorem jws_38 : Cond.selects RX7 yX7_fires yX7_fires ∈ jtw := jin 38 (by decide +kernel) rfl
theorem jws_39 : Cond.selects RX7 yX7_whyNotFired yX7_whyNotFired ∈ jtw := jin 39 (by decide +kernel) rfl
theorem jws_40 : Cond.selects RX7 yX7_isShut yX7_isShut ∈ jtw := jin 40 (by decide +kernel) rfl
theorem jws_41 : Cond.selects RX7 yX7_hasPaper yX7_hasPaper ∈ jtw := jin 41 (by decide +kernel) rfl
theorem jws_42 : Cond.selects RX7 yX7_puts yX7_puts ∈ jtw := jin 42 (by decide +kernel) rfl
theorem jws_43 : Cond.selects RX7 yX7_cools yX7_cools ∈ jtw := jin 43 (by decide +kernel) rfl
theorem jws_44 : Cond.selects RX7 yX7_sends yX7_sends ∈ jtw := jin 44 (by decide +kernel) rfl
theorem jws_45 : Cond.selects RX7 yX7_passes yX7_passes ∈ jtw := jin 45 (by decide +kernel) rfl
theorem jws_46 : Cond.selects RX7 yX7_week yX7_week ∈ jtw := jin 46 (by decide +kernel) rfl
theorem jws_47 : Cond.selects RX7 yX7_grows yX7_grows ∈ jtw := jin 47 (by decide +kernel) rfl
theorem jws_48 : Cond.selects RX7 yX7_repairs yX7_repairs ∈ jtw := jin 48 (by decide +kernel) rfl
theorem jws_49 : Cond.selects RX7 yX7_wouldDo yX7_wouldDo ∈ jtw := jin 49 (by decide +kernel) rfl
theorem jws_50 : Cond.selects RX7 yX7_set0 yX7_set0 ∈ jtw := jin 50 (by decide +kernel) rfl
theorem jws_51 : Cond.selects RX7 yX7_doesAll yX7_doesAll ∈ jtw := jin 51 (by decide +kernel) rfl
theorem jws_52 : Cond.selects RX7 yX7_here yX7_here ∈ jtw := jin 52 (by decide +kernel) rfl
theorem jws_53 : Cond.selects RX7 yX7_number yX7_number ∈ jtw := jin 53 (by decide +kernel) rfl
theorem jws_54 : Cond.selects RX7 yX7_isDigit yX7_isDigit ∈ jtw := jin 54 (by decide +kernel) rfl
theorem jws_55 : Cond.selects RX7 yX7_takesSign yX7_takesSign ∈ jtw := jin 55 (by decide +kernel) rfl
theorem jws_56 : Cond.selects RX7 yX7_called yX7_called ∈ jtw := jin 56 (by decide +kernel) rfl
theorem jinX0 : ∀ w ∈ u_ws RX0 TX0 14, w ∈ jtw := by
  intro w hw
  obtain ⟨k, hk, rfl⟩ := List.mem_map.mp hw
  have hk := List.mem_range.mp hk
  match k, hk with
  | 0, _ => exact jw_60
  | 1, _ => exact jw_62
  | 2, _ => exact jw_64
  | 3, _ => exact jw_66
  | 4, _ => exact jw_68
  | 5, _ => exact jw_70
  | 6, _ => exact jw_72
  | 7, _ => exact jw_74
  | 8, _ => exact jw_76
  | 9, _ => exact jw_78
  | 10, _ => exact jw_80
  | 11, _ => exact jw_82
  | 12, _ => exact jw_84
  | 13, _ => exact jw_86
  | k + 14, hk => omega
theorem jinX1 : ∀ w ∈ u_ws RX1 TX1 3, w ∈ jtw := by
  intro w hw
  obtain ⟨k, hk, rfl⟩ := List.mem_map.mp hw
  have hk := List.mem_range.mp hk
  match k, hk with
  | 0, _ => exact jw_152
  | 1, _ => exact jw_154
  | 2, _ => exact jw_156
  | k + 3, hk => omega
theorem jinX2 : ∀ w ∈ u_ws RX2 TX2 9, w ∈ jtw := by
  intro w hw
  obtain ⟨k, hk, rfl⟩ := List.mem_map.mp hw
  have hk := List.mem_range.mp hk
  match k, hk with
  | 0, _ => exact jw_121
  | 1, _ => exact jw_123
  | 2, _ => exact jw_125
  | 3, _ => exact jw_127
  | 4, _ => exact jw_129
  | 5, _ => exact jw_131
  | 6, _ => exact jw_133
  | 7, _ => exact jw_135
  | 8, _ => exact jw_137
  | k + 9, hk => omega
theorem jinX3 : ∀ w ∈ u_ws RX3 TX3 5, w ∈ jtw := by
  intro w hw
  obtain ⟨k, hk, rfl⟩ := List.mem_map.mp hw
  have hk := List.mem_range.mp hk
  match k, hk with
  | 0, _ => exact jw_101
  | 1, _ => exact jw_103
  | 2, _ => exact jw_105
  | 3, _ => exact jw_107
  | 4, _ => exact jw_109
  | k + 5, hk => omega
theorem jinX4 : ∀ w ∈ u_ws RX4 TX4 7, w ∈ jtw := by
  intro w hw
  obtain ⟨k, hk, rfl⟩ := List.mem_map.mp hw
  have hk := List.mem_range.mp hk
  match k, hk with
  | 0, _ => exact jw_176
  | 1, _ => exact jw_178
  | 2, _ => exact jw_180
  | 3, _ => exact jw_182
  | 4, _ => exact jw_184
  | 5, _ => exact jw_186
  | 6, _ => exact jw_188
  | k + 7, hk => omega
theorem jinX5 : ∀ w ∈ u_ws RX5 TX5 4, w ∈ jtw := by
  intro w hw
  obtain ⟨k, hk, rfl⟩ := List.mem_map.mp hw
  have hk := List.mem_range.mp hk
  match k, hk with
  | 0, _ => exact jw_202
  | 1, _ => exact jw_204
  | 2, _ => exact jw_206
  | 3, _ => exact jw_208
  | k + 4, hk => omega
theorem jinX6 : ∀ w ∈ u_ws RX6 TX6 5, w ∈ jtw := by
  intro w hw
  obtain ⟨k, hk, rfl⟩ := List.mem_map.mp hw
  have hk := List.mem_range.mp hk
  match k, hk with
  | 0, _ => exact jw_216
  | 1, _ => exact jw_218
  | 2, _ => exact jw_220
  | 3, _ => exact jw_222
  | 4, _ => exact jw_224
  | k + 5, hk => omega
theorem jinX7 : ∀ w ∈ u_ws RX7 TX7 13, w ∈ jtw := by
  intro w hw
  obtain ⟨k, hk, rfl⟩ := List.mem_map.mp hw
  have hk := List.mem_range.mp hk
  match k, hk with
  | 0, _ => exact jw_718
  | 1, _ => exact jw_720
  | 2, _ => exact jw_722
  | 3, _ => exact jw_724
  | 4, _ => exact jw_726
  | 5, _ => exact jw_728
  | 6, _ => exact jw_730
  | 7, _ => exact jw_732
  | 8, _ => exact jw_734
  | 9, _ => exact jw_736
  | 10, _ => exact jw_738
  | 11, _ => exact jw_740
  | 12, _ => exact jw_742
  | k + 13, hk => omega
