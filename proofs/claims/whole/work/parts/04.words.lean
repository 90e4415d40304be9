set_option maxRecDepth 100000 in
theorem k_43 : Cond.initialized "DeputyTownLaw" ∈ lw_tg := lw_ofs 43 (by decide +kernel) rfl
set_option maxRecDepth 100000 in
theorem k_44 : Cond.initialized "DeputyTown" ∈ lw_tg := lw_ofs 44 (by decide +kernel) rfl
set_option maxRecDepth 100000 in
theorem k_45 : Cond.initialized "DeputyTown$Town" ∈ lw_tg := lw_ofs 45 (by decide +kernel) rfl
set_option maxRecDepth 100000 in
theorem k_46 : Cond.initialized "DeputyTown$Thing" ∈ lw_tg := lw_ofs 46 (by decide +kernel) rfl
set_option maxRecDepth 100000 in
theorem k_47 : Cond.initialized "DeputyTown$Breaks" ∈ lw_tg := lw_ofs 47 (by decide +kernel) rfl
set_option maxRecDepth 100000 in
theorem k_48 : Cond.initialized "DeputyTown$Readings" ∈ lw_tg := lw_ofs 48 (by decide +kernel) rfl
set_option maxRecDepth 100000 in
theorem k_49 : Cond.initialized "DeputyTown$Service" ∈ lw_tg := lw_ofs 49 (by decide +kernel) rfl
set_option maxRecDepth 100000 in
theorem k_50 : Cond.initialized "DeputyTown$Trials" ∈ lw_tg := lw_ofs 50 (by decide +kernel) rfl
set_option maxRecDepth 100000 in
theorem k_51 : Cond.initialized "DeputyTown$Bodies" ∈ lw_tg := lw_ofs 51 (by decide +kernel) rfl
set_option maxRecDepth 100000 in
theorem k_52 : Cond.initialized "DeputyTown$Sheet" ∈ lw_tg := lw_ofs 52 (by decide +kernel) rfl
set_option maxRecDepth 100000 in
theorem k_53 : Cond.initialized "DeputyTownModel" ∈ lw_tg := lw_ofs 53 (by decide +kernel) rfl
set_option maxRecDepth 100000 in
theorem k_54 : Cond.initialized "DeputyTown$Text" ∈ lw_tg := lw_ofs 54 (by decide +kernel) rfl
set_option maxRecDepth 100000 in
theorem k_55 : Cond.initialized "java/lang/Math" ∈ lw_tg := lw_ofs 55 (by decide +kernel) rfl
set_option maxRecDepth 100000 in
theorem k_56 : Cond.initialized "java/util/Arrays" ∈ lw_tg := lw_ofs 56 (by decide +kernel) rfl
set_option maxRecDepth 100000 in
theorem k_57 : Cond.initialized "java/lang/Integer" ∈ lw_tg := lw_ofs 57 (by decide +kernel) rfl
set_option maxRecDepth 100000 in
theorem k_58 : Cond.initialized "java/lang/System" ∈ lw_tg := lw_ofs 58 (by decide +kernel) rfl
set_option maxRecDepth 100000 in
theorem k_59 : Cond.classLink RL 7 RX9 ∈ lw_tg := lw_ofs 59 (by decide +kernel) rfl
set_option maxRecDepth 100000 in
theorem k_60 : Cond.instantiable RX9 8 ∈ lw_tg := lw_ofs 60 (by decide +kernel) rfl
set_option maxRecDepth 100000 in
theorem k_61 : Cond.methodLink RL 9 yX9_init ∈ lw_tg := lw_ofs 61 (by decide +kernel) rfl
set_option maxRecDepth 100000 in
theorem k_62 : Cond.instanceMethod yX9_init ∈ lw_tg := lw_ofs 62 (by decide +kernel) rfl
set_option maxRecDepth 100000 in
theorem k_63 : Cond.code yX9_init cX9_init 2 none ∈ lw_tg := lw_ofs 63 rfl rfl
set_option maxRecDepth 100000 in
theorem k_64 : Cond.methodLink RX9 3 Lib.objectInit ∈ lw_tg := lw_ofs 64 (by decide +kernel) rfl
set_option maxRecDepth 100000 in
theorem k_65 : Cond.instanceMethod Lib.objectInit ∈ lw_tg := lw_ofs 65 (by decide +kernel) rfl
set_option maxRecDepth 100000 in
theorem k_66 : Cond.code Lib.objectInit ⟨#[0xb1]⟩ 1 none ∈ lw_tg := lw_ofs 66 rfl rfl
set_option maxRecDepth 100000 in
theorem k_67 : Cond.classLink RX9 11 RX4 ∈ lw_tg := lw_ofs 67 (by decide +kernel) rfl
set_option maxRecDepth 100000 in
theorem k_68 : Cond.arrayOver (.object "DeputyTown$Sheet") ∈ lw_nf := lw_ofn 68 (by decide +kernel) rfl
set_option maxRecDepth 100000 in
theorem k_69 : Cond.classLink RX9 17 RX7 ∈ lw_tg := lw_ofs 69 (by decide +kernel) rfl
set_option maxRecDepth 100000 in
theorem k_70 : Cond.instantiable RX7 3 ∈ lw_tg := lw_ofs 70 (by decide +kernel) rfl
set_option maxRecDepth 100000 in
theorem k_71 : Cond.methodLink RX9 19 yX7_init ∈ lw_tg := lw_ofs 71 (by decide +kernel) rfl
set_option maxRecDepth 100000 in
theorem k_72 : Cond.instanceMethod yX7_init ∈ lw_tg := lw_ofs 72 (by decide +kernel) rfl
set_option maxRecDepth 100000 in
theorem k_73 : Cond.code yX7_init cX7_init 2 none ∈ lw_tg := lw_ofs 73 rfl rfl
set_option maxRecDepth 100000 in
theorem k_74 : Cond.methodLink RX7 3 Lib.objectInit ∈ lw_tg := lw_ofs 74 (by decide +kernel) rfl
set_option maxRecDepth 100000 in
theorem k_75 : Cond.classLink RX7 9 RX6 ∈ lw_tg := lw_ofs 75 (by decide +kernel) rfl
set_option maxRecDepth 100000 in
theorem k_76 : Cond.arrayOver (.object "DeputyTown$Thing") ∈ lw_nf := lw_ofn 76 (by decide +kernel) rfl
set_option maxRecDepth 100000 in
theorem k_77 : Cond.instantiable RX6 6 ∈ lw_tg := lw_ofs 77 (by decide +kernel) rfl
set_option maxRecDepth 100000 in
theorem k_78 : Cond.methodLink RX7 24 yX6_init ∈ lw_tg := lw_ofs 78 (by decide +kernel) rfl
set_option maxRecDepth 100000 in
theorem k_79 : Cond.instanceMethod yX6_init ∈ lw_tg := lw_ofs 79 (by decide +kernel) rfl
set_option maxRecDepth 100000 in
theorem k_80 : Cond.code yX6_init cX6_init 2 none ∈ lw_tg := lw_ofs 80 rfl rfl
set_option maxRecDepth 100000 in
theorem k_81 : Cond.methodLink RX6 3 Lib.objectInit ∈ lw_tg := lw_ofs 81 (by decide +kernel) rfl
set_option maxRecDepth 100000 in
theorem k_82 : Cond.fieldLink RX6 27 "DeputyTown$Thing" "number" "I" ∈ lw_tg := lw_ofs 82 (by decide +kernel) rfl
set_option maxRecDepth 100000 in
theorem k_83 : Cond.fieldLinkNest RX3 66 "DeputyTown$Thing" "number" "I" "DeputyTown" ∈ lw_nf := lw_ofn 83 (by decide +kernel) rfl
set_option maxRecDepth 100000 in
theorem k_84 : Cond.fieldLinkNest RX0 44 "DeputyTown$Thing" "number" "I" "DeputyTown" ∈ lw_nf := lw_ofn 84 (by decide +kernel) rfl
set_option maxRecDepth 100000 in
theorem k_85 : Cond.fieldLink RX6 9 "DeputyTown$Thing" "kind" "I" ∈ lw_tg := lw_ofs 85 (by decide +kernel) rfl
set_option maxRecDepth 100000 in
theorem k_86 : Cond.fieldLinkNest RX0 15 "DeputyTown$Thing" "kind" "I" "DeputyTown" ∈ lw_nf := lw_ofn 86 (by decide +kernel) rfl
set_option maxRecDepth 100000 in
theorem k_87 : Cond.fieldLinkNest RX9 106 "DeputyTown$Thing" "kind" "I" "DeputyTown" ∈ lw_nf := lw_ofn 87 (by decide +kernel) rfl
set_option maxRecDepth 100000 in
theorem k_88 : Cond.fieldLink RX6 15 "DeputyTown$Thing" "deputy" "I" ∈ lw_tg := lw_ofs 88 (by decide +kernel) rfl
set_option maxRecDepth 100000 in
theorem k_89 : Cond.fieldLinkNest RX9 111 "DeputyTown$Thing" "deputy" "I" "DeputyTown" ∈ lw_nf := lw_ofn 89 (by decide +kernel) rfl
set_option maxRecDepth 100000 in
theorem k_90 : Cond.fieldLinkNest RX8 83 "DeputyTown$Thing" "deputy" "I" "DeputyTown" ∈ lw_nf := lw_ofn 90 (by decide +kernel) rfl
set_option maxRecDepth 100000 in
theorem k_91 : Cond.fieldLinkNest RX7 55 "DeputyTown$Thing" "deputy" "I" "DeputyTown" ∈ lw_nf := lw_ofn 91 (by decide +kernel) rfl
set_option maxRecDepth 100000 in
theorem k_92 : Cond.fieldLinkNest RX3 61 "DeputyTown$Thing" "deputy" "I" "DeputyTown" ∈ lw_nf := lw_ofn 92 (by decide +kernel) rfl
set_option maxRecDepth 100000 in
theorem k_93 : Cond.fieldLink RX6 18 "DeputyTown$Thing" "fit" "I" ∈ lw_tg := lw_ofs 93 (by decide +kernel) rfl
set_option maxRecDepth 100000 in
theorem k_94 : Cond.fieldLinkNest RX9 114 "DeputyTown$Thing" "fit" "I" "DeputyTown" ∈ lw_nf := lw_ofn 94 (by decide +kernel) rfl
set_option maxRecDepth 100000 in
theorem k_95 : Cond.fieldLinkNest RX0 41 "DeputyTown$Thing" "fit" "I" "DeputyTown" ∈ lw_nf := lw_ofn 95 (by decide +kernel) rfl
set_option maxRecDepth 100000 in
theorem k_96 : Cond.fieldLink RX6 21 "DeputyTown$Thing" "lasts" "I" ∈ lw_tg := lw_ofs 96 (by decide +kernel) rfl
set_option maxRecDepth 100000 in
theorem k_97 : Cond.fieldLinkNest RX9 117 "DeputyTown$Thing" "lasts" "I" "DeputyTown" ∈ lw_nf := lw_ofn 97 (by decide +kernel) rfl
set_option maxRecDepth 100000 in
theorem k_98 : Cond.fieldLinkNest RX3 77 "DeputyTown$Thing" "lasts" "I" "DeputyTown" ∈ lw_nf := lw_ofn 98 (by decide +kernel) rfl
set_option maxRecDepth 100000 in
theorem k_99 : Cond.fieldLink RX6 24 "DeputyTown$Thing" "good" "I" ∈ lw_tg := lw_ofs 99 (by decide +kernel) rfl
set_option maxRecDepth 100000 in
theorem k_100 : Cond.fieldLinkNest RX9 120 "DeputyTown$Thing" "good" "I" "DeputyTown" ∈ lw_nf := lw_ofn 100 (by decide +kernel) rfl
set_option maxRecDepth 100000 in
theorem k_101 : Cond.fieldLinkNest RX3 80 "DeputyTown$Thing" "good" "I" "DeputyTown" ∈ lw_nf := lw_ofn 101 (by decide +kernel) rfl
set_option maxRecDepth 100000 in
theorem k_102 : Cond.laysFinal "DeputyTown$Thing" "DeputyTown$Thing" "number" "I" ∈ lw_tg := lw_ofs 102 (by decide +kernel) rfl
set_option maxRecDepth 100000 in
theorem k_104 : Cond.lays "DeputyTown$Thing" "DeputyTown$Thing" "kind" "I" ∈ lw_tg := lw_ofs 104 (by decide +kernel) rfl
set_option maxRecDepth 100000 in
theorem k_106 : Cond.lays "DeputyTown$Thing" "DeputyTown$Thing" "deputy" "I" ∈ lw_tg := lw_ofs 106 (by decide +kernel) rfl
set_option maxRecDepth 100000 in
theorem k_108 : Cond.lays "DeputyTown$Thing" "DeputyTown$Thing" "fit" "I" ∈ lw_tg := lw_ofs 108 (by decide +kernel) rfl
set_option maxRecDepth 100000 in
theorem k_110 : Cond.lays "DeputyTown$Thing" "DeputyTown$Thing" "lasts" "I" ∈ lw_tg := lw_ofs 110 (by decide +kernel) rfl
set_option maxRecDepth 100000 in
theorem k_112 : Cond.lays "DeputyTown$Thing" "DeputyTown$Thing" "good" "I" ∈ lw_tg := lw_ofs 112 (by decide +kernel) rfl
set_option maxRecDepth 100000 in
theorem k_115 : Cond.fieldLink RX7 11 "DeputyTown$Town" "things" "[LDeputyTown$Thing;" ∈ lw_tg := lw_ofs 115 (by decide +kernel) rfl
set_option maxRecDepth 100000 in
theorem k_116 : Cond.fieldLink RX7 17 "DeputyTown$Town" "count" "I" ∈ lw_tg := lw_ofs 116 (by decide +kernel) rfl
set_option maxRecDepth 100000 in
theorem k_117 : Cond.fieldLinkNest RX9 101 "DeputyTown$Town" "count" "I" "DeputyTown" ∈ lw_nf := lw_ofn 117 (by decide +kernel) rfl
set_option maxRecDepth 100000 in
theorem k_118 : Cond.fieldLinkNest RX8 76 "DeputyTown$Town" "count" "I" "DeputyTown" ∈ lw_nf := lw_ofn 118 (by decide +kernel) rfl
set_option maxRecDepth 100000 in
theorem k_119 : Cond.fieldLinkNest RX3 50 "DeputyTown$Town" "count" "I" "DeputyTown" ∈ lw_nf := lw_ofn 119 (by decide +kernel) rfl
set_option maxRecDepth 100000 in
theorem k_120 : Cond.fieldLink RX7 21 "DeputyTown$Town" "law" "I" ∈ lw_tg := lw_ofs 120 (by decide +kernel) rfl
set_option maxRecDepth 100000 in
theorem k_121 : Cond.fieldLinkNest RX3 29 "DeputyTown$Town" "law" "I" "DeputyTown" ∈ lw_nf := lw_ofn 121 (by decide +kernel) rfl
set_option maxRecDepth 100000 in
theorem k_122 : Cond.fieldLinkNest RX8 53 "DeputyTown$Town" "law" "I" "DeputyTown" ∈ lw_nf := lw_ofn 122 (by decide +kernel) rfl
set_option maxRecDepth 100000 in
theorem k_123 : Cond.fieldLinkNest RX9 123 "DeputyTown$Town" "law" "I" "DeputyTown" ∈ lw_nf := lw_ofn 123 (by decide +kernel) rfl
set_option maxRecDepth 100000 in
theorem k_124 : Cond.laysFinal "DeputyTown$Town" "DeputyTown$Town" "things" "[LDeputyTown$Thing;" ∈ lw_tg := lw_ofs 124 (by decide +kernel) rfl
set_option maxRecDepth 100000 in
theorem k_126 : Cond.lays "DeputyTown$Town" "DeputyTown$Town" "count" "I" ∈ lw_tg := lw_ofs 126 (by decide +kernel) rfl
set_option maxRecDepth 100000 in
theorem k_128 : Cond.lays "DeputyTown$Town" "DeputyTown$Town" "law" "I" ∈ lw_tg := lw_ofs 128 (by decide +kernel) rfl
set_option maxRecDepth 100000 in
theorem k_131 : Cond.classLink RX9 24 RX1 ∈ lw_tg := lw_ofs 131 (by decide +kernel) rfl
set_option maxRecDepth 100000 in
theorem k_132 : Cond.instantiable RX1 4 ∈ lw_tg := lw_ofs 132 (by decide +kernel) rfl
set_option maxRecDepth 100000 in
theorem k_133 : Cond.methodLinkNest RX9 26 yX1_init "DeputyTown" ∈ lw_nf := lw_ofn 133 (by decide +kernel) rfl
set_option maxRecDepth 100000 in
theorem k_134 : Cond.instanceMethod yX1_init ∈ lw_tg := lw_ofs 134 (by decide +kernel) rfl
set_option maxRecDepth 100000 in
theorem k_135 : Cond.code yX1_init cX1_init 1 none ∈ lw_tg := lw_ofs 135 rfl rfl
set_option maxRecDepth 100000 in
theorem k_136 : Cond.methodLink RX1 3 Lib.objectInit ∈ lw_tg := lw_ofs 136 (by decide +kernel) rfl
set_option maxRecDepth 100000 in
theorem k_137 : Cond.fieldLink RX1 9 "DeputyTown$Breaks" "who" "[I" ∈ lw_tg := lw_ofs 137 (by decide +kernel) rfl
set_option maxRecDepth 100000 in
theorem k_138 : Cond.fieldLink RX1 15 "DeputyTown$Breaks" "from" "[I" ∈ lw_tg := lw_ofs 138 (by decide +kernel) rfl
set_option maxRecDepth 100000 in
theorem k_139 : Cond.fieldLink RX1 18 "DeputyTown$Breaks" "to" "[I" ∈ lw_tg := lw_ofs 139 (by decide +kernel) rfl
set_option maxRecDepth 100000 in
theorem k_140 : Cond.fieldLink RX1 21 "DeputyTown$Breaks" "count" "I" ∈ lw_tg := lw_ofs 140 (by decide +kernel) rfl
set_option maxRecDepth 100000 in
theorem k_141 : Cond.fieldLinkNest RX9 97 "DeputyTown$Breaks" "count" "I" "DeputyTown" ∈ lw_nf := lw_ofn 141 (by decide +kernel) rfl
set_option maxRecDepth 100000 in
theorem k_142 : Cond.laysFinal "DeputyTown$Breaks" "DeputyTown$Breaks" "who" "[I" ∈ lw_tg := lw_ofs 142 (by decide +kernel) rfl
set_option maxRecDepth 100000 in
theorem k_144 : Cond.laysFinal "DeputyTown$Breaks" "DeputyTown$Breaks" "from" "[I" ∈ lw_tg := lw_ofs 144 (by decide +kernel) rfl
set_option maxRecDepth 100000 in
theorem k_146 : Cond.laysFinal "DeputyTown$Breaks" "DeputyTown$Breaks" "to" "[I" ∈ lw_tg := lw_ofs 146 (by decide +kernel) rfl
set_option maxRecDepth 100000 in
theorem k_148 : Cond.lays "DeputyTown$Breaks" "DeputyTown$Breaks" "count" "I" ∈ lw_tg := lw_ofs 148 (by decide +kernel) rfl
set_option maxRecDepth 100000 in
theorem k_151 : Cond.arrayClass .int ∈ lw_tg := lw_ofs 151 (by decide +kernel) rfl
set_option maxRecDepth 100000 in
theorem k_152 : Cond.classLink RX9 31 RX2 ∈ lw_tg := lw_ofs 152 (by decide +kernel) rfl
set_option maxRecDepth 100000 in
theorem k_153 : Cond.instantiable RX2 3 ∈ lw_tg := lw_ofs 153 (by decide +kernel) rfl
set_option maxRecDepth 100000 in
theorem k_154 : Cond.methodLinkNest RX9 33 yX2_init "DeputyTown" ∈ lw_nf := lw_ofn 154 (by decide +kernel) rfl
set_option maxRecDepth 100000 in
theorem k_155 : Cond.instanceMethod yX2_init ∈ lw_tg := lw_ofs 155 (by decide +kernel) rfl
set_option maxRecDepth 100000 in
theorem k_156 : Cond.code yX2_init cX2_init 1 none ∈ lw_tg := lw_ofs 156 rfl rfl
set_option maxRecDepth 100000 in
theorem k_157 : Cond.methodLink RX2 3 Lib.objectInit ∈ lw_tg := lw_ofs 157 (by decide +kernel) rfl
set_option maxRecDepth 100000 in
theorem k_158 : Cond.fieldLink RX2 9 "DeputyTown$Readings" "uses" "[I" ∈ lw_tg := lw_ofs 158 (by decide +kernel) rfl
set_option maxRecDepth 100000 in
theorem k_159 : Cond.fieldLink RX2 15 "DeputyTown$Readings" "servers" "[I" ∈ lw_tg := lw_ofs 159 (by decide +kernel) rfl
set_option maxRecDepth 100000 in
theorem k_160 : Cond.fieldLink RX2 18 "DeputyTown$Readings" "count" "I" ∈ lw_tg := lw_ofs 160 (by decide +kernel) rfl
set_option maxRecDepth 100000 in
theorem k_161 : Cond.fieldLinkNest RX9 100 "DeputyTown$Readings" "count" "I" "DeputyTown" ∈ lw_nf := lw_ofn 161 (by decide +kernel) rfl
set_option maxRecDepth 100000 in
theorem k_162 : Cond.laysFinal "DeputyTown$Readings" "DeputyTown$Readings" "uses" "[I" ∈ lw_tg := lw_ofs 162 (by decide +kernel) rfl
set_option maxRecDepth 100000 in
theorem k_164 : Cond.laysFinal "DeputyTown$Readings" "DeputyTown$Readings" "servers" "[I" ∈ lw_tg := lw_ofs 164 (by decide +kernel) rfl
set_option maxRecDepth 100000 in
theorem k_166 : Cond.lays "DeputyTown$Readings" "DeputyTown$Readings" "count" "I" ∈ lw_tg := lw_ofs 166 (by decide +kernel) rfl
set_option maxRecDepth 100000 in
theorem k_169 : Cond.classLink RX9 38 RX3 ∈ lw_tg := lw_ofs 169 (by decide +kernel) rfl
set_option maxRecDepth 100000 in
theorem k_170 : Cond.instantiable RX3 4 ∈ lw_tg := lw_ofs 170 (by decide +kernel) rfl
set_option maxRecDepth 100000 in
theorem k_171 : Cond.methodLink RX9 40 yX3_init ∈ lw_tg := lw_ofs 171 (by decide +kernel) rfl
set_option maxRecDepth 100000 in
theorem k_172 : Cond.instanceMethod yX3_init ∈ lw_tg := lw_ofs 172 (by decide +kernel) rfl
set_option maxRecDepth 100000 in
theorem k_173 : Cond.code yX3_init cX3_init 2 none ∈ lw_tg := lw_ofs 173 rfl rfl
set_option maxRecDepth 100000 in
theorem k_174 : Cond.methodLink RX3 3 Lib.objectInit ∈ lw_tg := lw_ofs 174 (by decide +kernel) rfl
set_option maxRecDepth 100000 in
theorem k_175 : Cond.fieldLink RX3 22 "DeputyTown$Service" "folk" "LDeputyTown$Town;" ∈ lw_tg := lw_ofs 175 (by decide +kernel) rfl
set_option maxRecDepth 100000 in
theorem k_176 : Cond.fieldLink RX3 9 "DeputyTown$Service" "servers" "[I" ∈ lw_tg := lw_ofs 176 (by decide +kernel) rfl
set_option maxRecDepth 100000 in
theorem k_177 : Cond.fieldLink RX3 15 "DeputyTown$Service" "streaks" "[I" ∈ lw_tg := lw_ofs 177 (by decide +kernel) rfl
set_option maxRecDepth 100000 in
theorem k_178 : Cond.fieldLink RX3 18 "DeputyTown$Service" "standing" "I" ∈ lw_tg := lw_ofs 178 (by decide +kernel) rfl
set_option maxRecDepth 100000 in
theorem k_179 : Cond.laysFinal "DeputyTown$Service" "DeputyTown$Service" "folk" "LDeputyTown$Town;" ∈ lw_tg := lw_ofs 179 (by decide +kernel) rfl
set_option maxRecDepth 100000 in
theorem k_181 : Cond.laysFinal "DeputyTown$Service" "DeputyTown$Service" "servers" "[I" ∈ lw_tg := lw_ofs 181 (by decide +kernel) rfl
set_option maxRecDepth 100000 in
theorem k_183 : Cond.laysFinal "DeputyTown$Service" "DeputyTown$Service" "streaks" "[I" ∈ lw_tg := lw_ofs 183 (by decide +kernel) rfl
set_option maxRecDepth 100000 in
theorem k_185 : Cond.lays "DeputyTown$Service" "DeputyTown$Service" "standing" "I" ∈ lw_tg := lw_ofs 185 (by decide +kernel) rfl
set_option maxRecDepth 100000 in
theorem k_188 : Cond.classLink RX9 47 RX8 ∈ lw_tg := lw_ofs 188 (by decide +kernel) rfl
set_option maxRecDepth 100000 in
theorem k_189 : Cond.instantiable RX8 9 ∈ lw_tg := lw_ofs 189 (by decide +kernel) rfl
set_option maxRecDepth 100000 in
theorem k_190 : Cond.methodLink RX9 49 yX8_init ∈ lw_tg := lw_ofs 190 (by decide +kernel) rfl
set_option maxRecDepth 100000 in
theorem k_191 : Cond.instanceMethod yX8_init ∈ lw_tg := lw_ofs 191 (by decide +kernel) rfl
set_option maxRecDepth 100000 in
theorem k_192 : Cond.code yX8_init cX8_init 3 none ∈ lw_tg := lw_ofs 192 rfl rfl
set_option maxRecDepth 100000 in
theorem k_193 : Cond.methodLink RX8 3 Lib.objectInit ∈ lw_tg := lw_ofs 193 (by decide +kernel) rfl
set_option maxRecDepth 100000 in
theorem k_194 : Cond.fieldLink RX8 33 "DeputyTown$Trials" "folk" "LDeputyTown$Town;" ∈ lw_tg := lw_ofs 194 (by decide +kernel) rfl
set_option maxRecDepth 100000 in
theorem k_195 : Cond.fieldLink RX8 37 "DeputyTown$Trials" "service" "LDeputyTown$Service;" ∈ lw_tg := lw_ofs 195 (by decide +kernel) rfl
set_option maxRecDepth 100000 in
theorem k_196 : Cond.fieldLink RX8 9 "DeputyTown$Trials" "frailSet" "I" ∈ lw_tg := lw_ofs 196 (by decide +kernel) rfl
set_option maxRecDepth 100000 in
theorem k_197 : Cond.fieldLinkNest RX9 168 "DeputyTown$Trials" "frailSet" "I" "DeputyTown" ∈ lw_nf := lw_ofn 197 (by decide +kernel) rfl
set_option maxRecDepth 100000 in
theorem k_198 : Cond.fieldLink RX8 15 "DeputyTown$Trials" "frailUndone" "I" ∈ lw_tg := lw_ofs 198 (by decide +kernel) rfl
set_option maxRecDepth 100000 in
theorem k_199 : Cond.fieldLinkNest RX9 171 "DeputyTown$Trials" "frailUndone" "I" "DeputyTown" ∈ lw_nf := lw_ofn 199 (by decide +kernel) rfl
set_option maxRecDepth 100000 in
theorem k_200 : Cond.fieldLink RX8 18 "DeputyTown$Trials" "mendChange" "I" ∈ lw_tg := lw_ofs 200 (by decide +kernel) rfl
set_option maxRecDepth 100000 in
theorem k_201 : Cond.fieldLinkNest RX9 180 "DeputyTown$Trials" "mendChange" "I" "DeputyTown" ∈ lw_nf := lw_ofn 201 (by decide +kernel) rfl
set_option maxRecDepth 100000 in
theorem k_202 : Cond.fieldLink RX8 21 "DeputyTown$Trials" "mendUndone" "I" ∈ lw_tg := lw_ofs 202 (by decide +kernel) rfl
set_option maxRecDepth 100000 in
theorem k_203 : Cond.fieldLinkNest RX9 183 "DeputyTown$Trials" "mendUndone" "I" "DeputyTown" ∈ lw_nf := lw_ofn 203 (by decide +kernel) rfl
set_option maxRecDepth 100000 in
theorem k_204 : Cond.fieldLink RX8 24 "DeputyTown$Trials" "failedCount" "I" ∈ lw_tg := lw_ofs 204 (by decide +kernel) rfl
set_option maxRecDepth 100000 in
theorem k_205 : Cond.fieldLinkNest RX9 203 "DeputyTown$Trials" "failedCount" "I" "DeputyTown" ∈ lw_nf := lw_ofn 205 (by decide +kernel) rfl
set_option maxRecDepth 100000 in
theorem k_206 : Cond.fieldLink RX8 27 "DeputyTown$Trials" "failedFewest" "I" ∈ lw_tg := lw_ofs 206 (by decide +kernel) rfl
set_option maxRecDepth 100000 in
theorem k_207 : Cond.fieldLinkNest RX9 206 "DeputyTown$Trials" "failedFewest" "I" "DeputyTown" ∈ lw_nf := lw_ofn 207 (by decide +kernel) rfl
set_option maxRecDepth 100000 in
theorem k_208 : Cond.fieldLink RX8 30 "DeputyTown$Trials" "failedCommon" "I" ∈ lw_tg := lw_ofs 208 (by decide +kernel) rfl
set_option maxRecDepth 100000 in
theorem k_209 : Cond.fieldLinkNest RX9 209 "DeputyTown$Trials" "failedCommon" "I" "DeputyTown" ∈ lw_nf := lw_ofn 209 (by decide +kernel) rfl
set_option maxRecDepth 100000 in
theorem k_210 : Cond.laysFinal "DeputyTown$Trials" "DeputyTown$Trials" "folk" "LDeputyTown$Town;" ∈ lw_tg := lw_ofs 210 (by decide +kernel) rfl
set_option maxRecDepth 100000 in
theorem k_212 : Cond.laysFinal "DeputyTown$Trials" "DeputyTown$Trials" "service" "LDeputyTown$Service;" ∈ lw_tg := lw_ofs 212 (by decide +kernel) rfl
set_option maxRecDepth 100000 in
theorem k_214 : Cond.lays "DeputyTown$Trials" "DeputyTown$Trials" "frailSet" "I" ∈ lw_tg := lw_ofs 214 (by decide +kernel) rfl
set_option maxRecDepth 100000 in
theorem k_216 : Cond.lays "DeputyTown$Trials" "DeputyTown$Trials" "frailUndone" "I" ∈ lw_tg := lw_ofs 216 (by decide +kernel) rfl
set_option maxRecDepth 100000 in
theorem k_218 : Cond.lays "DeputyTown$Trials" "DeputyTown$Trials" "mendChange" "I" ∈ lw_tg := lw_ofs 218 (by decide +kernel) rfl
set_option maxRecDepth 100000 in
theorem k_220 : Cond.lays "DeputyTown$Trials" "DeputyTown$Trials" "mendUndone" "I" ∈ lw_tg := lw_ofs 220 (by decide +kernel) rfl
set_option maxRecDepth 100000 in
theorem k_222 : Cond.lays "DeputyTown$Trials" "DeputyTown$Trials" "failedCount" "I" ∈ lw_tg := lw_ofs 222 (by decide +kernel) rfl
set_option maxRecDepth 100000 in
theorem k_224 : Cond.lays "DeputyTown$Trials" "DeputyTown$Trials" "failedFewest" "I" ∈ lw_tg := lw_ofs 224 (by decide +kernel) rfl
set_option maxRecDepth 100000 in
theorem k_226 : Cond.lays "DeputyTown$Trials" "DeputyTown$Trials" "failedCommon" "I" ∈ lw_tg := lw_ofs 226 (by decide +kernel) rfl
set_option maxRecDepth 100000 in
theorem k_229 : Cond.classLink RX9 56 RX0 ∈ lw_tg := lw_ofs 229 (by decide +kernel) rfl
set_option maxRecDepth 100000 in
theorem k_230 : Cond.instantiable RX0 1 ∈ lw_tg := lw_ofs 230 (by decide +kernel) rfl
set_option maxRecDepth 100000 in
theorem k_231 : Cond.methodLinkNest RX9 58 yX0_init "DeputyTown" ∈ lw_nf := lw_ofn 231 (by decide +kernel) rfl
set_option maxRecDepth 100000 in
theorem k_232 : Cond.instanceMethod yX0_init ∈ lw_tg := lw_ofs 232 (by decide +kernel) rfl
set_option maxRecDepth 100000 in
theorem k_233 : Cond.code yX0_init cX0_init 1 none ∈ lw_tg := lw_ofs 233 rfl rfl
set_option maxRecDepth 100000 in
theorem k_234 : Cond.methodLink RX0 3 Lib.objectInit ∈ lw_tg := lw_ofs 234 (by decide +kernel) rfl
set_option maxRecDepth 100000 in
theorem k_235 : Cond.fieldLink RX0 9 "DeputyTown$Bodies" "left" "I" ∈ lw_tg := lw_ofs 235 (by decide +kernel) rfl
set_option maxRecDepth 100000 in
theorem k_236 : Cond.fieldLinkNest RX9 260 "DeputyTown$Bodies" "left" "I" "DeputyTown" ∈ lw_nf := lw_ofn 236 (by decide +kernel) rfl
set_option maxRecDepth 100000 in
theorem k_237 : Cond.lays "DeputyTown$Bodies" "DeputyTown$Bodies" "left" "I" ∈ lw_tg := lw_ofs 237 (by decide +kernel) rfl
set_option maxRecDepth 100000 in
theorem k_240 : Cond.instantiable RX4 4 ∈ lw_tg := lw_ofs 240 (by decide +kernel) rfl
set_option maxRecDepth 100000 in
theorem k_241 : Cond.methodLinkNest RX9 67 yX4_init "DeputyTown" ∈ lw_nf := lw_ofn 241 (by decide +kernel) rfl
set_option maxRecDepth 100000 in
theorem k_242 : Cond.instanceMethod yX4_init ∈ lw_tg := lw_ofs 242 (by decide +kernel) rfl
set_option maxRecDepth 100000 in
theorem k_243 : Cond.code yX4_init cX4_init 1 none ∈ lw_tg := lw_ofs 243 rfl rfl
set_option maxRecDepth 100000 in
theorem k_244 : Cond.methodLink RX4 3 Lib.objectInit ∈ lw_tg := lw_ofs 244 (by decide +kernel) rfl
set_option maxRecDepth 100000 in
theorem k_245 : Cond.fieldLink RX4 9 "DeputyTown$Sheet" "cells" "[I" ∈ lw_tg := lw_ofs 245 (by decide +kernel) rfl
set_option maxRecDepth 100000 in
theorem k_246 : Cond.fieldLinkNest RX9 243 "DeputyTown$Sheet" "cells" "[I" "DeputyTown" ∈ lw_nf := lw_ofn 246 (by decide +kernel) rfl
set_option maxRecDepth 100000 in
theorem k_247 : Cond.fieldLink RX4 15 "DeputyTown$Sheet" "has" "Z" ∈ lw_tg := lw_ofs 247 (by decide +kernel) rfl
set_option maxRecDepth 100000 in
theorem k_248 : Cond.fieldLinkNest RX9 227 "DeputyTown$Sheet" "has" "Z" "DeputyTown" ∈ lw_nf := lw_ofn 248 (by decide +kernel) rfl
set_option maxRecDepth 100000 in
theorem k_249 : Cond.fieldLink RX4 19 "DeputyTown$Sheet" "lane" "I" ∈ lw_tg := lw_ofs 249 (by decide +kernel) rfl
set_option maxRecDepth 100000 in
theorem k_250 : Cond.fieldLinkNest RX9 231 "DeputyTown$Sheet" "lane" "I" "DeputyTown" ∈ lw_nf := lw_ofn 250 (by decide +kernel) rfl
set_option maxRecDepth 100000 in
theorem k_251 : Cond.fieldLink RX4 23 "DeputyTown$Sheet" "length" "I" ∈ lw_tg := lw_ofs 251 (by decide +kernel) rfl
set_option maxRecDepth 100000 in
theorem k_252 : Cond.laysFinal "DeputyTown$Sheet" "DeputyTown$Sheet" "cells" "[I" ∈ lw_tg := lw_ofs 252 (by decide +kernel) rfl
set_option maxRecDepth 100000 in
theorem k_254 : Cond.lays "DeputyTown$Sheet" "DeputyTown$Sheet" "has" "Z" ∈ lw_tg := lw_ofs 254 (by decide +kernel) rfl
set_option maxRecDepth 100000 in
theorem k_256 : Cond.lays "DeputyTown$Sheet" "DeputyTown$Sheet" "lane" "I" ∈ lw_tg := lw_ofs 256 (by decide +kernel) rfl
set_option maxRecDepth 100000 in
theorem k_258 : Cond.lays "DeputyTown$Sheet" "DeputyTown$Sheet" "length" "I" ∈ lw_tg := lw_ofs 258 (by decide +kernel) rfl
set_option maxRecDepth 100000 in
theorem k_261 : Cond.fieldLink RX9 13 "DeputyTown" "sheets" "[LDeputyTown$Sheet;" ∈ lw_tg := lw_ofs 261 (by decide +kernel) rfl
set_option maxRecDepth 100000 in
theorem k_262 : Cond.fieldLink RX9 20 "DeputyTown" "folk" "LDeputyTown$Town;" ∈ lw_tg := lw_ofs 262 (by decide +kernel) rfl
set_option maxRecDepth 100000 in
theorem k_263 : Cond.fieldLink RX9 27 "DeputyTown" "breaks" "LDeputyTown$Breaks;" ∈ lw_tg := lw_ofs 263 (by decide +kernel) rfl
set_option maxRecDepth 100000 in
theorem k_264 : Cond.fieldLink RX9 34 "DeputyTown" "readings" "LDeputyTown$Readings;" ∈ lw_tg := lw_ofs 264 (by decide +kernel) rfl
set_option maxRecDepth 100000 in
theorem k_265 : Cond.fieldLink RX9 43 "DeputyTown" "service" "LDeputyTown$Service;" ∈ lw_tg := lw_ofs 265 (by decide +kernel) rfl
set_option maxRecDepth 100000 in
theorem k_266 : Cond.fieldLink RX9 52 "DeputyTown" "trials" "LDeputyTown$Trials;" ∈ lw_tg := lw_ofs 266 (by decide +kernel) rfl
set_option maxRecDepth 100000 in
theorem k_267 : Cond.fieldLink RX9 59 "DeputyTown" "bodies" "LDeputyTown$Bodies;" ∈ lw_tg := lw_ofs 267 (by decide +kernel) rfl
set_option maxRecDepth 100000 in
theorem k_268 : Cond.fieldLink RX9 63 "DeputyTown" "latestFault" "I" ∈ lw_tg := lw_ofs 268 (by decide +kernel) rfl
set_option maxRecDepth 100000 in
theorem k_269 : Cond.laysFinal "DeputyTown" "DeputyTown" "sheets" "[LDeputyTown$Sheet;" ∈ lw_tg := lw_ofs 269 (by decide +kernel) rfl
set_option maxRecDepth 100000 in
theorem k_271 : Cond.laysFinal "DeputyTown" "DeputyTown" "folk" "LDeputyTown$Town;" ∈ lw_tg := lw_ofs 271 (by decide +kernel) rfl
set_option maxRecDepth 100000 in
theorem k_273 : Cond.laysFinal "DeputyTown" "DeputyTown" "breaks" "LDeputyTown$Breaks;" ∈ lw_tg := lw_ofs 273 (by decide +kernel) rfl
set_option maxRecDepth 100000 in
theorem k_275 : Cond.laysFinal "DeputyTown" "DeputyTown" "readings" "LDeputyTown$Readings;" ∈ lw_tg := lw_ofs 275 (by decide +kernel) rfl
set_option maxRecDepth 100000 in
theorem k_277 : Cond.laysFinal "DeputyTown" "DeputyTown" "service" "LDeputyTown$Service;" ∈ lw_tg := lw_ofs 277 (by decide +kernel) rfl
set_option maxRecDepth 100000 in
theorem k_279 : Cond.laysFinal "DeputyTown" "DeputyTown" "trials" "LDeputyTown$Trials;" ∈ lw_tg := lw_ofs 279 (by decide +kernel) rfl
set_option maxRecDepth 100000 in
theorem k_281 : Cond.laysFinal "DeputyTown" "DeputyTown" "bodies" "LDeputyTown$Bodies;" ∈ lw_tg := lw_ofs 281 (by decide +kernel) rfl
set_option maxRecDepth 100000 in
theorem k_283 : Cond.lays "DeputyTown" "DeputyTown" "latestFault" "I" ∈ lw_tg := lw_ofs 283 (by decide +kernel) rfl
set_option maxRecDepth 100000 in
theorem k_286 : Cond.methodLink RL 13 yX9_town ∈ lw_tg := lw_ofs 286 (by decide +kernel) rfl
set_option maxRecDepth 100000 in
theorem k_287 : Cond.instanceMethod yX9_town ∈ lw_tg := lw_ofs 287 (by decide +kernel) rfl
set_option maxRecDepth 100000 in
theorem k_288 : Cond.selects RX9 yX9_town yX9_town ∈ lw_tg := lw_ofs 288 (by decide +kernel) rfl
set_option maxRecDepth 100000 in
theorem k_289 : Cond.code yX9_town cX9_town 8 (some .int) ∈ lw_tg := lw_ofs 289 rfl rfl
set_option maxRecDepth 100000 in
theorem k_290 : Cond.methodLink RX9 68 yX9_sheetAt ∈ lw_tg := lw_ofs 290 (by decide +kernel) rfl
set_option maxRecDepth 100000 in
theorem k_292 : Cond.instanceMethod yX9_sheetAt ∈ lw_tg := lw_ofs 292 (by decide +kernel) rfl
set_option maxRecDepth 100000 in
theorem k_293 : Cond.code yX9_sheetAt cX9_sheetAt 2 (some (.object "DeputyTown$Sheet")) ∈ lw_tg := lw_ofs 293 rfl rfl
set_option maxRecDepth 100000 in
theorem k_294 : Cond.methodLink RX9 72 yX9_isBeyond ∈ lw_tg := lw_ofs 294 (by decide +kernel) rfl
set_option maxRecDepth 100000 in
theorem k_295 : Cond.static yX9_isBeyond ∈ lw_tg := lw_ofs 295 (by decide +kernel) rfl
set_option maxRecDepth 100000 in
theorem k_296 : Cond.code yX9_isBeyond cX9_isBeyond 2 (some .boolean) ∈ lw_tg := lw_ofs 296 rfl rfl
set_option maxRecDepth 100000 in
theorem k_297 : Cond.methodLink RX9 76 yX4_rangeFault ∈ lw_tg := lw_ofs 297 (by decide +kernel) rfl
set_option maxRecDepth 100000 in
theorem k_298 : Cond.instanceMethod yX4_rangeFault ∈ lw_tg := lw_ofs 298 (by decide +kernel) rfl
set_option maxRecDepth 100000 in
theorem k_299 : Cond.selects RX4 yX4_rangeFault yX4_rangeFault ∈ lw_tg := lw_ofs 299 (by decide +kernel) rfl
set_option maxRecDepth 100000 in
theorem k_300 : Cond.code yX4_rangeFault cX4_rangeFault 4 (some .int) ∈ lw_tg := lw_ofs 300 rfl rfl
set_option maxRecDepth 100000 in
theorem k_301 : Cond.methodLink RX4 38 yX4_isOver ∈ lw_tg := lw_ofs 301 (by decide +kernel) rfl
set_option maxRecDepth 100000 in
theorem k_302 : Cond.instanceMethod yX4_isOver ∈ lw_tg := lw_ofs 302 (by decide +kernel) rfl
set_option maxRecDepth 100000 in
theorem k_303 : Cond.selects RX4 yX4_isOver yX4_isOver ∈ lw_tg := lw_ofs 303 (by decide +kernel) rfl
set_option maxRecDepth 100000 in
theorem k_304 : Cond.code yX4_isOver cX4_isOver 3 (some .boolean) ∈ lw_tg := lw_ofs 304 rfl rfl
set_option maxRecDepth 100000 in
theorem k_305 : Cond.methodLink RX9 80 yX9_cameTo ∈ lw_tg := lw_ofs 305 (by decide +kernel) rfl
set_option maxRecDepth 100000 in
theorem k_307 : Cond.instanceMethod yX9_cameTo ∈ lw_tg := lw_ofs 307 (by decide +kernel) rfl
set_option maxRecDepth 100000 in
theorem k_308 : Cond.code yX9_cameTo cX9_cameTo 2 (some .int) ∈ lw_tg := lw_ofs 308 rfl rfl
set_option maxRecDepth 100000 in
theorem k_309 : Cond.methodLink RX9 84 yX5_firstFault ∈ lw_tg := lw_ofs 309 (by decide +kernel) rfl
set_option maxRecDepth 100000 in
theorem k_310 : Cond.static yX5_firstFault ∈ lw_tg := lw_ofs 310 (by decide +kernel) rfl
set_option maxRecDepth 100000 in
theorem k_311 : Cond.code yX5_firstFault cX5_firstFault 4 (some .int) ∈ lw_tg := lw_ofs 311 rfl rfl
set_option maxRecDepth 100000 in
theorem k_312 : Cond.methodLink RX5 11 yX4_cellAt ∈ lw_tg := lw_ofs 312 (by decide +kernel) rfl
set_option maxRecDepth 100000 in
theorem k_313 : Cond.instanceMethod yX4_cellAt ∈ lw_tg := lw_ofs 313 (by decide +kernel) rfl
set_option maxRecDepth 100000 in
theorem k_314 : Cond.selects RX4 yX4_cellAt yX4_cellAt ∈ lw_tg := lw_ofs 314 (by decide +kernel) rfl
set_option maxRecDepth 100000 in
theorem k_315 : Cond.code yX4_cellAt cX4_cellAt 2 (some .int) ∈ lw_tg := lw_ofs 315 rfl rfl
set_option maxRecDepth 100000 in
theorem k_316 : Cond.methodLink RX5 17 yX5_goesOn ∈ lw_tg := lw_ofs 316 (by decide +kernel) rfl
set_option maxRecDepth 100000 in
theorem k_317 : Cond.static yX5_goesOn ∈ lw_tg := lw_ofs 317 (by decide +kernel) rfl
set_option maxRecDepth 100000 in
theorem k_318 : Cond.code yX5_goesOn cX5_goesOn 3 (some .boolean) ∈ lw_tg := lw_ofs 318 rfl rfl
set_option maxRecDepth 100000 in
theorem k_319 : Cond.methodLink RX5 32 yX5_kindBy ∈ lw_tg := lw_ofs 319 (by decide +kernel) rfl
set_option maxRecDepth 100000 in
theorem k_320 : Cond.static yX5_kindBy ∈ lw_tg := lw_ofs 320 (by decide +kernel) rfl
set_option maxRecDepth 100000 in
theorem k_321 : Cond.code yX5_kindBy cX5_kindBy 1 (some .int) ∈ lw_tg := lw_ofs 321 rfl rfl
set_option maxRecDepth 100000 in
theorem k_322 : Cond.methodLink RX5 21 yX5_thingsIn ∈ lw_tg := lw_ofs 322 (by decide +kernel) rfl
set_option maxRecDepth 100000 in
theorem k_323 : Cond.static yX5_thingsIn ∈ lw_tg := lw_ofs 323 (by decide +kernel) rfl
set_option maxRecDepth 100000 in
theorem k_324 : Cond.code yX5_thingsIn cX5_thingsIn 1 (some .int) ∈ lw_tg := lw_ofs 324 rfl rfl
set_option maxRecDepth 100000 in
theorem k_325 : Cond.methodLink RX5 24 yX5_placeOf ∈ lw_tg := lw_ofs 325 (by decide +kernel) rfl
set_option maxRecDepth 100000 in
theorem k_326 : Cond.static yX5_placeOf ∈ lw_tg := lw_ofs 326 (by decide +kernel) rfl
set_option maxRecDepth 100000 in
theorem k_327 : Cond.code yX5_placeOf cX5_placeOf 2 (some .int) ∈ lw_tg := lw_ofs 327 rfl rfl
set_option maxRecDepth 100000 in
theorem k_328 : Cond.methodLink RX5 28 yX5_firstStranger ∈ lw_tg := lw_ofs 328 (by decide +kernel) rfl
set_option maxRecDepth 100000 in
theorem k_329 : Cond.static yX5_firstStranger ∈ lw_tg := lw_ofs 329 (by decide +kernel) rfl
set_option maxRecDepth 100000 in
theorem k_330 : Cond.code yX5_firstStranger cX5_firstStranger 5 (some .int) ∈ lw_tg := lw_ofs 330 rfl rfl
set_option maxRecDepth 100000 in
theorem k_331 : Cond.methodLink RX9 90 yX5_thingsIn ∈ lw_tg := lw_ofs 331 (by decide +kernel) rfl
set_option maxRecDepth 100000 in
theorem k_332 : Cond.methodLink RX9 93 yX7_settle ∈ lw_tg := lw_ofs 332 (by decide +kernel) rfl
set_option maxRecDepth 100000 in
theorem k_333 : Cond.instanceMethod yX7_settle ∈ lw_tg := lw_ofs 333 (by decide +kernel) rfl
set_option maxRecDepth 100000 in
theorem k_334 : Cond.selects RX7 yX7_settle yX7_settle ∈ lw_tg := lw_ofs 334 (by decide +kernel) rfl
set_option maxRecDepth 100000 in
theorem k_335 : Cond.code yX7_settle cX7_settle 10 none ∈ lw_tg := lw_ofs 335 rfl rfl
set_option maxRecDepth 100000 in
theorem k_336 : Cond.methodLink RX7 27 Lib.Math.min.name ∈ lw_tg := lw_ofs 336 (by decide +kernel) rfl
set_option maxRecDepth 100000 in
theorem k_337 : Cond.static Lib.Math.min.name ∈ lw_tg := lw_ofs 337 (by decide +kernel) rfl
set_option maxRecDepth 100000 in
theorem k_338 : Cond.code Lib.Math.min.name Lib.Math.min.code 2 (some .int) ∈ lw_tg := lw_ofs 338 rfl rfl
set_option maxRecDepth 100000 in
theorem k_339 : Cond.methodLink RX7 33 yX7_thingAt ∈ lw_tg := lw_ofs 339 (by decide +kernel) rfl
set_option maxRecDepth 100000 in
theorem k_340 : Cond.instanceMethod yX7_thingAt ∈ lw_tg := lw_ofs 340 (by decide +kernel) rfl
set_option maxRecDepth 100000 in
theorem k_341 : Cond.selects RX7 yX7_thingAt yX7_thingAt ∈ lw_tg := lw_ofs 341 (by decide +kernel) rfl
set_option maxRecDepth 100000 in
theorem k_342 : Cond.code yX7_thingAt cX7_thingAt 2 (some (.object "DeputyTown$Thing")) ∈ lw_tg := lw_ofs 342 rfl rfl
set_option maxRecDepth 100000 in
theorem k_343 : Cond.methodLink RX7 39 yX5_placeOf ∈ lw_tg := lw_ofs 343 (by decide +kernel) rfl
set_option maxRecDepth 100000 in
theorem k_344 : Cond.methodLink RX7 42 yX4_cellAt ∈ lw_tg := lw_ofs 344 (by decide +kernel) rfl
set_option maxRecDepth 100000 in
theorem k_345 : Cond.methodLink RX7 48 yX5_kindBy ∈ lw_tg := lw_ofs 345 (by decide +kernel) rfl
set_option maxRecDepth 100000 in
theorem k_346 : Cond.methodLink RX7 51 yX6_become ∈ lw_tg := lw_ofs 346 (by decide +kernel) rfl
set_option maxRecDepth 100000 in
theorem k_347 : Cond.instanceMethod yX6_become ∈ lw_tg := lw_ofs 347 (by decide +kernel) rfl
set_option maxRecDepth 100000 in
theorem k_348 : Cond.selects RX6 yX6_become yX6_become ∈ lw_tg := lw_ofs 348 (by decide +kernel) rfl
set_option maxRecDepth 100000 in
theorem k_349 : Cond.code yX6_become cX6_become 5 none ∈ lw_tg := lw_ofs 349 rfl rfl
set_option maxRecDepth 100000 in
theorem k_350 : Cond.methodLink RX6 30 yX6_goodOf ∈ lw_tg := lw_ofs 350 (by decide +kernel) rfl
set_option maxRecDepth 100000 in
theorem k_351 : Cond.static yX6_goodOf ∈ lw_tg := lw_ofs 351 (by decide +kernel) rfl
set_option maxRecDepth 100000 in
theorem k_352 : Cond.code yX6_goodOf cX6_goodOf 2 (some .int) ∈ lw_tg := lw_ofs 352 rfl rfl
set_option maxRecDepth 100000 in
theorem k_353 : Cond.methodLink RL 18 yX9_ofThing ∈ lw_tg := lw_ofs 353 (by decide +kernel) rfl
set_option maxRecDepth 100000 in
theorem k_354 : Cond.instanceMethod yX9_ofThing ∈ lw_tg := lw_ofs 354 (by decide +kernel) rfl
set_option maxRecDepth 100000 in
theorem k_355 : Cond.selects RX9 yX9_ofThing yX9_ofThing ∈ lw_tg := lw_ofs 355 (by decide +kernel) rfl
set_option maxRecDepth 100000 in
theorem k_356 : Cond.code yX9_ofThing cX9_ofThing 4 (some .int) ∈ lw_tg := lw_ofs 356 rfl rfl
set_option maxRecDepth 100000 in
theorem k_357 : Cond.methodLink RX9 102 yX7_thingAt ∈ lw_tg := lw_ofs 357 (by decide +kernel) rfl
set_option maxRecDepth 100000 in
theorem k_358 : Cond.methodLink RL 23 yX9_law ∈ lw_tg := lw_ofs 358 (by decide +kernel) rfl
set_option maxRecDepth 100000 in
theorem k_359 : Cond.instanceMethod yX9_law ∈ lw_tg := lw_ofs 359 (by decide +kernel) rfl
set_option maxRecDepth 100000 in
theorem k_360 : Cond.selects RX9 yX9_law yX9_law ∈ lw_tg := lw_ofs 360 (by decide +kernel) rfl
set_option maxRecDepth 100000 in
theorem k_361 : Cond.code yX9_law cX9_law 3 (some .int) ∈ lw_tg := lw_ofs 361 rfl rfl
set_option maxRecDepth 100000 in
theorem k_362 : Cond.methodLink RL 28 yX9_depute ∈ lw_tg := lw_ofs 362 (by decide +kernel) rfl
set_option maxRecDepth 100000 in
theorem k_363 : Cond.instanceMethod yX9_depute ∈ lw_tg := lw_ofs 363 (by decide +kernel) rfl
set_option maxRecDepth 100000 in
theorem k_364 : Cond.selects RX9 yX9_depute yX9_depute ∈ lw_tg := lw_ofs 364 (by decide +kernel) rfl
set_option maxRecDepth 100000 in
theorem k_365 : Cond.code yX9_depute cX9_depute 5 (some .int) ∈ lw_tg := lw_ofs 365 rfl rfl
set_option maxRecDepth 100000 in
theorem k_366 : Cond.methodLink RL 32 yX9_smash ∈ lw_tg := lw_ofs 366 (by decide +kernel) rfl
set_option maxRecDepth 100000 in
theorem k_367 : Cond.instanceMethod yX9_smash ∈ lw_tg := lw_ofs 367 (by decide +kernel) rfl
set_option maxRecDepth 100000 in
theorem k_368 : Cond.selects RX9 yX9_smash yX9_smash ∈ lw_tg := lw_ofs 368 (by decide +kernel) rfl
set_option maxRecDepth 100000 in
theorem k_369 : Cond.code yX9_smash cX9_smash 4 (some .int) ∈ lw_tg := lw_ofs 369 rfl rfl
set_option maxRecDepth 100000 in
theorem k_370 : Cond.methodLink RX9 126 yX1_add ∈ lw_tg := lw_ofs 370 (by decide +kernel) rfl
set_option maxRecDepth 100000 in
theorem k_371 : Cond.instanceMethod yX1_add ∈ lw_tg := lw_ofs 371 (by decide +kernel) rfl
set_option maxRecDepth 100000 in
theorem k_372 : Cond.selects RX1 yX1_add yX1_add ∈ lw_tg := lw_ofs 372 (by decide +kernel) rfl
set_option maxRecDepth 100000 in
theorem k_373 : Cond.code yX1_add cX1_add 4 (some .int) ∈ lw_tg := lw_ofs 373 rfl rfl
set_option maxRecDepth 100000 in
theorem k_374 : Cond.methodLink RL 37 yX9_glue ∈ lw_tg := lw_ofs 374 (by decide +kernel) rfl
set_option maxRecDepth 100000 in
theorem k_375 : Cond.instanceMethod yX9_glue ∈ lw_tg := lw_ofs 375 (by decide +kernel) rfl
set_option maxRecDepth 100000 in
theorem k_376 : Cond.selects RX9 yX9_glue yX9_glue ∈ lw_tg := lw_ofs 376 (by decide +kernel) rfl
set_option maxRecDepth 100000 in
theorem k_377 : Cond.code yX9_glue cX9_glue 2 (some .int) ∈ lw_tg := lw_ofs 377 rfl rfl
set_option maxRecDepth 100000 in
theorem k_378 : Cond.methodLink RL 41 yX9_by ∈ lw_tg := lw_ofs 378 (by decide +kernel) rfl
set_option maxRecDepth 100000 in
theorem k_379 : Cond.instanceMethod yX9_by ∈ lw_tg := lw_ofs 379 (by decide +kernel) rfl
set_option maxRecDepth 100000 in
theorem k_380 : Cond.selects RX9 yX9_by yX9_by ∈ lw_tg := lw_ofs 380 (by decide +kernel) rfl
set_option maxRecDepth 100000 in
theorem k_381 : Cond.code yX9_by cX9_by 3 (some .int) ∈ lw_tg := lw_ofs 381 rfl rfl
set_option maxRecDepth 100000 in
theorem k_382 : Cond.methodLink RX9 129 yX3_workUpTo ∈ lw_tg := lw_ofs 382 (by decide +kernel) rfl
set_option maxRecDepth 100000 in
theorem k_383 : Cond.instanceMethod yX3_workUpTo ∈ lw_tg := lw_ofs 383 (by decide +kernel) rfl
set_option maxRecDepth 100000 in
theorem k_384 : Cond.selects RX3 yX3_workUpTo yX3_workUpTo ∈ lw_tg := lw_ofs 384 (by decide +kernel) rfl
set_option maxRecDepth 100000 in
theorem k_385 : Cond.code yX3_workUpTo cX3_workUpTo 4 none ∈ lw_tg := lw_ofs 385 rfl rfl
set_option maxRecDepth 100000 in
theorem k_386 : Cond.methodLink RX3 26 yX3_forget ∈ lw_tg := lw_ofs 386 (by decide +kernel) rfl
set_option maxRecDepth 100000 in
theorem k_387 : Cond.instanceMethod yX3_forget ∈ lw_tg := lw_ofs 387 (by decide +kernel) rfl
set_option maxRecDepth 100000 in
theorem k_388 : Cond.selects RX3 yX3_forget yX3_forget ∈ lw_tg := lw_ofs 388 (by decide +kernel) rfl
set_option maxRecDepth 100000 in
theorem k_389 : Cond.code yX3_forget cX3_forget 1 none ∈ lw_tg := lw_ofs 389 rfl rfl
set_option maxRecDepth 100000 in
theorem k_390 : Cond.methodLink RX3 44 yJ7_fill_53178 ∈ lw_tg := lw_ofs 390 (by decide +kernel) rfl
set_option maxRecDepth 100000 in
theorem k_391 : Cond.static yJ7_fill_53178 ∈ lw_tg := lw_ofs 391 (by decide +kernel) rfl
set_option maxRecDepth 100000 in
theorem k_392 : Cond.code yJ7_fill_53178 cJ7_fill_53178 4 none ∈ lw_tg := lw_ofs 392 rfl rfl
set_option maxRecDepth 100000 in
theorem k_393 : Cond.methodLink RX3 34 yX1_brokenIn ∈ lw_tg := lw_ofs 393 (by decide +kernel) rfl
set_option maxRecDepth 100000 in
theorem k_394 : Cond.instanceMethod yX1_brokenIn ∈ lw_tg := lw_ofs 394 (by decide +kernel) rfl
set_option maxRecDepth 100000 in
theorem k_395 : Cond.selects RX1 yX1_brokenIn yX1_brokenIn ∈ lw_tg := lw_ofs 395 (by decide +kernel) rfl
set_option maxRecDepth 100000 in
theorem k_396 : Cond.code yX1_brokenIn cX1_brokenIn 4 (some .int) ∈ lw_tg := lw_ofs 396 rfl rfl
set_option maxRecDepth 100000 in
theorem k_397 : Cond.methodLink RX3 40 yX3_workHour ∈ lw_tg := lw_ofs 397 (by decide +kernel) rfl
set_option maxRecDepth 100000 in
theorem k_398 : Cond.instanceMethod yX3_workHour ∈ lw_tg := lw_ofs 398 (by decide +kernel) rfl
set_option maxRecDepth 100000 in
theorem k_399 : Cond.selects RX3 yX3_workHour yX3_workHour ∈ lw_tg := lw_ofs 399 (by decide +kernel) rfl
set_option maxRecDepth 100000 in
theorem k_400 : Cond.code yX3_workHour cX3_workHour 6 none ∈ lw_tg := lw_ofs 400 rfl rfl
set_option maxRecDepth 100000 in
theorem k_401 : Cond.methodLink RX3 53 yX3_standInFor ∈ lw_tg := lw_ofs 401 (by decide +kernel) rfl
set_option maxRecDepth 100000 in
theorem k_403 : Cond.instanceMethod yX3_standInFor ∈ lw_tg := lw_ofs 403 (by decide +kernel) rfl
set_option maxRecDepth 100000 in
theorem k_404 : Cond.code yX3_standInFor cX3_standInFor 9 (some .int) ∈ lw_tg := lw_ofs 404 rfl rfl
set_option maxRecDepth 100000 in
theorem k_405 : Cond.methodLink RX3 57 yX7_thingAt ∈ lw_tg := lw_ofs 405 (by decide +kernel) rfl
set_option maxRecDepth 100000 in
theorem k_406 : Cond.methodLink RX3 69 yX3_may ∈ lw_tg := lw_ofs 406 (by decide +kernel) rfl
set_option maxRecDepth 100000 in
theorem k_408 : Cond.instanceMethod yX3_may ∈ lw_tg := lw_ofs 408 (by decide +kernel) rfl
set_option maxRecDepth 100000 in
theorem k_409 : Cond.code yX3_may cX3_may 5 (some .boolean) ∈ lw_tg := lw_ofs 409 rfl rfl
set_option maxRecDepth 100000 in
theorem k_410 : Cond.methodLink RX3 73 yX3_isPreferred ∈ lw_tg := lw_ofs 410 (by decide +kernel) rfl
set_option maxRecDepth 100000 in
theorem k_412 : Cond.instanceMethod yX3_isPreferred ∈ lw_tg := lw_ofs 412 (by decide +kernel) rfl
set_option maxRecDepth 100000 in
theorem k_413 : Cond.code yX3_isPreferred cX3_isPreferred 4 (some .boolean) ∈ lw_tg := lw_ofs 413 rfl rfl
set_option maxRecDepth 100000 in
theorem k_414 : Cond.methodLink RX9 133 yX3_serverOf ∈ lw_tg := lw_ofs 414 (by decide +kernel) rfl
set_option maxRecDepth 100000 in
theorem k_415 : Cond.instanceMethod yX3_serverOf ∈ lw_tg := lw_ofs 415 (by decide +kernel) rfl
set_option maxRecDepth 100000 in
theorem k_416 : Cond.selects RX3 yX3_serverOf yX3_serverOf ∈ lw_tg := lw_ofs 416 (by decide +kernel) rfl
set_option maxRecDepth 100000 in
theorem k_417 : Cond.code yX3_serverOf cX3_serverOf 2 (some .int) ∈ lw_tg := lw_ofs 417 rfl rfl
set_option maxRecDepth 100000 in
theorem k_418 : Cond.methodLink RL 45 yX9_undone ∈ lw_tg := lw_ofs 418 (by decide +kernel) rfl
set_option maxRecDepth 100000 in
theorem k_419 : Cond.instanceMethod yX9_undone ∈ lw_tg := lw_ofs 419 (by decide +kernel) rfl
set_option maxRecDepth 100000 in
theorem k_420 : Cond.selects RX9 yX9_undone yX9_undone ∈ lw_tg := lw_ofs 420 (by decide +kernel) rfl
set_option maxRecDepth 100000 in
theorem k_421 : Cond.code yX9_undone cX9_undone 3 (some .int) ∈ lw_tg := lw_ofs 421 rfl rfl
set_option maxRecDepth 100000 in
theorem k_422 : Cond.methodLink RX9 136 yX9_refusalOf ∈ lw_tg := lw_ofs 422 (by decide +kernel) rfl
set_option maxRecDepth 100000 in
theorem k_424 : Cond.instanceMethod yX9_refusalOf ∈ lw_tg := lw_ofs 424 (by decide +kernel) rfl
set_option maxRecDepth 100000 in
theorem k_425 : Cond.code yX9_refusalOf cX9_refusalOf 3 (some .int) ∈ lw_tg := lw_ofs 425 rfl rfl
set_option maxRecDepth 100000 in
theorem k_426 : Cond.methodLink RX9 140 yX3_undoneUses ∈ lw_tg := lw_ofs 426 (by decide +kernel) rfl
set_option maxRecDepth 100000 in
theorem k_427 : Cond.instanceMethod yX3_undoneUses ∈ lw_tg := lw_ofs 427 (by decide +kernel) rfl
set_option maxRecDepth 100000 in
theorem k_428 : Cond.selects RX3 yX3_undoneUses yX3_undoneUses ∈ lw_tg := lw_ofs 428 (by decide +kernel) rfl
set_option maxRecDepth 100000 in
theorem k_429 : Cond.code yX3_undoneUses cX3_undoneUses 3 (some .int) ∈ lw_tg := lw_ofs 429 rfl rfl
set_option maxRecDepth 100000 in
theorem k_430 : Cond.methodLink RL 49 yX9_serves ∈ lw_tg := lw_ofs 430 (by decide +kernel) rfl
set_option maxRecDepth 100000 in
theorem k_431 : Cond.instanceMethod yX9_serves ∈ lw_tg := lw_ofs 431 (by decide +kernel) rfl
set_option maxRecDepth 100000 in
theorem k_432 : Cond.selects RX9 yX9_serves yX9_serves ∈ lw_tg := lw_ofs 432 (by decide +kernel) rfl
set_option maxRecDepth 100000 in
theorem k_433 : Cond.code yX9_serves cX9_serves 3 (some .int) ∈ lw_tg := lw_ofs 433 rfl rfl
set_option maxRecDepth 100000 in
theorem k_434 : Cond.methodLink RX9 144 yX3_points ∈ lw_tg := lw_ofs 434 (by decide +kernel) rfl
set_option maxRecDepth 100000 in
theorem k_435 : Cond.instanceMethod yX3_points ∈ lw_tg := lw_ofs 435 (by decide +kernel) rfl
set_option maxRecDepth 100000 in
theorem k_436 : Cond.selects RX3 yX3_points yX3_points ∈ lw_tg := lw_ofs 436 (by decide +kernel) rfl
set_option maxRecDepth 100000 in
theorem k_437 : Cond.code yX3_points cX3_points 4 (some .int) ∈ lw_tg := lw_ofs 437 rfl rfl
set_option maxRecDepth 100000 in
theorem k_438 : Cond.methodLink RX3 83 Lib.Math.min.name ∈ lw_tg := lw_ofs 438 (by decide +kernel) rfl
set_option maxRecDepth 100000 in
theorem k_439 : Cond.methodLink RL 53 yX9_ring ∈ lw_tg := lw_ofs 439 (by decide +kernel) rfl
set_option maxRecDepth 100000 in
theorem k_440 : Cond.instanceMethod yX9_ring ∈ lw_tg := lw_ofs 440 (by decide +kernel) rfl
set_option maxRecDepth 100000 in
theorem k_441 : Cond.selects RX9 yX9_ring yX9_ring ∈ lw_tg := lw_ofs 441 (by decide +kernel) rfl
set_option maxRecDepth 100000 in
theorem k_442 : Cond.code yX9_ring cX9_ring 3 (some .int) ∈ lw_tg := lw_ofs 442 rfl rfl
set_option maxRecDepth 100000 in
theorem k_443 : Cond.methodLink RX9 147 yX7_comesToItself ∈ lw_tg := lw_ofs 443 (by decide +kernel) rfl
set_option maxRecDepth 100000 in
theorem k_444 : Cond.instanceMethod yX7_comesToItself ∈ lw_tg := lw_ofs 444 (by decide +kernel) rfl
set_option maxRecDepth 100000 in
theorem k_445 : Cond.selects RX7 yX7_comesToItself yX7_comesToItself ∈ lw_tg := lw_ofs 445 (by decide +kernel) rfl
set_option maxRecDepth 100000 in
theorem k_446 : Cond.code yX7_comesToItself cX7_comesToItself 4 (some .boolean) ∈ lw_tg := lw_ofs 446 rfl rfl
set_option maxRecDepth 100000 in
theorem k_447 : Cond.methodLink RL 58 yX9_first ∈ lw_tg := lw_ofs 447 (by decide +kernel) rfl
set_option maxRecDepth 100000 in
theorem k_448 : Cond.instanceMethod yX9_first ∈ lw_tg := lw_ofs 448 (by decide +kernel) rfl
set_option maxRecDepth 100000 in
theorem k_449 : Cond.selects RX9 yX9_first yX9_first ∈ lw_tg := lw_ofs 449 (by decide +kernel) rfl
set_option maxRecDepth 100000 in
theorem k_450 : Cond.code yX9_first cX9_first 5 (some .int) ∈ lw_tg := lw_ofs 450 rfl rfl
set_option maxRecDepth 100000 in
theorem k_451 : Cond.methodLink RX9 151 yX3_forget ∈ lw_tg := lw_ofs 451 (by decide +kernel) rfl
set_option maxRecDepth 100000 in
theorem k_452 : Cond.methodLink RX9 154 yX1_brokenIn ∈ lw_tg := lw_ofs 452 (by decide +kernel) rfl
set_option maxRecDepth 100000 in
theorem k_453 : Cond.methodLink RX9 157 yX3_workHour ∈ lw_tg := lw_ofs 453 (by decide +kernel) rfl
set_option maxRecDepth 100000 in
theorem k_454 : Cond.methodLink RX9 161 yX9_leastOf ∈ lw_tg := lw_ofs 454 (by decide +kernel) rfl
set_option maxRecDepth 100000 in
theorem k_455 : Cond.static yX9_leastOf ∈ lw_tg := lw_ofs 455 (by decide +kernel) rfl
set_option maxRecDepth 100000 in
theorem k_456 : Cond.code yX9_leastOf cX9_leastOf 2 (some .int) ∈ lw_tg := lw_ofs 456 rfl rfl
set_option maxRecDepth 100000 in
theorem k_457 : Cond.methodLink RL 62 yX9_frail ∈ lw_tg := lw_ofs 457 (by decide +kernel) rfl
set_option maxRecDepth 100000 in
theorem k_458 : Cond.instanceMethod yX9_frail ∈ lw_tg := lw_ofs 458 (by decide +kernel) rfl
set_option maxRecDepth 100000 in
theorem k_459 : Cond.selects RX9 yX9_frail yX9_frail ∈ lw_tg := lw_ofs 459 (by decide +kernel) rfl
set_option maxRecDepth 100000 in
theorem k_460 : Cond.code yX9_frail cX9_frail 3 (some .int) ∈ lw_tg := lw_ofs 460 rfl rfl
set_option maxRecDepth 100000 in
theorem k_461 : Cond.methodLink RX9 164 yX8_seekFrail ∈ lw_tg := lw_ofs 461 (by decide +kernel) rfl
set_option maxRecDepth 100000 in
theorem k_462 : Cond.instanceMethod yX8_seekFrail ∈ lw_tg := lw_ofs 462 (by decide +kernel) rfl
set_option maxRecDepth 100000 in
theorem k_463 : Cond.selects RX8 yX8_seekFrail yX8_seekFrail ∈ lw_tg := lw_ofs 463 (by decide +kernel) rfl
set_option maxRecDepth 100000 in
theorem k_464 : Cond.code yX8_seekFrail cX8_seekFrail 4 none ∈ lw_tg := lw_ofs 464 rfl rfl
set_option maxRecDepth 100000 in
theorem k_465 : Cond.methodLink RX8 41 yX7_sets ∈ lw_tg := lw_ofs 465 (by decide +kernel) rfl
set_option maxRecDepth 100000 in
theorem k_466 : Cond.instanceMethod yX7_sets ∈ lw_tg := lw_ofs 466 (by decide +kernel) rfl
set_option maxRecDepth 100000 in
theorem k_467 : Cond.selects RX7 yX7_sets yX7_sets ∈ lw_tg := lw_ofs 467 (by decide +kernel) rfl
set_option maxRecDepth 100000 in
theorem k_468 : Cond.code yX7_sets cX7_sets 1 (some .int) ∈ lw_tg := lw_ofs 468 rfl rfl
set_option maxRecDepth 100000 in
theorem k_469 : Cond.methodLink RX8 47 yJ6_bitCount_0f7a4 ∈ lw_tg := lw_ofs 469 (by decide +kernel) rfl
set_option maxRecDepth 100000 in
theorem k_470 : Cond.static yJ6_bitCount_0f7a4 ∈ lw_tg := lw_ofs 470 (by decide +kernel) rfl
set_option maxRecDepth 100000 in
theorem k_471 : Cond.code yJ6_bitCount_0f7a4 cJ6_bitCount_0f7a4 1 (some .int) ∈ lw_tg := lw_ofs 471 rfl rfl
set_option maxRecDepth 100000 in
theorem k_472 : Cond.constant RJ6 265 (1431655765) ∈ lw_tg := lw_ofs 472 (by decide +kernel) rfl
set_option maxRecDepth 100000 in
theorem k_473 : Cond.constant RJ6 266 (858993459) ∈ lw_tg := lw_ofs 473 (by decide +kernel) rfl
set_option maxRecDepth 100000 in
theorem k_474 : Cond.constant RJ6 267 (252645135) ∈ lw_tg := lw_ofs 474 (by decide +kernel) rfl
set_option maxRecDepth 100000 in
theorem k_475 : Cond.methodLink RX8 56 yX3_workHourZero ∈ lw_tg := lw_ofs 475 (by decide +kernel) rfl
set_option maxRecDepth 100000 in
theorem k_476 : Cond.instanceMethod yX3_workHourZero ∈ lw_tg := lw_ofs 476 (by decide +kernel) rfl
set_option maxRecDepth 100000 in
theorem k_477 : Cond.selects RX3 yX3_workHourZero yX3_workHourZero ∈ lw_tg := lw_ofs 477 (by decide +kernel) rfl
set_option maxRecDepth 100000 in
theorem k_478 : Cond.code yX3_workHourZero cX3_workHourZero 3 none ∈ lw_tg := lw_ofs 478 rfl rfl
set_option maxRecDepth 100000 in
theorem k_479 : Cond.methodLink RX8 62 yX3_undoneUses ∈ lw_tg := lw_ofs 479 (by decide +kernel) rfl
set_option maxRecDepth 100000 in
theorem k_480 : Cond.methodLink RL 66 yX9_plot ∈ lw_tg := lw_ofs 480 (by decide +kernel) rfl
set_option maxRecDepth 100000 in
theorem k_481 : Cond.instanceMethod yX9_plot ∈ lw_tg := lw_ofs 481 (by decide +kernel) rfl
set_option maxRecDepth 100000 in
theorem k_482 : Cond.selects RX9 yX9_plot yX9_plot ∈ lw_tg := lw_ofs 482 (by decide +kernel) rfl
set_option maxRecDepth 100000 in
theorem k_483 : Cond.code yX9_plot cX9_plot 2 (some .int) ∈ lw_tg := lw_ofs 483 rfl rfl
set_option maxRecDepth 100000 in
theorem k_484 : Cond.methodLink RX9 174 yX8_plotOn ∈ lw_tg := lw_ofs 484 (by decide +kernel) rfl
set_option maxRecDepth 100000 in
theorem k_485 : Cond.instanceMethod yX8_plotOn ∈ lw_tg := lw_ofs 485 (by decide +kernel) rfl
set_option maxRecDepth 100000 in
theorem k_486 : Cond.selects RX8 yX8_plotOn yX8_plotOn ∈ lw_tg := lw_ofs 486 (by decide +kernel) rfl
set_option maxRecDepth 100000 in
theorem k_487 : Cond.code yX8_plotOn cX8_plotOn 4 (some .int) ∈ lw_tg := lw_ofs 487 rfl rfl
set_option maxRecDepth 100000 in
theorem k_488 : Cond.methodLink RX8 65 yX3_serverOf ∈ lw_tg := lw_ofs 488 (by decide +kernel) rfl
set_option maxRecDepth 100000 in
theorem k_489 : Cond.methodLink RX8 68 yX8_isFewer ∈ lw_tg := lw_ofs 489 (by decide +kernel) rfl
set_option maxRecDepth 100000 in
theorem k_490 : Cond.static yX8_isFewer ∈ lw_tg := lw_ofs 490 (by decide +kernel) rfl
set_option maxRecDepth 100000 in
theorem k_491 : Cond.code yX8_isFewer cX8_isFewer 2 (some .boolean) ∈ lw_tg := lw_ofs 491 rfl rfl
set_option maxRecDepth 100000 in
theorem k_492 : Cond.methodLink RL 70 yX9_mend ∈ lw_tg := lw_ofs 492 (by decide +kernel) rfl
set_option maxRecDepth 100000 in
theorem k_493 : Cond.instanceMethod yX9_mend ∈ lw_tg := lw_ofs 493 (by decide +kernel) rfl
set_option maxRecDepth 100000 in
theorem k_494 : Cond.selects RX9 yX9_mend yX9_mend ∈ lw_tg := lw_ofs 494 (by decide +kernel) rfl
set_option maxRecDepth 100000 in
theorem k_495 : Cond.code yX9_mend cX9_mend 3 (some .int) ∈ lw_tg := lw_ofs 495 rfl rfl
set_option maxRecDepth 100000 in
theorem k_496 : Cond.methodLink RX9 177 yX8_seekMend ∈ lw_tg := lw_ofs 496 (by decide +kernel) rfl
set_option maxRecDepth 100000 in
theorem k_497 : Cond.instanceMethod yX8_seekMend ∈ lw_tg := lw_ofs 497 (by decide +kernel) rfl
set_option maxRecDepth 100000 in
theorem k_498 : Cond.selects RX8 yX8_seekMend yX8_seekMend ∈ lw_tg := lw_ofs 498 (by decide +kernel) rfl
set_option maxRecDepth 100000 in
theorem k_499 : Cond.code yX8_seekMend cX8_seekMend 5 none ∈ lw_tg := lw_ofs 499 rfl rfl
set_option maxRecDepth 100000 in
theorem k_500 : Cond.methodLink RX8 72 yX8_seekFrail ∈ lw_tg := lw_ofs 500 (by decide +kernel) rfl
set_option maxRecDepth 100000 in
theorem k_501 : Cond.methodLink RX8 79 yX7_thingAt ∈ lw_tg := lw_ofs 501 (by decide +kernel) rfl
set_option maxRecDepth 100000 in
theorem k_502 : Cond.methodLink RX8 88 yX8_keepMend ∈ lw_tg := lw_ofs 502 (by decide +kernel) rfl
set_option maxRecDepth 100000 in
theorem k_504 : Cond.instanceMethod yX8_keepMend ∈ lw_tg := lw_ofs 504 (by decide +kernel) rfl
set_option maxRecDepth 100000 in
theorem k_505 : Cond.code yX8_keepMend cX8_keepMend 2 none ∈ lw_tg := lw_ofs 505 rfl rfl
set_option maxRecDepth 100000 in
theorem k_506 : Cond.methodLink RL 74 yX9_wave ∈ lw_tg := lw_ofs 506 (by decide +kernel) rfl
set_option maxRecDepth 100000 in
theorem k_507 : Cond.instanceMethod yX9_wave ∈ lw_tg := lw_ofs 507 (by decide +kernel) rfl
set_option maxRecDepth 100000 in
theorem k_508 : Cond.selects RX9 yX9_wave yX9_wave ∈ lw_tg := lw_ofs 508 (by decide +kernel) rfl
set_option maxRecDepth 100000 in
theorem k_509 : Cond.code yX9_wave cX9_wave 4 (some .int) ∈ lw_tg := lw_ofs 509 rfl rfl
set_option maxRecDepth 100000 in
theorem k_510 : Cond.methodLink RX9 186 yX3_workHourZero ∈ lw_tg := lw_ofs 510 (by decide +kernel) rfl
set_option maxRecDepth 100000 in
theorem k_511 : Cond.methodLink RL 78 yX9_roster ∈ lw_tg := lw_ofs 511 (by decide +kernel) rfl
set_option maxRecDepth 100000 in
theorem k_512 : Cond.instanceMethod yX9_roster ∈ lw_tg := lw_ofs 512 (by decide +kernel) rfl
set_option maxRecDepth 100000 in
theorem k_513 : Cond.selects RX9 yX9_roster yX9_roster ∈ lw_tg := lw_ofs 513 (by decide +kernel) rfl
set_option maxRecDepth 100000 in
theorem k_514 : Cond.code yX9_roster cX9_roster 7 (some .int) ∈ lw_tg := lw_ofs 514 rfl rfl
set_option maxRecDepth 100000 in
theorem k_515 : Cond.methodLink RX9 189 yX9_namesThings ∈ lw_tg := lw_ofs 515 (by decide +kernel) rfl
set_option maxRecDepth 100000 in
theorem k_517 : Cond.instanceMethod yX9_namesThings ∈ lw_tg := lw_ofs 517 (by decide +kernel) rfl
set_option maxRecDepth 100000 in
theorem k_518 : Cond.code yX9_namesThings cX9_namesThings 5 (some .boolean) ∈ lw_tg := lw_ofs 518 rfl rfl
set_option maxRecDepth 100000 in
theorem k_519 : Cond.methodLink RX9 237 yX4_cellAt ∈ lw_tg := lw_ofs 519 (by decide +kernel) rfl
set_option maxRecDepth 100000 in
theorem k_520 : Cond.methodLink RX9 193 yX9_firstUnlike ∈ lw_tg := lw_ofs 520 (by decide +kernel) rfl
set_option maxRecDepth 100000 in
theorem k_522 : Cond.instanceMethod yX9_firstUnlike ∈ lw_tg := lw_ofs 522 (by decide +kernel) rfl
set_option maxRecDepth 100000 in
theorem k_523 : Cond.code yX9_firstUnlike cX9_firstUnlike 4 (some .int) ∈ lw_tg := lw_ofs 523 rfl rfl
set_option maxRecDepth 100000 in
theorem k_524 : Cond.methodLink RL 82 yX9_reading ∈ lw_tg := lw_ofs 524 (by decide +kernel) rfl
set_option maxRecDepth 100000 in
theorem k_525 : Cond.instanceMethod yX9_reading ∈ lw_tg := lw_ofs 525 (by decide +kernel) rfl
set_option maxRecDepth 100000 in
theorem k_526 : Cond.selects RX9 yX9_reading yX9_reading ∈ lw_tg := lw_ofs 526 (by decide +kernel) rfl
set_option maxRecDepth 100000 in
theorem k_527 : Cond.code yX9_reading cX9_reading 3 (some .int) ∈ lw_tg := lw_ofs 527 rfl rfl
set_option maxRecDepth 100000 in
theorem k_528 : Cond.methodLink RX9 197 yX2_add ∈ lw_tg := lw_ofs 528 (by decide +kernel) rfl
set_option maxRecDepth 100000 in
theorem k_529 : Cond.instanceMethod yX2_add ∈ lw_tg := lw_ofs 529 (by decide +kernel) rfl
set_option maxRecDepth 100000 in
theorem k_530 : Cond.selects RX2 yX2_add yX2_add ∈ lw_tg := lw_ofs 530 (by decide +kernel) rfl
set_option maxRecDepth 100000 in
theorem k_531 : Cond.code yX2_add cX2_add 3 (some .int) ∈ lw_tg := lw_ofs 531 rfl rfl
set_option maxRecDepth 100000 in
theorem k_532 : Cond.methodLink RL 86 yX9_back ∈ lw_tg := lw_ofs 532 (by decide +kernel) rfl
set_option maxRecDepth 100000 in
theorem k_533 : Cond.instanceMethod yX9_back ∈ lw_tg := lw_ofs 533 (by decide +kernel) rfl
set_option maxRecDepth 100000 in
theorem k_534 : Cond.selects RX9 yX9_back yX9_back ∈ lw_tg := lw_ofs 534 (by decide +kernel) rfl
set_option maxRecDepth 100000 in
theorem k_535 : Cond.code yX9_back cX9_back 2 (some .int) ∈ lw_tg := lw_ofs 535 rfl rfl
set_option maxRecDepth 100000 in
theorem k_536 : Cond.methodLink RL 90 yX9_failed ∈ lw_tg := lw_ofs 536 (by decide +kernel) rfl
set_option maxRecDepth 100000 in
theorem k_537 : Cond.instanceMethod yX9_failed ∈ lw_tg := lw_ofs 537 (by decide +kernel) rfl
set_option maxRecDepth 100000 in
theorem k_538 : Cond.selects RX9 yX9_failed yX9_failed ∈ lw_tg := lw_ofs 538 (by decide +kernel) rfl
set_option maxRecDepth 100000 in
theorem k_539 : Cond.code yX9_failed cX9_failed 3 (some .int) ∈ lw_tg := lw_ofs 539 rfl rfl
set_option maxRecDepth 100000 in
theorem k_540 : Cond.methodLink RX9 199 yX8_seekFailed ∈ lw_tg := lw_ofs 540 (by decide +kernel) rfl
set_option maxRecDepth 100000 in
theorem k_541 : Cond.instanceMethod yX8_seekFailed ∈ lw_tg := lw_ofs 541 (by decide +kernel) rfl
set_option maxRecDepth 100000 in
theorem k_542 : Cond.selects RX8 yX8_seekFailed yX8_seekFailed ∈ lw_tg := lw_ofs 542 (by decide +kernel) rfl
set_option maxRecDepth 100000 in
theorem k_543 : Cond.code yX8_seekFailed cX8_seekFailed 3 none ∈ lw_tg := lw_ofs 543 rfl rfl
set_option maxRecDepth 100000 in
theorem k_544 : Cond.methodLink RX8 91 yX2_areSo ∈ lw_tg := lw_ofs 544 (by decide +kernel) rfl
set_option maxRecDepth 100000 in
theorem k_545 : Cond.instanceMethod yX2_areSo ∈ lw_tg := lw_ofs 545 (by decide +kernel) rfl
set_option maxRecDepth 100000 in
theorem k_546 : Cond.selects RX2 yX2_areSo yX2_areSo ∈ lw_tg := lw_ofs 546 (by decide +kernel) rfl
set_option maxRecDepth 100000 in
theorem k_547 : Cond.code yX2_areSo cX2_areSo 3 (some .boolean) ∈ lw_tg := lw_ofs 547 rfl rfl
set_option maxRecDepth 100000 in
theorem k_548 : Cond.methodLink RX2 22 yX3_serverOf ∈ lw_tg := lw_ofs 548 (by decide +kernel) rfl
set_option maxRecDepth 100000 in
theorem k_549 : Cond.methodLink RL 94 yX9_laws ∈ lw_tg := lw_ofs 549 (by decide +kernel) rfl
set_option maxRecDepth 100000 in
theorem k_550 : Cond.instanceMethod yX9_laws ∈ lw_tg := lw_ofs 550 (by decide +kernel) rfl
set_option maxRecDepth 100000 in
theorem k_551 : Cond.selects RX9 yX9_laws yX9_laws ∈ lw_tg := lw_ofs 551 (by decide +kernel) rfl
set_option maxRecDepth 100000 in
theorem k_552 : Cond.code yX9_laws cX9_laws 3 (some .int) ∈ lw_tg := lw_ofs 552 rfl rfl
set_option maxRecDepth 100000 in
theorem k_553 : Cond.methodLink RX9 212 yX2_areSo ∈ lw_tg := lw_ofs 553 (by decide +kernel) rfl
set_option maxRecDepth 100000 in
theorem k_554 : Cond.methodLink RL 98 yX9_odds ∈ lw_tg := lw_ofs 554 (by decide +kernel) rfl
set_option maxRecDepth 100000 in
theorem k_555 : Cond.instanceMethod yX9_odds ∈ lw_tg := lw_ofs 555 (by decide +kernel) rfl
set_option maxRecDepth 100000 in
theorem k_556 : Cond.selects RX9 yX9_odds yX9_odds ∈ lw_tg := lw_ofs 556 (by decide +kernel) rfl
set_option maxRecDepth 100000 in
theorem k_557 : Cond.code yX9_odds cX9_odds 6 (some .long) ∈ lw_tg := lw_ofs 557 rfl rfl
set_option maxRecDepth 100000 in
theorem k_558 : Cond.constantLong RX9 216 (-9223372036854775808) ∈ lw_tg := lw_ofs 558 (by decide +kernel) rfl
set_option maxRecDepth 100000 in
theorem k_559 : Cond.methodLink RX9 218 yX8_setsThatServe ∈ lw_tg := lw_ofs 559 (by decide +kernel) rfl
set_option maxRecDepth 100000 in
theorem k_560 : Cond.instanceMethod yX8_setsThatServe ∈ lw_tg := lw_ofs 560 (by decide +kernel) rfl
set_option maxRecDepth 100000 in
theorem k_561 : Cond.selects RX8 yX8_setsThatServe yX8_setsThatServe ∈ lw_tg := lw_ofs 561 (by decide +kernel) rfl
set_option maxRecDepth 100000 in
theorem k_562 : Cond.code yX8_setsThatServe cX8_setsThatServe 4 (some .int) ∈ lw_tg := lw_ofs 562 rfl rfl
set_option maxRecDepth 100000 in
theorem k_563 : Cond.methodLink RX9 221 yX7_sets ∈ lw_tg := lw_ofs 563 (by decide +kernel) rfl
set_option maxRecDepth 100000 in
theorem k_564 : Cond.methodLink RL 103 yX9_sheet ∈ lw_tg := lw_ofs 564 (by decide +kernel) rfl
set_option maxRecDepth 100000 in
theorem k_565 : Cond.instanceMethod yX9_sheet ∈ lw_tg := lw_ofs 565 (by decide +kernel) rfl
set_option maxRecDepth 100000 in
theorem k_566 : Cond.selects RX9 yX9_sheet yX9_sheet ∈ lw_tg := lw_ofs 566 (by decide +kernel) rfl
set_option maxRecDepth 100000 in
theorem k_567 : Cond.code yX9_sheet cX9_sheet 5 (some .int) ∈ lw_tg := lw_ofs 567 rfl rfl
set_option maxRecDepth 100000 in
theorem k_568 : Cond.methodLink RX9 224 yX4_renew ∈ lw_tg := lw_ofs 568 (by decide +kernel) rfl
set_option maxRecDepth 100000 in
theorem k_569 : Cond.instanceMethod yX4_renew ∈ lw_tg := lw_ofs 569 (by decide +kernel) rfl
set_option maxRecDepth 100000 in
theorem k_570 : Cond.selects RX4 yX4_renew yX4_renew ∈ lw_tg := lw_ofs 570 (by decide +kernel) rfl
set_option maxRecDepth 100000 in
theorem k_571 : Cond.code yX4_renew cX4_renew 3 none ∈ lw_tg := lw_ofs 571 rfl rfl
set_option maxRecDepth 100000 in
theorem k_572 : Cond.methodLink RX4 26 Lib.Math.min.name ∈ lw_tg := lw_ofs 572 (by decide +kernel) rfl
set_option maxRecDepth 100000 in
theorem k_573 : Cond.methodLink RX4 32 yJ7_fill_53178 ∈ lw_tg := lw_ofs 573 (by decide +kernel) rfl
set_option maxRecDepth 100000 in
theorem k_574 : Cond.methodLink RL 107 yX9_lose ∈ lw_tg := lw_ofs 574 (by decide +kernel) rfl
set_option maxRecDepth 100000 in
theorem k_575 : Cond.instanceMethod yX9_lose ∈ lw_tg := lw_ofs 575 (by decide +kernel) rfl
set_option maxRecDepth 100000 in
theorem k_576 : Cond.selects RX9 yX9_lose yX9_lose ∈ lw_tg := lw_ofs 576 (by decide +kernel) rfl
set_option maxRecDepth 100000 in
theorem k_577 : Cond.code yX9_lose cX9_lose 4 (some .int) ∈ lw_tg := lw_ofs 577 rfl rfl
set_option maxRecDepth 100000 in
theorem k_578 : Cond.methodLink RL 111 yX9_put ∈ lw_tg := lw_ofs 578 (by decide +kernel) rfl
set_option maxRecDepth 100000 in
theorem k_579 : Cond.instanceMethod yX9_put ∈ lw_tg := lw_ofs 579 (by decide +kernel) rfl
set_option maxRecDepth 100000 in
theorem k_580 : Cond.selects RX9 yX9_put yX9_put ∈ lw_tg := lw_ofs 580 (by decide +kernel) rfl
set_option maxRecDepth 100000 in
theorem k_581 : Cond.code yX9_put cX9_put 6 (some .int) ∈ lw_tg := lw_ofs 581 rfl rfl
set_option maxRecDepth 100000 in
theorem k_582 : Cond.methodLink RX9 234 yX4_setCell ∈ lw_tg := lw_ofs 582 (by decide +kernel) rfl
set_option maxRecDepth 100000 in
theorem k_583 : Cond.instanceMethod yX4_setCell ∈ lw_tg := lw_ofs 583 (by decide +kernel) rfl
set_option maxRecDepth 100000 in
theorem k_584 : Cond.selects RX4 yX4_setCell yX4_setCell ∈ lw_tg := lw_ofs 584 (by decide +kernel) rfl
set_option maxRecDepth 100000 in
theorem k_585 : Cond.code yX4_setCell cX4_setCell 3 none ∈ lw_tg := lw_ofs 585 rfl rfl
set_option maxRecDepth 100000 in
theorem k_586 : Cond.methodLink RX4 42 yX4_cutToLane ∈ lw_tg := lw_ofs 586 (by decide +kernel) rfl
set_option maxRecDepth 100000 in
theorem k_588 : Cond.instanceMethod yX4_cutToLane ∈ lw_tg := lw_ofs 588 (by decide +kernel) rfl
set_option maxRecDepth 100000 in
theorem k_589 : Cond.code yX4_cutToLane cX4_cutToLane 2 (some .int) ∈ lw_tg := lw_ofs 589 rfl rfl
set_option maxRecDepth 100000 in
theorem k_590 : Cond.methodLink RL 115 yX9_cell ∈ lw_tg := lw_ofs 590 (by decide +kernel) rfl
set_option maxRecDepth 100000 in
theorem k_591 : Cond.instanceMethod yX9_cell ∈ lw_tg := lw_ofs 591 (by decide +kernel) rfl
set_option maxRecDepth 100000 in
theorem k_592 : Cond.selects RX9 yX9_cell yX9_cell ∈ lw_tg := lw_ofs 592 (by decide +kernel) rfl
set_option maxRecDepth 100000 in
theorem k_593 : Cond.code yX9_cell cX9_cell 5 (some .long) ∈ lw_tg := lw_ofs 593 rfl rfl
set_option maxRecDepth 100000 in
theorem k_594 : Cond.methodLink RL 120 yX9_copy ∈ lw_tg := lw_ofs 594 (by decide +kernel) rfl
set_option maxRecDepth 100000 in
theorem k_595 : Cond.instanceMethod yX9_copy ∈ lw_tg := lw_ofs 595 (by decide +kernel) rfl
set_option maxRecDepth 100000 in
theorem k_596 : Cond.selects RX9 yX9_copy yX9_copy ∈ lw_tg := lw_ofs 596 (by decide +kernel) rfl
set_option maxRecDepth 100000 in
theorem k_597 : Cond.code yX9_copy cX9_copy 8 (some .int) ∈ lw_tg := lw_ofs 597 rfl rfl
set_option maxRecDepth 100000 in
theorem k_598 : Cond.methodLink RX9 240 yX4_isOver ∈ lw_tg := lw_ofs 598 (by decide +kernel) rfl
set_option maxRecDepth 100000 in
theorem k_599 : Cond.methodLink RX9 247 arraycopyName ∈ lw_tg := lw_ofs 599 (by decide +kernel) rfl
set_option maxRecDepth 100000 in
theorem k_600 : Cond.static arraycopyName ∈ lw_tg := lw_ofs 600 (by decide +kernel) rfl
set_option maxRecDepth 100000 in
theorem k_601 : Cond.native arraycopyName ∈ lw_tg := lw_ofs 601 (by decide +kernel) rfl
set_option maxRecDepth 100000 in
theorem k_602 : Cond.methodLink RL 125 yX9_tell ∈ lw_tg := lw_ofs 602 (by decide +kernel) rfl
set_option maxRecDepth 100000 in
theorem k_603 : Cond.instanceMethod yX9_tell ∈ lw_tg := lw_ofs 603 (by decide +kernel) rfl
set_option maxRecDepth 100000 in
theorem k_604 : Cond.selects RX9 yX9_tell yX9_tell ∈ lw_tg := lw_ofs 604 (by decide +kernel) rfl
set_option maxRecDepth 100000 in
theorem k_605 : Cond.code yX9_tell cX9_tell 3 (some .int) ∈ lw_tg := lw_ofs 605 rfl rfl
set_option maxRecDepth 100000 in
theorem k_606 : Cond.methodLink RX9 253 yX0_telling ∈ lw_tg := lw_ofs 606 (by decide +kernel) rfl
set_option maxRecDepth 100000 in
theorem k_607 : Cond.instanceMethod yX0_telling ∈ lw_tg := lw_ofs 607 (by decide +kernel) rfl
set_option maxRecDepth 100000 in
theorem k_608 : Cond.selects RX0 yX0_telling yX0_telling ∈ lw_tg := lw_ofs 608 (by decide +kernel) rfl
set_option maxRecDepth 100000 in
theorem k_609 : Cond.code yX0_telling cX0_telling 2 (some .int) ∈ lw_tg := lw_ofs 609 rfl rfl
set_option maxRecDepth 100000 in
theorem k_610 : Cond.methodLink RX0 20 yX0_mayorTells ∈ lw_tg := lw_ofs 610 (by decide +kernel) rfl
set_option maxRecDepth 100000 in
theorem k_612 : Cond.instanceMethod yX0_mayorTells ∈ lw_tg := lw_ofs 612 (by decide +kernel) rfl
set_option maxRecDepth 100000 in
theorem k_613 : Cond.code yX0_mayorTells cX0_mayorTells 3 (some .int) ∈ lw_tg := lw_ofs 613 rfl rfl
set_option maxRecDepth 100000 in
theorem k_614 : Cond.methodLink RX0 37 yX0_leave ∈ lw_tg := lw_ofs 614 (by decide +kernel) rfl
set_option maxRecDepth 100000 in
theorem k_616 : Cond.instanceMethod yX0_leave ∈ lw_tg := lw_ofs 616 (by decide +kernel) rfl
set_option maxRecDepth 100000 in
theorem k_617 : Cond.code yX0_leave cX0_leave 2 none ∈ lw_tg := lw_ofs 617 rfl rfl
set_option maxRecDepth 100000 in
theorem k_618 : Cond.methodLink RX0 24 yX0_swornTells ∈ lw_tg := lw_ofs 618 (by decide +kernel) rfl
set_option maxRecDepth 100000 in
theorem k_620 : Cond.instanceMethod yX0_swornTells ∈ lw_tg := lw_ofs 620 (by decide +kernel) rfl
set_option maxRecDepth 100000 in
theorem k_621 : Cond.code yX0_swornTells cX0_swornTells 2 (some .int) ∈ lw_tg := lw_ofs 621 rfl rfl
set_option maxRecDepth 100000 in
theorem k_622 : Cond.methodLink RX0 27 yX0_thingTells ∈ lw_tg := lw_ofs 622 (by decide +kernel) rfl
set_option maxRecDepth 100000 in
theorem k_624 : Cond.instanceMethod yX0_thingTells ∈ lw_tg := lw_ofs 624 (by decide +kernel) rfl
set_option maxRecDepth 100000 in
theorem k_625 : Cond.code yX0_thingTells cX0_thingTells 2 (some .int) ∈ lw_tg := lw_ofs 625 rfl rfl
set_option maxRecDepth 100000 in
theorem k_626 : Cond.methodLink RL 129 yX9_call ∈ lw_tg := lw_ofs 626 (by decide +kernel) rfl
set_option maxRecDepth 100000 in
theorem k_627 : Cond.instanceMethod yX9_call ∈ lw_tg := lw_ofs 627 (by decide +kernel) rfl
set_option maxRecDepth 100000 in
theorem k_628 : Cond.selects RX9 yX9_call yX9_call ∈ lw_tg := lw_ofs 628 (by decide +kernel) rfl
set_option maxRecDepth 100000 in
theorem k_629 : Cond.code yX9_call cX9_call 3 (some .int) ∈ lw_tg := lw_ofs 629 rfl rfl
set_option maxRecDepth 100000 in
theorem k_630 : Cond.methodLink RX9 257 yX0_ringing ∈ lw_tg := lw_ofs 630 (by decide +kernel) rfl
set_option maxRecDepth 100000 in
theorem k_631 : Cond.instanceMethod yX0_ringing ∈ lw_tg := lw_ofs 631 (by decide +kernel) rfl
set_option maxRecDepth 100000 in
theorem k_632 : Cond.selects RX0 yX0_ringing yX0_ringing ∈ lw_tg := lw_ofs 632 (by decide +kernel) rfl
set_option maxRecDepth 100000 in
theorem k_633 : Cond.code yX0_ringing cX0_ringing 2 (some .int) ∈ lw_tg := lw_ofs 633 rfl rfl
set_option maxRecDepth 100000 in
theorem k_634 : Cond.methodLink RX0 30 yX0_mayorRings ∈ lw_tg := lw_ofs 634 (by decide +kernel) rfl
set_option maxRecDepth 100000 in
theorem k_636 : Cond.instanceMethod yX0_mayorRings ∈ lw_tg := lw_ofs 636 (by decide +kernel) rfl
set_option maxRecDepth 100000 in
theorem k_637 : Cond.code yX0_mayorRings cX0_mayorRings 1 (some .int) ∈ lw_tg := lw_ofs 637 rfl rfl
set_option maxRecDepth 100000 in
theorem k_638 : Cond.methodLink RX0 34 yX0_lentRings ∈ lw_tg := lw_ofs 638 (by decide +kernel) rfl
set_option maxRecDepth 100000 in
theorem k_640 : Cond.instanceMethod yX0_lentRings ∈ lw_tg := lw_ofs 640 (by decide +kernel) rfl
set_option maxRecDepth 100000 in
theorem k_641 : Cond.code yX0_lentRings cX0_lentRings 2 (some .int) ∈ lw_tg := lw_ofs 641 rfl rfl
set_option maxRecDepth 100000 in
theorem k_642 : Cond.methodLink RL 133 yX9_as ∈ lw_tg := lw_ofs 642 (by decide +kernel) rfl
set_option maxRecDepth 100000 in
theorem k_643 : Cond.instanceMethod yX9_as ∈ lw_tg := lw_ofs 643 (by decide +kernel) rfl
set_option maxRecDepth 100000 in
theorem k_644 : Cond.selects RX9 yX9_as yX9_as ∈ lw_tg := lw_ofs 644 (by decide +kernel) rfl
set_option maxRecDepth 100000 in
theorem k_645 : Cond.code yX9_as cX9_as 4 (some .int) ∈ lw_tg := lw_ofs 645 rfl rfl
set_option maxRecDepth 100000 in
theorem k_646 : Cond.methodLink RL 137 yX9_trace ∈ lw_tg := lw_ofs 646 (by decide +kernel) rfl
set_option maxRecDepth 100000 in
theorem k_647 : Cond.instanceMethod yX9_trace ∈ lw_tg := lw_ofs 647 (by decide +kernel) rfl
set_option maxRecDepth 100000 in
theorem k_648 : Cond.selects RX9 yX9_trace yX9_trace ∈ lw_tg := lw_ofs 648 (by decide +kernel) rfl
set_option maxRecDepth 100000 in
theorem k_649 : Cond.code yX9_trace cX9_trace 1 (some .int) ∈ lw_tg := lw_ofs 649 rfl rfl
set_option maxRecDepth 100000 in
theorem k_650 : Cond.methodLink RL 141 yX9_fault ∈ lw_tg := lw_ofs 650 (by decide +kernel) rfl
set_option maxRecDepth 100000 in
theorem k_651 : Cond.instanceMethod yX9_fault ∈ lw_tg := lw_ofs 651 (by decide +kernel) rfl
set_option maxRecDepth 100000 in
theorem k_652 : Cond.selects RX9 yX9_fault yX9_fault ∈ lw_tg := lw_ofs 652 (by decide +kernel) rfl
set_option maxRecDepth 100000 in
theorem k_653 : Cond.code yX9_fault cX9_fault 1 (some .int) ∈ lw_tg := lw_ofs 653 rfl rfl
set_option maxRecDepth 100000 in
theorem k_654 : Cond.methodLink RL 145 yX9_many ∈ lw_tg := lw_ofs 654 (by decide +kernel) rfl
set_option maxRecDepth 100000 in
theorem k_655 : Cond.instanceMethod yX9_many ∈ lw_tg := lw_ofs 655 (by decide +kernel) rfl
set_option maxRecDepth 100000 in
theorem k_656 : Cond.selects RX9 yX9_many yX9_many ∈ lw_tg := lw_ofs 656 (by decide +kernel) rfl
set_option maxRecDepth 100000 in
theorem k_657 : Cond.code yX9_many cX9_many 2 (some .int) ∈ lw_tg := lw_ofs 657 rfl rfl
set_option maxRecDepth 100000 in
theorem k_658 : Cond.classLink RL 10 RX10 ∈ lw_tg := lw_ofs 658 (by decide +kernel) rfl
set_option maxRecDepth 100000 in
theorem k_659 : Cond.instantiable RX10 29 ∈ lw_tg := lw_ofs 659 (by decide +kernel) rfl
set_option maxRecDepth 100000 in
theorem k_660 : Cond.methodLink RL 12 yX10_init ∈ lw_tg := lw_ofs 660 (by decide +kernel) rfl
set_option maxRecDepth 100000 in
theorem k_661 : Cond.instanceMethod yX10_init ∈ lw_tg := lw_ofs 661 (by decide +kernel) rfl
set_option maxRecDepth 100000 in
theorem k_662 : Cond.code yX10_init cX10_init 2 none ∈ lw_tg := lw_ofs 662 rfl rfl
set_option maxRecDepth 100000 in
theorem k_663 : Cond.methodLink RX10 1 Lib.objectInit ∈ lw_tg := lw_ofs 663 (by decide +kernel) rfl
set_option maxRecDepth 100000 in
theorem k_664 : Cond.fieldLink RX10 72 "DeputyTownModel" "fault" "I" ∈ lw_tg := lw_ofs 664 (by decide +kernel) rfl
set_option maxRecDepth 100000 in
theorem k_665 : Cond.fieldLink RX10 80 "DeputyTownModel" "things" "I" ∈ lw_tg := lw_ofs 665 (by decide +kernel) rfl
set_option maxRecDepth 100000 in
theorem k_666 : Cond.fieldLink RX10 7 "DeputyTownModel" "kindOf" "[I" ∈ lw_tg := lw_ofs 666 (by decide +kernel) rfl
set_option maxRecDepth 100000 in
theorem k_667 : Cond.fieldLink RX10 13 "DeputyTownModel" "deputyOf" "[I" ∈ lw_tg := lw_ofs 667 (by decide +kernel) rfl
set_option maxRecDepth 100000 in
theorem k_668 : Cond.fieldLink RX10 16 "DeputyTownModel" "fitOf" "[I" ∈ lw_tg := lw_ofs 668 (by decide +kernel) rfl
set_option maxRecDepth 100000 in
theorem k_669 : Cond.fieldLink RX10 19 "DeputyTownModel" "lastsOf" "[I" ∈ lw_tg := lw_ofs 669 (by decide +kernel) rfl
set_option maxRecDepth 100000 in
theorem k_670 : Cond.fieldLink RX10 131 "DeputyTownModel" "lawNow" "I" ∈ lw_tg := lw_ofs 670 (by decide +kernel) rfl
set_option maxRecDepth 100000 in
theorem k_671 : Cond.fieldLink RX10 89 "DeputyTownModel" "readAt" "I" ∈ lw_tg := lw_ofs 671 (by decide +kernel) rfl
set_option maxRecDepth 100000 in
theorem k_672 : Cond.fieldLink RX10 96 "DeputyTownModel" "readThings" "I" ∈ lw_tg := lw_ofs 672 (by decide +kernel) rfl
set_option maxRecDepth 100000 in
theorem k_673 : Cond.fieldLink RX10 22 "DeputyTownModel" "readKind" "[I" ∈ lw_tg := lw_ofs 673 (by decide +kernel) rfl
set_option maxRecDepth 100000 in
theorem k_674 : Cond.fieldLink RX10 25 "DeputyTownModel" "readDeputy" "[I" ∈ lw_tg := lw_ofs 674 (by decide +kernel) rfl
set_option maxRecDepth 100000 in
theorem k_675 : Cond.fieldLink RX10 28 "DeputyTownModel" "readFit" "[I" ∈ lw_tg := lw_ofs 675 (by decide +kernel) rfl
set_option maxRecDepth 100000 in
theorem k_676 : Cond.fieldLink RX10 31 "DeputyTownModel" "readLasts" "[I" ∈ lw_tg := lw_ofs 676 (by decide +kernel) rfl
set_option maxRecDepth 100000 in
theorem k_677 : Cond.fieldLink RX10 134 "DeputyTownModel" "breaks" "I" ∈ lw_tg := lw_ofs 677 (by decide +kernel) rfl
set_option maxRecDepth 100000 in
theorem k_678 : Cond.fieldLink RX10 34 "DeputyTownModel" "breakOf" "[I" ∈ lw_tg := lw_ofs 678 (by decide +kernel) rfl
set_option maxRecDepth 100000 in
theorem k_679 : Cond.fieldLink RX10 37 "DeputyTownModel" "breakFrom" "[I" ∈ lw_tg := lw_ofs 679 (by decide +kernel) rfl
set_option maxRecDepth 100000 in
theorem k_680 : Cond.fieldLink RX10 40 "DeputyTownModel" "breakTo" "[I" ∈ lw_tg := lw_ofs 680 (by decide +kernel) rfl
set_option maxRecDepth 100000 in
theorem k_681 : Cond.fieldLink RX10 43 "DeputyTownModel" "servedBy" "[I" ∈ lw_tg := lw_ofs 681 (by decide +kernel) rfl
set_option maxRecDepth 100000 in
theorem k_682 : Cond.fieldLink RX10 46 "DeputyTownModel" "stoodIn" "[I" ∈ lw_tg := lw_ofs 682 (by decide +kernel) rfl
set_option maxRecDepth 100000 in
theorem k_683 : Cond.fieldLink RX10 49 "DeputyTownModel" "stoodFor" "[I" ∈ lw_tg := lw_ofs 683 (by decide +kernel) rfl
set_option maxRecDepth 100000 in
theorem k_684 : Cond.fieldLink RX10 190 "DeputyTownModel" "frailMany" "I" ∈ lw_tg := lw_ofs 684 (by decide +kernel) rfl
set_option maxRecDepth 100000 in
theorem k_685 : Cond.fieldLink RX10 137 "DeputyTownModel" "readings" "I" ∈ lw_tg := lw_ofs 685 (by decide +kernel) rfl
set_option maxRecDepth 100000 in
theorem k_686 : Cond.fieldLink RX10 52 "DeputyTownModel" "readingOf" "[I" ∈ lw_tg := lw_ofs 686 (by decide +kernel) rfl
set_option maxRecDepth 100000 in
theorem k_687 : Cond.fieldLink RX10 55 "DeputyTownModel" "readingBy" "[I" ∈ lw_tg := lw_ofs 687 (by decide +kernel) rfl
set_option maxRecDepth 100000 in
theorem k_688 : Cond.fieldLink RX10 58 "DeputyTownModel" "sheetSize" "[I" ∈ lw_tg := lw_ofs 688 (by decide +kernel) rfl
set_option maxRecDepth 100000 in
theorem k_689 : Cond.fieldLink RX10 61 "DeputyTownModel" "sheetLane" "[I" ∈ lw_tg := lw_ofs 689 (by decide +kernel) rfl
set_option maxRecDepth 100000 in
theorem k_690 : Cond.fieldLink RX10 64 "DeputyTownModel" "sheet" "[I" ∈ lw_tg := lw_ofs 690 (by decide +kernel) rfl
set_option maxRecDepth 100000 in
theorem k_691 : Cond.fieldLink RX10 67 "DeputyTownModel" "hands" "[I" ∈ lw_tg := lw_ofs 691 (by decide +kernel) rfl
set_option maxRecDepth 100000 in
theorem k_692 : Cond.fieldLink RX10 218 "DeputyTownModel" "traceNow" "I" ∈ lw_tg := lw_ofs 692 (by decide +kernel) rfl
set_option maxRecDepth 100000 in
theorem k_693 : Cond.lays "DeputyTownModel" "DeputyTownModel" "fault" "I" ∈ lw_tg := lw_ofs 693 (by decide +kernel) rfl
set_option maxRecDepth 100000 in
theorem k_695 : Cond.lays "DeputyTownModel" "DeputyTownModel" "things" "I" ∈ lw_tg := lw_ofs 695 (by decide +kernel) rfl
set_option maxRecDepth 100000 in
theorem k_697 : Cond.laysFinal "DeputyTownModel" "DeputyTownModel" "kindOf" "[I" ∈ lw_tg := lw_ofs 697 (by decide +kernel) rfl
set_option maxRecDepth 100000 in
theorem k_699 : Cond.laysFinal "DeputyTownModel" "DeputyTownModel" "deputyOf" "[I" ∈ lw_tg := lw_ofs 699 (by decide +kernel) rfl
set_option maxRecDepth 100000 in
theorem k_701 : Cond.laysFinal "DeputyTownModel" "DeputyTownModel" "fitOf" "[I" ∈ lw_tg := lw_ofs 701 (by decide +kernel) rfl
set_option maxRecDepth 100000 in
theorem k_703 : Cond.laysFinal "DeputyTownModel" "DeputyTownModel" "lastsOf" "[I" ∈ lw_tg := lw_ofs 703 (by decide +kernel) rfl
set_option maxRecDepth 100000 in
theorem k_705 : Cond.lays "DeputyTownModel" "DeputyTownModel" "lawNow" "I" ∈ lw_tg := lw_ofs 705 (by decide +kernel) rfl
set_option maxRecDepth 100000 in
theorem k_707 : Cond.lays "DeputyTownModel" "DeputyTownModel" "readAt" "I" ∈ lw_tg := lw_ofs 707 (by decide +kernel) rfl
set_option maxRecDepth 100000 in
theorem k_709 : Cond.lays "DeputyTownModel" "DeputyTownModel" "readThings" "I" ∈ lw_tg := lw_ofs 709 (by decide +kernel) rfl
set_option maxRecDepth 100000 in
theorem k_711 : Cond.laysFinal "DeputyTownModel" "DeputyTownModel" "readKind" "[I" ∈ lw_tg := lw_ofs 711 (by decide +kernel) rfl
set_option maxRecDepth 100000 in
theorem k_713 : Cond.laysFinal "DeputyTownModel" "DeputyTownModel" "readDeputy" "[I" ∈ lw_tg := lw_ofs 713 (by decide +kernel) rfl
set_option maxRecDepth 100000 in
theorem k_715 : Cond.laysFinal "DeputyTownModel" "DeputyTownModel" "readFit" "[I" ∈ lw_tg := lw_ofs 715 (by decide +kernel) rfl
set_option maxRecDepth 100000 in
theorem k_717 : Cond.laysFinal "DeputyTownModel" "DeputyTownModel" "readLasts" "[I" ∈ lw_tg := lw_ofs 717 (by decide +kernel) rfl
set_option maxRecDepth 100000 in
theorem k_719 : Cond.lays "DeputyTownModel" "DeputyTownModel" "breaks" "I" ∈ lw_tg := lw_ofs 719 (by decide +kernel) rfl
set_option maxRecDepth 100000 in
theorem k_721 : Cond.laysFinal "DeputyTownModel" "DeputyTownModel" "breakOf" "[I" ∈ lw_tg := lw_ofs 721 (by decide +kernel) rfl
set_option maxRecDepth 100000 in
theorem k_723 : Cond.laysFinal "DeputyTownModel" "DeputyTownModel" "breakFrom" "[I" ∈ lw_tg := lw_ofs 723 (by decide +kernel) rfl
set_option maxRecDepth 100000 in
theorem k_725 : Cond.laysFinal "DeputyTownModel" "DeputyTownModel" "breakTo" "[I" ∈ lw_tg := lw_ofs 725 (by decide +kernel) rfl
set_option maxRecDepth 100000 in
theorem k_727 : Cond.laysFinal "DeputyTownModel" "DeputyTownModel" "servedBy" "[I" ∈ lw_tg := lw_ofs 727 (by decide +kernel) rfl
set_option maxRecDepth 100000 in
theorem k_729 : Cond.laysFinal "DeputyTownModel" "DeputyTownModel" "stoodIn" "[I" ∈ lw_tg := lw_ofs 729 (by decide +kernel) rfl
set_option maxRecDepth 100000 in
theorem k_731 : Cond.laysFinal "DeputyTownModel" "DeputyTownModel" "stoodFor" "[I" ∈ lw_tg := lw_ofs 731 (by decide +kernel) rfl
set_option maxRecDepth 100000 in
theorem k_733 : Cond.lays "DeputyTownModel" "DeputyTownModel" "frailMany" "I" ∈ lw_tg := lw_ofs 733 (by decide +kernel) rfl
set_option maxRecDepth 100000 in
theorem k_735 : Cond.lays "DeputyTownModel" "DeputyTownModel" "readings" "I" ∈ lw_tg := lw_ofs 735 (by decide +kernel) rfl
set_option maxRecDepth 100000 in
theorem k_737 : Cond.laysFinal "DeputyTownModel" "DeputyTownModel" "readingOf" "[I" ∈ lw_tg := lw_ofs 737 (by decide +kernel) rfl
set_option maxRecDepth 100000 in
theorem k_739 : Cond.laysFinal "DeputyTownModel" "DeputyTownModel" "readingBy" "[I" ∈ lw_tg := lw_ofs 739 (by decide +kernel) rfl
set_option maxRecDepth 100000 in
theorem k_741 : Cond.laysFinal "DeputyTownModel" "DeputyTownModel" "sheetSize" "[I" ∈ lw_tg := lw_ofs 741 (by decide +kernel) rfl
set_option maxRecDepth 100000 in
theorem k_743 : Cond.laysFinal "DeputyTownModel" "DeputyTownModel" "sheetLane" "[I" ∈ lw_tg := lw_ofs 743 (by decide +kernel) rfl
set_option maxRecDepth 100000 in
theorem k_745 : Cond.laysFinal "DeputyTownModel" "DeputyTownModel" "sheet" "[I" ∈ lw_tg := lw_ofs 745 (by decide +kernel) rfl
set_option maxRecDepth 100000 in
theorem k_747 : Cond.laysFinal "DeputyTownModel" "DeputyTownModel" "hands" "[I" ∈ lw_tg := lw_ofs 747 (by decide +kernel) rfl
set_option maxRecDepth 100000 in
theorem k_749 : Cond.lays "DeputyTownModel" "DeputyTownModel" "traceNow" "I" ∈ lw_tg := lw_ofs 749 (by decide +kernel) rfl
set_option maxRecDepth 100000 in
theorem k_752 : Cond.methodLink RL 17 yX10_town ∈ lw_tg := lw_ofs 752 (by decide +kernel) rfl
set_option maxRecDepth 100000 in
theorem k_753 : Cond.instanceMethod yX10_town ∈ lw_tg := lw_ofs 753 (by decide +kernel) rfl
set_option maxRecDepth 100000 in
theorem k_754 : Cond.selects RX10 yX10_town yX10_town ∈ lw_tg := lw_ofs 754 (by decide +kernel) rfl
set_option maxRecDepth 100000 in
theorem k_755 : Cond.code yX10_town cX10_town 7 (some .int) ∈ lw_tg := lw_ofs 755 rfl rfl
set_option maxRecDepth 100000 in
theorem k_756 : Cond.methodLink RX10 115 yX10_noSheet ∈ lw_tg := lw_ofs 756 (by decide +kernel) rfl
set_option maxRecDepth 100000 in
theorem k_757 : Cond.static yX10_noSheet ∈ lw_tg := lw_ofs 757 (by decide +kernel) rfl
set_option maxRecDepth 100000 in
theorem k_758 : Cond.code yX10_noSheet cX10_noSheet 1 (some .boolean) ∈ lw_tg := lw_ofs 758 rfl rfl
set_option maxRecDepth 100000 in
theorem k_759 : Cond.constantLong RX10 209 (3) ∈ lw_tg := lw_ofs 759 (by decide +kernel) rfl
set_option maxRecDepth 100000 in
theorem k_760 : Cond.methodLink RX10 83 yX10_in ∈ lw_tg := lw_ofs 760 (by decide +kernel) rfl
set_option maxRecDepth 100000 in
theorem k_761 : Cond.static yX10_in ∈ lw_tg := lw_ofs 761 (by decide +kernel) rfl
set_option maxRecDepth 100000 in
theorem k_762 : Cond.code yX10_in cX10_in 6 (some .boolean) ∈ lw_tg := lw_ofs 762 rfl rfl
set_option maxRecDepth 100000 in
theorem k_763 : Cond.methodLink RX10 119 yX10_refused ∈ lw_tg := lw_ofs 763 (by decide +kernel) rfl
set_option maxRecDepth 100000 in
theorem k_765 : Cond.instanceMethod yX10_refused ∈ lw_tg := lw_ofs 765 (by decide +kernel) rfl
set_option maxRecDepth 100000 in
theorem k_766 : Cond.code yX10_refused cX10_refused 2 (some .int) ∈ lw_tg := lw_ofs 766 rfl rfl
set_option maxRecDepth 100000 in
theorem k_767 : Cond.constantLong RX10 122 (2) ∈ lw_tg := lw_ofs 767 (by decide +kernel) rfl
set_option maxRecDepth 100000 in
theorem k_768 : Cond.methodLink RX10 124 yX10_cellsBarred ∈ lw_tg := lw_ofs 768 (by decide +kernel) rfl
set_option maxRecDepth 100000 in
theorem k_770 : Cond.instanceMethod yX10_cellsBarred ∈ lw_tg := lw_ofs 770 (by decide +kernel) rfl
set_option maxRecDepth 100000 in
theorem k_771 : Cond.code yX10_cellsBarred cX10_cellsBarred 6 (some .int) ∈ lw_tg := lw_ofs 771 rfl rfl
set_option maxRecDepth 100000 in
theorem k_772 : Cond.methodLink RX10 107 yX10_faulted ∈ lw_tg := lw_ofs 772 (by decide +kernel) rfl
set_option maxRecDepth 100000 in
theorem k_774 : Cond.instanceMethod yX10_faulted ∈ lw_tg := lw_ofs 774 (by decide +kernel) rfl
set_option maxRecDepth 100000 in
theorem k_775 : Cond.code yX10_faulted cX10_faulted 2 (some .int) ∈ lw_tg := lw_ofs 775 rfl rfl
set_option maxRecDepth 100000 in
theorem k_776 : Cond.methodLink RX10 111 yX10_isBeyond ∈ lw_tg := lw_ofs 776 (by decide +kernel) rfl
set_option maxRecDepth 100000 in
theorem k_777 : Cond.static yX10_isBeyond ∈ lw_tg := lw_ofs 777 (by decide +kernel) rfl
set_option maxRecDepth 100000 in
theorem k_778 : Cond.code yX10_isBeyond cX10_isBeyond 4 (some .boolean) ∈ lw_tg := lw_ofs 778 rfl rfl
set_option maxRecDepth 100000 in
theorem k_779 : Cond.methodLink RX10 128 yX10_readsTown ∈ lw_tg := lw_ofs 779 (by decide +kernel) rfl
set_option maxRecDepth 100000 in
theorem k_781 : Cond.instanceMethod yX10_readsTown ∈ lw_tg := lw_ofs 781 (by decide +kernel) rfl
set_option maxRecDepth 100000 in
theorem k_782 : Cond.code yX10_readsTown cX10_readsTown 5 (some .boolean) ∈ lw_tg := lw_ofs 782 rfl rfl
set_option maxRecDepth 100000 in
theorem k_783 : Cond.methodLink RX10 92 yX10_codeAt ∈ lw_tg := lw_ofs 783 (by decide +kernel) rfl
set_option maxRecDepth 100000 in
theorem k_785 : Cond.instanceMethod yX10_codeAt ∈ lw_tg := lw_ofs 785 (by decide +kernel) rfl
set_option maxRecDepth 100000 in
theorem k_786 : Cond.code yX10_codeAt cX10_codeAt 3 (some .int) ∈ lw_tg := lw_ofs 786 rfl rfl
set_option maxRecDepth 100000 in
theorem k_787 : Cond.methodLink RX10 103 yX10_readsThing ∈ lw_tg := lw_ofs 787 (by decide +kernel) rfl
set_option maxRecDepth 100000 in
theorem k_789 : Cond.instanceMethod yX10_readsThing ∈ lw_tg := lw_ofs 789 (by decide +kernel) rfl
set_option maxRecDepth 100000 in
theorem k_790 : Cond.code yX10_readsThing cX10_readsThing 7 (some .boolean) ∈ lw_tg := lw_ofs 790 rfl rfl
set_option maxRecDepth 100000 in
theorem k_791 : Cond.methodLink RX10 99 yX10_figure ∈ lw_tg := lw_ofs 791 (by decide +kernel) rfl
set_option maxRecDepth 100000 in
theorem k_793 : Cond.instanceMethod yX10_figure ∈ lw_tg := lw_ofs 793 (by decide +kernel) rfl
set_option maxRecDepth 100000 in
theorem k_794 : Cond.code yX10_figure cX10_figure 8 (some .int) ∈ lw_tg := lw_ofs 794 rfl rfl
set_option maxRecDepth 100000 in
theorem k_795 : Cond.methodLink RL 22 yX10_ofThing ∈ lw_tg := lw_ofs 795 (by decide +kernel) rfl
set_option maxRecDepth 100000 in
theorem k_796 : Cond.instanceMethod yX10_ofThing ∈ lw_tg := lw_ofs 796 (by decide +kernel) rfl
set_option maxRecDepth 100000 in
theorem k_797 : Cond.selects RX10 yX10_ofThing yX10_ofThing ∈ lw_tg := lw_ofs 797 (by decide +kernel) rfl
set_option maxRecDepth 100000 in
theorem k_798 : Cond.code yX10_ofThing cX10_ofThing 3 (some .int) ∈ lw_tg := lw_ofs 798 rfl rfl
set_option maxRecDepth 100000 in
theorem k_799 : Cond.methodLink RX10 140 yX10_noThing ∈ lw_tg := lw_ofs 799 (by decide +kernel) rfl
set_option maxRecDepth 100000 in
theorem k_801 : Cond.instanceMethod yX10_noThing ∈ lw_tg := lw_ofs 801 (by decide +kernel) rfl
set_option maxRecDepth 100000 in
theorem k_802 : Cond.code yX10_noThing cX10_noThing 2 (some .boolean) ∈ lw_tg := lw_ofs 802 rfl rfl
set_option maxRecDepth 100000 in
theorem k_803 : Cond.methodLink RX10 143 yX10_goodOf ∈ lw_tg := lw_ofs 803 (by decide +kernel) rfl
set_option maxRecDepth 100000 in
theorem k_805 : Cond.instanceMethod yX10_goodOf ∈ lw_tg := lw_ofs 805 (by decide +kernel) rfl
set_option maxRecDepth 100000 in
theorem k_806 : Cond.code yX10_goodOf cX10_goodOf 3 (some .int) ∈ lw_tg := lw_ofs 806 rfl rfl
set_option maxRecDepth 100000 in
theorem k_807 : Cond.methodLink RL 27 yX10_law ∈ lw_tg := lw_ofs 807 (by decide +kernel) rfl
set_option maxRecDepth 100000 in
theorem k_808 : Cond.instanceMethod yX10_law ∈ lw_tg := lw_ofs 808 (by decide +kernel) rfl
set_option maxRecDepth 100000 in
theorem k_809 : Cond.selects RX10 yX10_law yX10_law ∈ lw_tg := lw_ofs 809 (by decide +kernel) rfl
set_option maxRecDepth 100000 in
theorem k_810 : Cond.code yX10_law cX10_law 3 (some .int) ∈ lw_tg := lw_ofs 810 rfl rfl
set_option maxRecDepth 100000 in
theorem k_811 : Cond.methodLink RL 31 yX10_depute ∈ lw_tg := lw_ofs 811 (by decide +kernel) rfl
set_option maxRecDepth 100000 in
theorem k_812 : Cond.instanceMethod yX10_depute ∈ lw_tg := lw_ofs 812 (by decide +kernel) rfl
set_option maxRecDepth 100000 in
theorem k_813 : Cond.selects RX10 yX10_depute yX10_depute ∈ lw_tg := lw_ofs 813 (by decide +kernel) rfl
set_option maxRecDepth 100000 in
theorem k_814 : Cond.code yX10_depute cX10_depute 4 (some .int) ∈ lw_tg := lw_ofs 814 rfl rfl
set_option maxRecDepth 100000 in
theorem k_815 : Cond.methodLink RL 36 yX10_smash ∈ lw_tg := lw_ofs 815 (by decide +kernel) rfl
set_option maxRecDepth 100000 in
theorem k_816 : Cond.instanceMethod yX10_smash ∈ lw_tg := lw_ofs 816 (by decide +kernel) rfl
set_option maxRecDepth 100000 in
theorem k_817 : Cond.selects RX10 yX10_smash yX10_smash ∈ lw_tg := lw_ofs 817 (by decide +kernel) rfl
set_option maxRecDepth 100000 in
theorem k_818 : Cond.code yX10_smash cX10_smash 4 (some .int) ∈ lw_tg := lw_ofs 818 rfl rfl
set_option maxRecDepth 100000 in
theorem k_819 : Cond.methodLink RX10 146 yX10_isHour ∈ lw_tg := lw_ofs 819 (by decide +kernel) rfl
set_option maxRecDepth 100000 in
theorem k_820 : Cond.static yX10_isHour ∈ lw_tg := lw_ofs 820 (by decide +kernel) rfl
set_option maxRecDepth 100000 in
theorem k_821 : Cond.code yX10_isHour cX10_isHour 1 (some .boolean) ∈ lw_tg := lw_ofs 821 rfl rfl
set_option maxRecDepth 100000 in
theorem k_822 : Cond.constantLong RX10 87 (29) ∈ lw_tg := lw_ofs 822 (by decide +kernel) rfl
set_option maxRecDepth 100000 in
theorem k_823 : Cond.methodLink RL 40 yX10_glue ∈ lw_tg := lw_ofs 823 (by decide +kernel) rfl
set_option maxRecDepth 100000 in
theorem k_824 : Cond.instanceMethod yX10_glue ∈ lw_tg := lw_ofs 824 (by decide +kernel) rfl
set_option maxRecDepth 100000 in
theorem k_825 : Cond.selects RX10 yX10_glue yX10_glue ∈ lw_tg := lw_ofs 825 (by decide +kernel) rfl
set_option maxRecDepth 100000 in
theorem k_826 : Cond.code yX10_glue cX10_glue 2 (some .int) ∈ lw_tg := lw_ofs 826 rfl rfl
set_option maxRecDepth 100000 in
theorem k_827 : Cond.methodLink RL 44 yX10_by ∈ lw_tg := lw_ofs 827 (by decide +kernel) rfl
set_option maxRecDepth 100000 in
theorem k_828 : Cond.instanceMethod yX10_by ∈ lw_tg := lw_ofs 828 (by decide +kernel) rfl
set_option maxRecDepth 100000 in
theorem k_829 : Cond.selects RX10 yX10_by yX10_by ∈ lw_tg := lw_ofs 829 (by decide +kernel) rfl
set_option maxRecDepth 100000 in
theorem k_830 : Cond.code yX10_by cX10_by 3 (some .int) ∈ lw_tg := lw_ofs 830 rfl rfl
set_option maxRecDepth 100000 in
theorem k_831 : Cond.methodLink RX10 171 yX10_goTo ∈ lw_tg := lw_ofs 831 (by decide +kernel) rfl
set_option maxRecDepth 100000 in
theorem k_833 : Cond.instanceMethod yX10_goTo ∈ lw_tg := lw_ofs 833 (by decide +kernel) rfl
set_option maxRecDepth 100000 in
theorem k_834 : Cond.code yX10_goTo cX10_goTo 3 none ∈ lw_tg := lw_ofs 834 rfl rfl
set_option maxRecDepth 100000 in
theorem k_835 : Cond.methodLink RX10 161 yX10_beginHours ∈ lw_tg := lw_ofs 835 (by decide +kernel) rfl
set_option maxRecDepth 100000 in
theorem k_837 : Cond.instanceMethod yX10_beginHours ∈ lw_tg := lw_ofs 837 (by decide +kernel) rfl
set_option maxRecDepth 100000 in
theorem k_838 : Cond.code yX10_beginHours cX10_beginHours 2 none ∈ lw_tg := lw_ofs 838 rfl rfl
set_option maxRecDepth 100000 in
theorem k_839 : Cond.methodLink RX10 164 yX10_brokenIn ∈ lw_tg := lw_ofs 839 (by decide +kernel) rfl
set_option maxRecDepth 100000 in
theorem k_841 : Cond.instanceMethod yX10_brokenIn ∈ lw_tg := lw_ofs 841 (by decide +kernel) rfl
set_option maxRecDepth 100000 in
theorem k_842 : Cond.code yX10_brokenIn cX10_brokenIn 4 (some .int) ∈ lw_tg := lw_ofs 842 rfl rfl
set_option maxRecDepth 100000 in
theorem k_843 : Cond.methodLink RX10 167 yX10_goHour ∈ lw_tg := lw_ofs 843 (by decide +kernel) rfl
set_option maxRecDepth 100000 in
theorem k_845 : Cond.instanceMethod yX10_goHour ∈ lw_tg := lw_ofs 845 (by decide +kernel) rfl
set_option maxRecDepth 100000 in
theorem k_846 : Cond.code yX10_goHour cX10_goHour 4 none ∈ lw_tg := lw_ofs 846 rfl rfl
set_option maxRecDepth 100000 in
theorem k_847 : Cond.methodLink RX10 149 yX10_isIn ∈ lw_tg := lw_ofs 847 (by decide +kernel) rfl
set_option maxRecDepth 100000 in
theorem k_848 : Cond.static yX10_isIn ∈ lw_tg := lw_ofs 848 (by decide +kernel) rfl
set_option maxRecDepth 100000 in
theorem k_849 : Cond.code yX10_isIn cX10_isIn 2 (some .boolean) ∈ lw_tg := lw_ofs 849 rfl rfl
set_option maxRecDepth 100000 in
theorem k_850 : Cond.methodLink RX10 158 yX10_standsFor ∈ lw_tg := lw_ofs 850 (by decide +kernel) rfl
set_option maxRecDepth 100000 in
theorem k_852 : Cond.instanceMethod yX10_standsFor ∈ lw_tg := lw_ofs 852 (by decide +kernel) rfl
set_option maxRecDepth 100000 in
theorem k_853 : Cond.code yX10_standsFor cX10_standsFor 8 (some .int) ∈ lw_tg := lw_ofs 853 rfl rfl
set_option maxRecDepth 100000 in
theorem k_854 : Cond.methodLink RX10 152 yX10_isTired ∈ lw_tg := lw_ofs 854 (by decide +kernel) rfl
set_option maxRecDepth 100000 in
theorem k_856 : Cond.instanceMethod yX10_isTired ∈ lw_tg := lw_ofs 856 (by decide +kernel) rfl
set_option maxRecDepth 100000 in
theorem k_857 : Cond.code yX10_isTired cX10_isTired 3 (some .boolean) ∈ lw_tg := lw_ofs 857 rfl rfl
set_option maxRecDepth 100000 in
theorem k_858 : Cond.methodLink RX10 155 yX10_standsAhead ∈ lw_tg := lw_ofs 858 (by decide +kernel) rfl
set_option maxRecDepth 100000 in
theorem k_860 : Cond.instanceMethod yX10_standsAhead ∈ lw_tg := lw_ofs 860 (by decide +kernel) rfl
set_option maxRecDepth 100000 in
theorem k_861 : Cond.code yX10_standsAhead cX10_standsAhead 5 (some .boolean) ∈ lw_tg := lw_ofs 861 rfl rfl
set_option maxRecDepth 100000 in
theorem k_862 : Cond.methodLink RL 48 yX10_undone ∈ lw_tg := lw_ofs 862 (by decide +kernel) rfl
set_option maxRecDepth 100000 in
theorem k_863 : Cond.instanceMethod yX10_undone ∈ lw_tg := lw_ofs 863 (by decide +kernel) rfl
set_option maxRecDepth 100000 in
theorem k_864 : Cond.selects RX10 yX10_undone yX10_undone ∈ lw_tg := lw_ofs 864 (by decide +kernel) rfl
set_option maxRecDepth 100000 in
theorem k_865 : Cond.code yX10_undone cX10_undone 3 (some .int) ∈ lw_tg := lw_ofs 865 rfl rfl
set_option maxRecDepth 100000 in
theorem k_866 : Cond.methodLink RX10 174 yX10_refusedFor ∈ lw_tg := lw_ofs 866 (by decide +kernel) rfl
set_option maxRecDepth 100000 in
theorem k_868 : Cond.instanceMethod yX10_refusedFor ∈ lw_tg := lw_ofs 868 (by decide +kernel) rfl
set_option maxRecDepth 100000 in
theorem k_869 : Cond.code yX10_refusedFor cX10_refusedFor 2 (some .int) ∈ lw_tg := lw_ofs 869 rfl rfl
set_option maxRecDepth 100000 in
theorem k_870 : Cond.methodLink RX10 177 yX10_undoneNow ∈ lw_tg := lw_ofs 870 (by decide +kernel) rfl
set_option maxRecDepth 100000 in
theorem k_872 : Cond.instanceMethod yX10_undoneNow ∈ lw_tg := lw_ofs 872 (by decide +kernel) rfl
set_option maxRecDepth 100000 in
theorem k_873 : Cond.code yX10_undoneNow cX10_undoneNow 3 (some .int) ∈ lw_tg := lw_ofs 873 rfl rfl
set_option maxRecDepth 100000 in
theorem k_874 : Cond.methodLink RL 52 yX10_serves ∈ lw_tg := lw_ofs 874 (by decide +kernel) rfl
set_option maxRecDepth 100000 in
theorem k_875 : Cond.instanceMethod yX10_serves ∈ lw_tg := lw_ofs 875 (by decide +kernel) rfl
set_option maxRecDepth 100000 in
theorem k_876 : Cond.selects RX10 yX10_serves yX10_serves ∈ lw_tg := lw_ofs 876 (by decide +kernel) rfl
set_option maxRecDepth 100000 in
theorem k_877 : Cond.code yX10_serves cX10_serves 3 (some .int) ∈ lw_tg := lw_ofs 877 rfl rfl
set_option maxRecDepth 100000 in
theorem k_878 : Cond.methodLink RX10 181 yX10_servesNow ∈ lw_tg := lw_ofs 878 (by decide +kernel) rfl
set_option maxRecDepth 100000 in
theorem k_880 : Cond.instanceMethod yX10_servesNow ∈ lw_tg := lw_ofs 880 (by decide +kernel) rfl
set_option maxRecDepth 100000 in
theorem k_881 : Cond.code yX10_servesNow cX10_servesNow 5 (some .int) ∈ lw_tg := lw_ofs 881 rfl rfl
set_option maxRecDepth 100000 in
theorem k_882 : Cond.methodLink RL 57 yX10_ring ∈ lw_tg := lw_ofs 882 (by decide +kernel) rfl
set_option maxRecDepth 100000 in
theorem k_883 : Cond.instanceMethod yX10_ring ∈ lw_tg := lw_ofs 883 (by decide +kernel) rfl
set_option maxRecDepth 100000 in
theorem k_884 : Cond.selects RX10 yX10_ring yX10_ring ∈ lw_tg := lw_ofs 884 (by decide +kernel) rfl
set_option maxRecDepth 100000 in
theorem k_885 : Cond.code yX10_ring cX10_ring 5 (some .int) ∈ lw_tg := lw_ofs 885 rfl rfl
set_option maxRecDepth 100000 in
theorem k_886 : Cond.methodLink RL 61 yX10_first ∈ lw_tg := lw_ofs 886 (by decide +kernel) rfl
set_option maxRecDepth 100000 in
theorem k_887 : Cond.instanceMethod yX10_first ∈ lw_tg := lw_ofs 887 (by decide +kernel) rfl
set_option maxRecDepth 100000 in
theorem k_888 : Cond.selects RX10 yX10_first yX10_first ∈ lw_tg := lw_ofs 888 (by decide +kernel) rfl
set_option maxRecDepth 100000 in
theorem k_889 : Cond.code yX10_first cX10_first 5 (some .int) ∈ lw_tg := lw_ofs 889 rfl rfl
set_option maxRecDepth 100000 in
theorem k_890 : Cond.methodLink RL 65 yX10_frail ∈ lw_tg := lw_ofs 890 (by decide +kernel) rfl
set_option maxRecDepth 100000 in
theorem k_891 : Cond.instanceMethod yX10_frail ∈ lw_tg := lw_ofs 891 (by decide +kernel) rfl
set_option maxRecDepth 100000 in
theorem k_892 : Cond.selects RX10 yX10_frail yX10_frail ∈ lw_tg := lw_ofs 892 (by decide +kernel) rfl
set_option maxRecDepth 100000 in
theorem k_893 : Cond.code yX10_frail cX10_frail 4 (some .int) ∈ lw_tg := lw_ofs 893 rfl rfl
set_option maxRecDepth 100000 in
theorem k_894 : Cond.methodLink RX10 199 yX10_frailest ∈ lw_tg := lw_ofs 894 (by decide +kernel) rfl
set_option maxRecDepth 100000 in
theorem k_896 : Cond.instanceMethod yX10_frailest ∈ lw_tg := lw_ofs 896 (by decide +kernel) rfl
set_option maxRecDepth 100000 in
theorem k_897 : Cond.code yX10_frailest cX10_frailest 5 (some .int) ∈ lw_tg := lw_ofs 897 rfl rfl
set_option maxRecDepth 100000 in
theorem k_898 : Cond.methodLink RX10 193 yX10_all ∈ lw_tg := lw_ofs 898 (by decide +kernel) rfl
set_option maxRecDepth 100000 in
theorem k_900 : Cond.instanceMethod yX10_all ∈ lw_tg := lw_ofs 900 (by decide +kernel) rfl
set_option maxRecDepth 100000 in
theorem k_901 : Cond.code yX10_all cX10_all 1 (some .int) ∈ lw_tg := lw_ofs 901 rfl rfl
set_option maxRecDepth 100000 in
theorem k_902 : Cond.methodLink RX10 187 yX10_bits ∈ lw_tg := lw_ofs 902 (by decide +kernel) rfl
set_option maxRecDepth 100000 in
theorem k_903 : Cond.static yX10_bits ∈ lw_tg := lw_ofs 903 (by decide +kernel) rfl
set_option maxRecDepth 100000 in
theorem k_904 : Cond.code yX10_bits cX10_bits 3 (some .int) ∈ lw_tg := lw_ofs 904 rfl rfl
set_option maxRecDepth 100000 in
theorem k_905 : Cond.methodLink RX10 196 yX10_undoneBy ∈ lw_tg := lw_ofs 905 (by decide +kernel) rfl
set_option maxRecDepth 100000 in
theorem k_907 : Cond.instanceMethod yX10_undoneBy ∈ lw_tg := lw_ofs 907 (by decide +kernel) rfl
set_option maxRecDepth 100000 in
theorem k_908 : Cond.code yX10_undoneBy cX10_undoneBy 2 (some .int) ∈ lw_tg := lw_ofs 908 rfl rfl
set_option maxRecDepth 100000 in
theorem k_909 : Cond.methodLink RX10 184 yX10_goFirst ∈ lw_tg := lw_ofs 909 (by decide +kernel) rfl
set_option maxRecDepth 100000 in
theorem k_911 : Cond.instanceMethod yX10_goFirst ∈ lw_tg := lw_ofs 911 (by decide +kernel) rfl
set_option maxRecDepth 100000 in
theorem k_912 : Cond.code yX10_goFirst cX10_goFirst 2 none ∈ lw_tg := lw_ofs 912 rfl rfl
set_option maxRecDepth 100000 in
theorem k_913 : Cond.methodLink RL 69 yX10_plot ∈ lw_tg := lw_ofs 913 (by decide +kernel) rfl
set_option maxRecDepth 100000 in
theorem k_914 : Cond.instanceMethod yX10_plot ∈ lw_tg := lw_ofs 914 (by decide +kernel) rfl
set_option maxRecDepth 100000 in
theorem k_915 : Cond.selects RX10 yX10_plot yX10_plot ∈ lw_tg := lw_ofs 915 (by decide +kernel) rfl
set_option maxRecDepth 100000 in
theorem k_916 : Cond.code yX10_plot cX10_plot 4 (some .int) ∈ lw_tg := lw_ofs 916 rfl rfl
set_option maxRecDepth 100000 in
theorem k_917 : Cond.methodLink RL 73 yX10_mend ∈ lw_tg := lw_ofs 917 (by decide +kernel) rfl
set_option maxRecDepth 100000 in
theorem k_918 : Cond.instanceMethod yX10_mend ∈ lw_tg := lw_ofs 918 (by decide +kernel) rfl
set_option maxRecDepth 100000 in
theorem k_919 : Cond.selects RX10 yX10_mend yX10_mend ∈ lw_tg := lw_ofs 919 (by decide +kernel) rfl
set_option maxRecDepth 100000 in
theorem k_920 : Cond.code yX10_mend cX10_mend 7 (some .int) ∈ lw_tg := lw_ofs 920 rfl rfl
set_option maxRecDepth 100000 in
theorem k_921 : Cond.methodLink RL 77 yX10_wave ∈ lw_tg := lw_ofs 921 (by decide +kernel) rfl
set_option maxRecDepth 100000 in
theorem k_922 : Cond.instanceMethod yX10_wave ∈ lw_tg := lw_ofs 922 (by decide +kernel) rfl
set_option maxRecDepth 100000 in
theorem k_923 : Cond.selects RX10 yX10_wave yX10_wave ∈ lw_tg := lw_ofs 923 (by decide +kernel) rfl
set_option maxRecDepth 100000 in
theorem k_924 : Cond.code yX10_wave cX10_wave 4 (some .int) ∈ lw_tg := lw_ofs 924 rfl rfl
set_option maxRecDepth 100000 in
theorem k_925 : Cond.methodLink RL 81 yX10_roster ∈ lw_tg := lw_ofs 925 (by decide +kernel) rfl
set_option maxRecDepth 100000 in
theorem k_926 : Cond.instanceMethod yX10_roster ∈ lw_tg := lw_ofs 926 (by decide +kernel) rfl
set_option maxRecDepth 100000 in
theorem k_927 : Cond.selects RX10 yX10_roster yX10_roster ∈ lw_tg := lw_ofs 927 (by decide +kernel) rfl
set_option maxRecDepth 100000 in
theorem k_928 : Cond.code yX10_roster cX10_roster 8 (some .int) ∈ lw_tg := lw_ofs 928 rfl rfl
set_option maxRecDepth 100000 in
theorem k_929 : Cond.methodLink RL 85 yX10_reading ∈ lw_tg := lw_ofs 929 (by decide +kernel) rfl
set_option maxRecDepth 100000 in
theorem k_930 : Cond.instanceMethod yX10_reading ∈ lw_tg := lw_ofs 930 (by decide +kernel) rfl
set_option maxRecDepth 100000 in
theorem k_931 : Cond.selects RX10 yX10_reading yX10_reading ∈ lw_tg := lw_ofs 931 (by decide +kernel) rfl
set_option maxRecDepth 100000 in
theorem k_932 : Cond.code yX10_reading cX10_reading 3 (some .int) ∈ lw_tg := lw_ofs 932 rfl rfl
set_option maxRecDepth 100000 in
theorem k_933 : Cond.methodLink RL 89 yX10_back ∈ lw_tg := lw_ofs 933 (by decide +kernel) rfl
set_option maxRecDepth 100000 in
theorem k_934 : Cond.instanceMethod yX10_back ∈ lw_tg := lw_ofs 934 (by decide +kernel) rfl
set_option maxRecDepth 100000 in
theorem k_935 : Cond.selects RX10 yX10_back yX10_back ∈ lw_tg := lw_ofs 935 (by decide +kernel) rfl
set_option maxRecDepth 100000 in
theorem k_936 : Cond.code yX10_back cX10_back 2 (some .int) ∈ lw_tg := lw_ofs 936 rfl rfl
set_option maxRecDepth 100000 in
theorem k_937 : Cond.methodLink RL 93 yX10_failed ∈ lw_tg := lw_ofs 937 (by decide +kernel) rfl
set_option maxRecDepth 100000 in
theorem k_938 : Cond.instanceMethod yX10_failed ∈ lw_tg := lw_ofs 938 (by decide +kernel) rfl
set_option maxRecDepth 100000 in
theorem k_939 : Cond.selects RX10 yX10_failed yX10_failed ∈ lw_tg := lw_ofs 939 (by decide +kernel) rfl
set_option maxRecDepth 100000 in
theorem k_940 : Cond.code yX10_failed cX10_failed 6 (some .int) ∈ lw_tg := lw_ofs 940 rfl rfl
set_option maxRecDepth 100000 in
theorem k_941 : Cond.methodLink RX10 202 yX10_areSo ∈ lw_tg := lw_ofs 941 (by decide +kernel) rfl
set_option maxRecDepth 100000 in
theorem k_943 : Cond.instanceMethod yX10_areSo ∈ lw_tg := lw_ofs 943 (by decide +kernel) rfl
set_option maxRecDepth 100000 in
theorem k_944 : Cond.code yX10_areSo cX10_areSo 4 (some .boolean) ∈ lw_tg := lw_ofs 944 rfl rfl
set_option maxRecDepth 100000 in
theorem k_945 : Cond.methodLink RL 97 yX10_laws ∈ lw_tg := lw_ofs 945 (by decide +kernel) rfl
set_option maxRecDepth 100000 in
theorem k_946 : Cond.instanceMethod yX10_laws ∈ lw_tg := lw_ofs 946 (by decide +kernel) rfl
set_option maxRecDepth 100000 in
theorem k_947 : Cond.selects RX10 yX10_laws yX10_laws ∈ lw_tg := lw_ofs 947 (by decide +kernel) rfl
set_option maxRecDepth 100000 in
theorem k_948 : Cond.code yX10_laws cX10_laws 4 (some .int) ∈ lw_tg := lw_ofs 948 rfl rfl
set_option maxRecDepth 100000 in
theorem k_949 : Cond.methodLink RL 102 yX10_odds ∈ lw_tg := lw_ofs 949 (by decide +kernel) rfl
set_option maxRecDepth 100000 in
theorem k_950 : Cond.instanceMethod yX10_odds ∈ lw_tg := lw_ofs 950 (by decide +kernel) rfl
set_option maxRecDepth 100000 in
theorem k_951 : Cond.selects RX10 yX10_odds yX10_odds ∈ lw_tg := lw_ofs 951 (by decide +kernel) rfl
set_option maxRecDepth 100000 in
theorem k_952 : Cond.code yX10_odds cX10_odds 6 (some .long) ∈ lw_tg := lw_ofs 952 rfl rfl
set_option maxRecDepth 100000 in
theorem k_953 : Cond.methodLink RX10 76 yX10_lost ∈ lw_tg := lw_ofs 953 (by decide +kernel) rfl
set_option maxRecDepth 100000 in
theorem k_954 : Cond.static yX10_lost ∈ lw_tg := lw_ofs 954 (by decide +kernel) rfl
set_option maxRecDepth 100000 in
theorem k_955 : Cond.code yX10_lost cX10_lost 0 (some .long) ∈ lw_tg := lw_ofs 955 rfl rfl
set_option maxRecDepth 100000 in
theorem k_956 : Cond.constantLong RX10 70 (-9223372036854775808) ∈ lw_tg := lw_ofs 956 (by decide +kernel) rfl
set_option maxRecDepth 100000 in
theorem k_957 : Cond.methodLink RX10 205 yX10_told ∈ lw_tg := lw_ofs 957 (by decide +kernel) rfl
set_option maxRecDepth 100000 in
theorem k_958 : Cond.static yX10_told ∈ lw_tg := lw_ofs 958 (by decide +kernel) rfl
set_option maxRecDepth 100000 in
theorem k_959 : Cond.code yX10_told cX10_told 11 (some .long) ∈ lw_tg := lw_ofs 959 rfl rfl
set_option maxRecDepth 100000 in
theorem k_960 : Cond.methodLink RL 106 yX10_sheet ∈ lw_tg := lw_ofs 960 (by decide +kernel) rfl
set_option maxRecDepth 100000 in
theorem k_961 : Cond.instanceMethod yX10_sheet ∈ lw_tg := lw_ofs 961 (by decide +kernel) rfl
set_option maxRecDepth 100000 in
theorem k_962 : Cond.selects RX10 yX10_sheet yX10_sheet ∈ lw_tg := lw_ofs 962 (by decide +kernel) rfl
set_option maxRecDepth 100000 in
theorem k_963 : Cond.code yX10_sheet cX10_sheet 5 (some .int) ∈ lw_tg := lw_ofs 963 rfl rfl
set_option maxRecDepth 100000 in
theorem k_964 : Cond.methodLink RL 110 yX10_lose ∈ lw_tg := lw_ofs 964 (by decide +kernel) rfl
set_option maxRecDepth 100000 in
theorem k_965 : Cond.instanceMethod yX10_lose ∈ lw_tg := lw_ofs 965 (by decide +kernel) rfl
set_option maxRecDepth 100000 in
theorem k_966 : Cond.selects RX10 yX10_lose yX10_lose ∈ lw_tg := lw_ofs 966 (by decide +kernel) rfl
set_option maxRecDepth 100000 in
theorem k_967 : Cond.code yX10_lose cX10_lose 3 (some .int) ∈ lw_tg := lw_ofs 967 rfl rfl
set_option maxRecDepth 100000 in
theorem k_968 : Cond.methodLink RL 114 yX10_put ∈ lw_tg := lw_ofs 968 (by decide +kernel) rfl
set_option maxRecDepth 100000 in
theorem k_969 : Cond.instanceMethod yX10_put ∈ lw_tg := lw_ofs 969 (by decide +kernel) rfl
set_option maxRecDepth 100000 in
theorem k_970 : Cond.selects RX10 yX10_put yX10_put ∈ lw_tg := lw_ofs 970 (by decide +kernel) rfl
set_option maxRecDepth 100000 in
theorem k_971 : Cond.code yX10_put cX10_put 4 (some .int) ∈ lw_tg := lw_ofs 971 rfl rfl
set_option maxRecDepth 100000 in
theorem k_972 : Cond.methodLink RX10 211 yX10_noCell ∈ lw_tg := lw_ofs 972 (by decide +kernel) rfl
set_option maxRecDepth 100000 in
theorem k_974 : Cond.instanceMethod yX10_noCell ∈ lw_tg := lw_ofs 974 (by decide +kernel) rfl
set_option maxRecDepth 100000 in
theorem k_975 : Cond.code yX10_noCell cX10_noCell 3 (some .int) ∈ lw_tg := lw_ofs 975 rfl rfl
set_option maxRecDepth 100000 in
theorem k_976 : Cond.methodLink RL 119 yX10_cell ∈ lw_tg := lw_ofs 976 (by decide +kernel) rfl
set_option maxRecDepth 100000 in
theorem k_977 : Cond.instanceMethod yX10_cell ∈ lw_tg := lw_ofs 977 (by decide +kernel) rfl
set_option maxRecDepth 100000 in
theorem k_978 : Cond.selects RX10 yX10_cell yX10_cell ∈ lw_tg := lw_ofs 978 (by decide +kernel) rfl
set_option maxRecDepth 100000 in
theorem k_979 : Cond.code yX10_cell cX10_cell 4 (some .long) ∈ lw_tg := lw_ofs 979 rfl rfl
set_option maxRecDepth 100000 in
theorem k_980 : Cond.methodLink RX10 214 yX10_faultedLong ∈ lw_tg := lw_ofs 980 (by decide +kernel) rfl
set_option maxRecDepth 100000 in
theorem k_982 : Cond.instanceMethod yX10_faultedLong ∈ lw_tg := lw_ofs 982 (by decide +kernel) rfl
set_option maxRecDepth 100000 in
theorem k_983 : Cond.code yX10_faultedLong cX10_faultedLong 2 (some .long) ∈ lw_tg := lw_ofs 983 rfl rfl
set_option maxRecDepth 100000 in
theorem k_984 : Cond.methodLink RL 124 yX10_copy ∈ lw_tg := lw_ofs 984 (by decide +kernel) rfl
set_option maxRecDepth 100000 in
theorem k_985 : Cond.instanceMethod yX10_copy ∈ lw_tg := lw_ofs 985 (by decide +kernel) rfl
set_option maxRecDepth 100000 in
theorem k_986 : Cond.selects RX10 yX10_copy yX10_copy ∈ lw_tg := lw_ofs 986 (by decide +kernel) rfl
set_option maxRecDepth 100000 in
theorem k_987 : Cond.code yX10_copy cX10_copy 7 (some .int) ∈ lw_tg := lw_ofs 987 rfl rfl
set_option maxRecDepth 100000 in
theorem k_988 : Cond.methodLink RL 128 yX10_tell ∈ lw_tg := lw_ofs 988 (by decide +kernel) rfl
set_option maxRecDepth 100000 in
theorem k_989 : Cond.instanceMethod yX10_tell ∈ lw_tg := lw_ofs 989 (by decide +kernel) rfl
set_option maxRecDepth 100000 in
theorem k_990 : Cond.selects RX10 yX10_tell yX10_tell ∈ lw_tg := lw_ofs 990 (by decide +kernel) rfl
set_option maxRecDepth 100000 in
theorem k_991 : Cond.code yX10_tell cX10_tell 4 (some .int) ∈ lw_tg := lw_ofs 991 rfl rfl
set_option maxRecDepth 100000 in
theorem k_992 : Cond.methodLink RX10 221 yX10_traced ∈ lw_tg := lw_ofs 992 (by decide +kernel) rfl
set_option maxRecDepth 100000 in
theorem k_994 : Cond.instanceMethod yX10_traced ∈ lw_tg := lw_ofs 994 (by decide +kernel) rfl
set_option maxRecDepth 100000 in
theorem k_995 : Cond.code yX10_traced cX10_traced 2 none ∈ lw_tg := lw_ofs 995 rfl rfl
set_option maxRecDepth 100000 in
theorem k_996 : Cond.methodLink RL 132 yX10_call ∈ lw_tg := lw_ofs 996 (by decide +kernel) rfl
set_option maxRecDepth 100000 in
theorem k_997 : Cond.instanceMethod yX10_call ∈ lw_tg := lw_ofs 997 (by decide +kernel) rfl
set_option maxRecDepth 100000 in
theorem k_998 : Cond.selects RX10 yX10_call yX10_call ∈ lw_tg := lw_ofs 998 (by decide +kernel) rfl
set_option maxRecDepth 100000 in
theorem k_999 : Cond.code yX10_call cX10_call 2 (some .int) ∈ lw_tg := lw_ofs 999 rfl rfl
set_option maxRecDepth 100000 in
theorem k_1000 : Cond.methodLink RL 136 yX10_as ∈ lw_tg := lw_ofs 1000 (by decide +kernel) rfl
set_option maxRecDepth 100000 in
theorem k_1001 : Cond.instanceMethod yX10_as ∈ lw_tg := lw_ofs 1001 (by decide +kernel) rfl
set_option maxRecDepth 100000 in
theorem k_1002 : Cond.selects RX10 yX10_as yX10_as ∈ lw_tg := lw_ofs 1002 (by decide +kernel) rfl
set_option maxRecDepth 100000 in
theorem k_1003 : Cond.code yX10_as cX10_as 3 (some .int) ∈ lw_tg := lw_ofs 1003 rfl rfl
set_option maxRecDepth 100000 in
theorem k_1004 : Cond.methodLink RL 140 yX10_trace ∈ lw_tg := lw_ofs 1004 (by decide +kernel) rfl
set_option maxRecDepth 100000 in
theorem k_1005 : Cond.instanceMethod yX10_trace ∈ lw_tg := lw_ofs 1005 (by decide +kernel) rfl
set_option maxRecDepth 100000 in
theorem k_1006 : Cond.selects RX10 yX10_trace yX10_trace ∈ lw_tg := lw_ofs 1006 (by decide +kernel) rfl
set_option maxRecDepth 100000 in
theorem k_1007 : Cond.code yX10_trace cX10_trace 1 (some .int) ∈ lw_tg := lw_ofs 1007 rfl rfl
set_option maxRecDepth 100000 in
theorem k_1008 : Cond.methodLink RL 144 yX10_fault ∈ lw_tg := lw_ofs 1008 (by decide +kernel) rfl
set_option maxRecDepth 100000 in
theorem k_1009 : Cond.instanceMethod yX10_fault ∈ lw_tg := lw_ofs 1009 (by decide +kernel) rfl
set_option maxRecDepth 100000 in
theorem k_1010 : Cond.selects RX10 yX10_fault yX10_fault ∈ lw_tg := lw_ofs 1010 (by decide +kernel) rfl
set_option maxRecDepth 100000 in
theorem k_1011 : Cond.code yX10_fault cX10_fault 1 (some .int) ∈ lw_tg := lw_ofs 1011 rfl rfl
set_option maxRecDepth 100000 in
theorem k_1012 : Cond.methodLink RL 148 yX10_many ∈ lw_tg := lw_ofs 1012 (by decide +kernel) rfl
set_option maxRecDepth 100000 in
theorem k_1013 : Cond.instanceMethod yX10_many ∈ lw_tg := lw_ofs 1013 (by decide +kernel) rfl
set_option maxRecDepth 100000 in
theorem k_1014 : Cond.selects RX10 yX10_many yX10_many ∈ lw_tg := lw_ofs 1014 (by decide +kernel) rfl
set_option maxRecDepth 100000 in
theorem k_1015 : Cond.code yX10_many cX10_many 2 (some .int) ∈ lw_tg := lw_ofs 1015 rfl rfl
set_option maxRecDepth 100000 in
theorem k_0 : Cond.selects RX9 yX9_sheetAt yX9_sheetAt ∈ lw_tg := lw_ofs 0 (by decide +kernel) rfl
set_option maxRecDepth 100000 in
theorem k_1 : Cond.selects RX9 yX9_cameTo yX9_cameTo ∈ lw_tg := lw_ofs 1 (by decide +kernel) rfl
set_option maxRecDepth 100000 in
theorem k_2 : Cond.selects RX3 yX3_standInFor yX3_standInFor ∈ lw_tg := lw_ofs 2 (by decide +kernel) rfl
set_option maxRecDepth 100000 in
theorem k_3 : Cond.selects RX3 yX3_may yX3_may ∈ lw_tg := lw_ofs 3 (by decide +kernel) rfl
set_option maxRecDepth 100000 in
theorem k_4 : Cond.selects RX3 yX3_isPreferred yX3_isPreferred ∈ lw_tg := lw_ofs 4 (by decide +kernel) rfl
set_option maxRecDepth 100000 in
theorem k_5 : Cond.selects RX9 yX9_refusalOf yX9_refusalOf ∈ lw_tg := lw_ofs 5 (by decide +kernel) rfl
set_option maxRecDepth 100000 in
theorem k_6 : Cond.selects RX8 yX8_keepMend yX8_keepMend ∈ lw_tg := lw_ofs 6 (by decide +kernel) rfl
set_option maxRecDepth 100000 in
theorem k_7 : Cond.selects RX9 yX9_namesThings yX9_namesThings ∈ lw_tg := lw_ofs 7 (by decide +kernel) rfl
set_option maxRecDepth 100000 in
theorem k_8 : Cond.selects RX9 yX9_firstUnlike yX9_firstUnlike ∈ lw_tg := lw_ofs 8 (by decide +kernel) rfl
set_option maxRecDepth 100000 in
theorem k_9 : Cond.selects RX4 yX4_cutToLane yX4_cutToLane ∈ lw_tg := lw_ofs 9 (by decide +kernel) rfl
set_option maxRecDepth 100000 in
theorem k_10 : Cond.selects RX0 yX0_mayorTells yX0_mayorTells ∈ lw_tg := lw_ofs 10 (by decide +kernel) rfl
set_option maxRecDepth 100000 in
theorem k_11 : Cond.selects RX0 yX0_leave yX0_leave ∈ lw_tg := lw_ofs 11 (by decide +kernel) rfl
set_option maxRecDepth 100000 in
theorem k_12 : Cond.selects RX0 yX0_swornTells yX0_swornTells ∈ lw_tg := lw_ofs 12 (by decide +kernel) rfl
set_option maxRecDepth 100000 in
theorem k_13 : Cond.selects RX0 yX0_thingTells yX0_thingTells ∈ lw_tg := lw_ofs 13 (by decide +kernel) rfl
set_option maxRecDepth 100000 in
theorem k_14 : Cond.selects RX0 yX0_mayorRings yX0_mayorRings ∈ lw_tg := lw_ofs 14 (by decide +kernel) rfl
set_option maxRecDepth 100000 in
theorem k_15 : Cond.selects RX0 yX0_lentRings yX0_lentRings ∈ lw_tg := lw_ofs 15 (by decide +kernel) rfl
set_option maxRecDepth 100000 in
theorem k_16 : Cond.selects RX10 yX10_refused yX10_refused ∈ lw_tg := lw_ofs 16 (by decide +kernel) rfl
set_option maxRecDepth 100000 in
theorem k_17 : Cond.selects RX10 yX10_cellsBarred yX10_cellsBarred ∈ lw_tg := lw_ofs 17 (by decide +kernel) rfl
set_option maxRecDepth 100000 in
theorem k_18 : Cond.selects RX10 yX10_faulted yX10_faulted ∈ lw_tg := lw_ofs 18 (by decide +kernel) rfl
set_option maxRecDepth 100000 in
theorem k_19 : Cond.selects RX10 yX10_readsTown yX10_readsTown ∈ lw_tg := lw_ofs 19 (by decide +kernel) rfl
set_option maxRecDepth 100000 in
theorem k_20 : Cond.selects RX10 yX10_codeAt yX10_codeAt ∈ lw_tg := lw_ofs 20 (by decide +kernel) rfl
set_option maxRecDepth 100000 in
theorem k_21 : Cond.selects RX10 yX10_readsThing yX10_readsThing ∈ lw_tg := lw_ofs 21 (by decide +kernel) rfl
set_option maxRecDepth 100000 in
theorem k_22 : Cond.selects RX10 yX10_figure yX10_figure ∈ lw_tg := lw_ofs 22 (by decide +kernel) rfl
set_option maxRecDepth 100000 in
theorem k_23 : Cond.selects RX10 yX10_noThing yX10_noThing ∈ lw_tg := lw_ofs 23 (by decide +kernel) rfl
set_option maxRecDepth 100000 in
theorem k_24 : Cond.selects RX10 yX10_goodOf yX10_goodOf ∈ lw_tg := lw_ofs 24 (by decide +kernel) rfl
set_option maxRecDepth 100000 in
theorem k_25 : Cond.selects RX10 yX10_goTo yX10_goTo ∈ lw_tg := lw_ofs 25 (by decide +kernel) rfl
set_option maxRecDepth 100000 in
theorem k_26 : Cond.selects RX10 yX10_beginHours yX10_beginHours ∈ lw_tg := lw_ofs 26 (by decide +kernel) rfl
set_option maxRecDepth 100000 in
theorem k_27 : Cond.selects RX10 yX10_brokenIn yX10_brokenIn ∈ lw_tg := lw_ofs 27 (by decide +kernel) rfl
set_option maxRecDepth 100000 in
theorem k_28 : Cond.selects RX10 yX10_goHour yX10_goHour ∈ lw_tg := lw_ofs 28 (by decide +kernel) rfl
set_option maxRecDepth 100000 in
theorem k_29 : Cond.selects RX10 yX10_standsFor yX10_standsFor ∈ lw_tg := lw_ofs 29 (by decide +kernel) rfl
set_option maxRecDepth 100000 in
theorem k_30 : Cond.selects RX10 yX10_isTired yX10_isTired ∈ lw_tg := lw_ofs 30 (by decide +kernel) rfl
set_option maxRecDepth 100000 in
theorem k_31 : Cond.selects RX10 yX10_standsAhead yX10_standsAhead ∈ lw_tg := lw_ofs 31 (by decide +kernel) rfl
set_option maxRecDepth 100000 in
theorem k_32 : Cond.selects RX10 yX10_refusedFor yX10_refusedFor ∈ lw_tg := lw_ofs 32 (by decide +kernel) rfl
set_option maxRecDepth 100000 in
theorem k_33 : Cond.selects RX10 yX10_undoneNow yX10_undoneNow ∈ lw_tg := lw_ofs 33 (by decide +kernel) rfl
set_option maxRecDepth 100000 in
theorem k_34 : Cond.selects RX10 yX10_servesNow yX10_servesNow ∈ lw_tg := lw_ofs 34 (by decide +kernel) rfl
set_option maxRecDepth 100000 in
theorem k_35 : Cond.selects RX10 yX10_frailest yX10_frailest ∈ lw_tg := lw_ofs 35 (by decide +kernel) rfl
set_option maxRecDepth 100000 in
theorem k_36 : Cond.selects RX10 yX10_all yX10_all ∈ lw_tg := lw_ofs 36 (by decide +kernel) rfl
set_option maxRecDepth 100000 in
theorem k_37 : Cond.selects RX10 yX10_undoneBy yX10_undoneBy ∈ lw_tg := lw_ofs 37 (by decide +kernel) rfl
set_option maxRecDepth 100000 in
theorem k_38 : Cond.selects RX10 yX10_goFirst yX10_goFirst ∈ lw_tg := lw_ofs 38 (by decide +kernel) rfl
set_option maxRecDepth 100000 in
theorem k_39 : Cond.selects RX10 yX10_areSo yX10_areSo ∈ lw_tg := lw_ofs 39 (by decide +kernel) rfl
set_option maxRecDepth 100000 in
theorem k_40 : Cond.selects RX10 yX10_noCell yX10_noCell ∈ lw_tg := lw_ofs 40 (by decide +kernel) rfl
set_option maxRecDepth 100000 in
theorem k_41 : Cond.selects RX10 yX10_faultedLong yX10_faultedLong ∈ lw_tg := lw_ofs 41 (by decide +kernel) rfl
set_option maxRecDepth 100000 in
theorem k_42 : Cond.selects RX10 yX10_traced yX10_traced ∈ lw_tg := lw_ofs 42 (by decide +kernel) rfl
