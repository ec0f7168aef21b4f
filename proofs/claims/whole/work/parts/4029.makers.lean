theorem tm_106 : Cond.methodLink RX7 3 objectInit ∈ tg := tg_of 106 (by decide +kernel) rfl
theorem tm_107 : Cond.instanceMethod objectInit ∈ tg := tg_of 107 (by decide +kernel) rfl
theorem tm_108 : Cond.code objectInit ⟨#[0xb1]⟩ 1 none ∈ tg := tg_of 108 (by decide +kernel) rfl
theorem tm_109 : Cond.classLink RX7 9 RX0 ∈ tg := tg_of 109 (by decide +kernel) rfl
theorem tm_110 : Cond.instantiable RX0 6 ∈ tg := tg_of 110 (by decide +kernel) rfl
theorem tm_114 : Cond.methodLink RX0 3 objectInit ∈ tg := tg_of 114 (by decide +kernel) rfl
theorem tm_142 : Cond.arrayClass .int ∈ tg := tg_of 142 (by decide +kernel) rfl
theorem tm_115 : Cond.classLink RX0 22 RX4 ∈ tg := tg_of 115 (by decide +kernel) rfl
theorem tm_117 : Cond.classLink RX0 31 "[[I" ∈ tg := tg_of 117 (by decide +kernel) rfl
theorem tm_119 : Cond.instantiable RX4 4 ∈ tg := tg_of 119 (by decide +kernel) rfl
theorem tm_123 : Cond.methodLink RX4 3 objectInit ∈ tg := tg_of 123 (by decide +kernel) rfl
theorem tm_185 : Cond.classLink RX7 26 RX1 ∈ tg := tg_of 185 (by decide +kernel) rfl
theorem tm_186 : Cond.instantiable RX1 11 ∈ tg := tg_of 186 (by decide +kernel) rfl
theorem tm_190 : Cond.methodLink RX1 3 objectInit ∈ tg := tg_of 190 (by decide +kernel) rfl
theorem tm_233 : Cond.classLink RX7 33 RX6 ∈ tg := tg_of 233 (by decide +kernel) rfl
theorem tm_234 : Cond.instantiable RX6 8 ∈ tg := tg_of 234 (by decide +kernel) rfl
theorem tm_238 : Cond.methodLink RX6 3 objectInit ∈ tg := tg_of 238 (by decide +kernel) rfl
theorem tm_269 : Cond.arrayClass .long ∈ tg := tg_of 269 (by decide +kernel) rfl
theorem tm_270 : Cond.classLink RX7 40 RX2 ∈ tg := tg_of 270 (by decide +kernel) rfl
theorem tm_271 : Cond.instantiable RX2 7 ∈ tg := tg_of 271 (by decide +kernel) rfl
theorem tm_275 : Cond.methodLink RX2 3 objectInit ∈ tg := tg_of 275 (by decide +kernel) rfl
theorem tm_276 : Cond.classLink RX2 9 "[[J" ∈ tg := tg_of 276 (by decide +kernel) rfl
theorem tm_303 : Cond.classLink RX7 47 RX3 ∈ tg := tg_of 303 (by decide +kernel) rfl
theorem tm_304 : Cond.instantiable RX3 6 ∈ tg := tg_of 304 (by decide +kernel) rfl
theorem tm_308 : Cond.methodLink RX3 3 objectInit ∈ tg := tg_of 308 (by decide +kernel) rfl
theorem tm_329 : Cond.arrayClass .byte ∈ tg := tg_of 329 (by decide +kernel) rfl
theorem tm_330 : Cond.classLink RX7 54 RX5 ∈ tg := tg_of 330 (by decide +kernel) rfl
theorem tm_332 : Cond.instantiable RX5 3 ∈ tg := tg_of 332 (by decide +kernel) rfl
theorem tm_336 : Cond.methodLink RX5 3 objectInit ∈ tg := tg_of 336 (by decide +kernel) rfl
theorem tm_1057 : Cond.methodLink RX8 1 objectInit ∈ tg := tg_of 1057 (by decide +kernel) rfl
theorem tm_1190 : Cond.arrayClass .char ∈ tg := tg_of 1190 (by decide +kernel) rfl
set_option maxRecDepth 200000 in
theorem t_122 : Cond.code yX4_init cX4_init 1 none ∈ tg := tg_of 122 rfl rfl
theorem t_121 : Cond.instanceMethod yX4_init ∈ tg := tg_of 121 (by decide +kernel) rfl
set_option maxRecDepth 200000 in
theorem t_113 : Cond.code yX0_init cX0_init 2 none ∈ tg := tg_of 113 rfl rfl
theorem t_111 : Cond.methodLink RX7 11 yX0_init ∈ tg := tg_of 111 (by decide +kernel) rfl
theorem t_112 : Cond.instanceMethod yX0_init ∈ tg := tg_of 112 (by decide +kernel) rfl
set_option maxRecDepth 200000 in
theorem t_189 : Cond.code yX1_init cX1_init 1 none ∈ tg := tg_of 189 rfl rfl
theorem t_188 : Cond.instanceMethod yX1_init ∈ tg := tg_of 188 (by decide +kernel) rfl
set_option maxRecDepth 200000 in
theorem t_237 : Cond.code yX6_init cX6_init 1 none ∈ tg := tg_of 237 rfl rfl
theorem t_236 : Cond.instanceMethod yX6_init ∈ tg := tg_of 236 (by decide +kernel) rfl
set_option maxRecDepth 200000 in
theorem t_274 : Cond.code yX2_init cX2_init 1 none ∈ tg := tg_of 274 rfl rfl
theorem t_273 : Cond.instanceMethod yX2_init ∈ tg := tg_of 273 (by decide +kernel) rfl
set_option maxRecDepth 200000 in
theorem t_307 : Cond.code yX3_init cX3_init 1 none ∈ tg := tg_of 307 rfl rfl
theorem t_306 : Cond.instanceMethod yX3_init ∈ tg := tg_of 306 (by decide +kernel) rfl
set_option maxRecDepth 200000 in
theorem t_335 : Cond.code yX5_init cX5_init 1 none ∈ tg := tg_of 335 rfl rfl
theorem t_334 : Cond.instanceMethod yX5_init ∈ tg := tg_of 334 (by decide +kernel) rfl
set_option maxRecDepth 200000 in
theorem t_105 : Cond.code yX7_init cX7_init 2 none ∈ tg := tg_of 105 rfl rfl
theorem t_1058 : Cond.constant RX8 48 (45056 : Int32) ∈ tg := tg_of 1058 (by decide +kernel) rfl
set_option maxRecDepth 200000 in
theorem t_1056 : Cond.code yX8_init cX8_init 2 none ∈ tg := tg_of 1056 rfl rfl
def mX4_init : md := (yX4_init, cX4_init, 1, none)
theorem omX4_init : okm mX4_init 0 := ⟨t_122, by decide +kernel, Nat.le_of_ble_eq_true rfl⟩
def mX0_init : md := (yX0_init, cX0_init, 2, none)
theorem omX0_init : okm mX0_init 0 := ⟨t_113, by decide +kernel, Nat.le_of_ble_eq_true rfl⟩
def mX1_init : md := (yX1_init, cX1_init, 1, none)
theorem omX1_init : okm mX1_init 0 := ⟨t_189, by decide +kernel, Nat.le_of_ble_eq_true rfl⟩
def mX6_init : md := (yX6_init, cX6_init, 1, none)
theorem omX6_init : okm mX6_init 0 := ⟨t_237, by decide +kernel, Nat.le_of_ble_eq_true rfl⟩
def mX2_init : md := (yX2_init, cX2_init, 1, none)
theorem omX2_init : okm mX2_init 0 := ⟨t_274, by decide +kernel, Nat.le_of_ble_eq_true rfl⟩
def mX3_init : md := (yX3_init, cX3_init, 1, none)
theorem omX3_init : okm mX3_init 0 := ⟨t_307, by decide +kernel, Nat.le_of_ble_eq_true rfl⟩
def mX5_init : md := (yX5_init, cX5_init, 1, none)
theorem omX5_init : okm mX5_init 0 := ⟨t_335, by decide +kernel, Nat.le_of_ble_eq_true rfl⟩
def mX7_init : md := (yX7_init, cX7_init, 2, none)
theorem omX7_init : okm mX7_init 0 := ⟨t_105, by decide +kernel, Nat.le_of_ble_eq_true rfl⟩
def mX8_init : md := (yX8_init, cX8_init, 2, none)
theorem omX8_init : okm mX8_init 0 := ⟨t_1056, by decide +kernel, Nat.le_of_ble_eq_true rfl⟩
theorem wc_RX8_48 : Cond.constant RX8 48 (45056 : Int32) ∈ tg := t_1058
