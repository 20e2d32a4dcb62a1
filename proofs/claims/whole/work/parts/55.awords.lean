/-! words of the constructors -/
theorem w157 : Cond.instanceMethod yX11_init ∈ gt := gt_of 157 (by decide +kernel) (by decide +kernel)
theorem w159 : Cond.methodLink RX11 1 Lib.objectInit ∈ gt := gt_of 159 (by decide +kernel) (by decide +kernel)
theorem w160 : Cond.instanceMethod Lib.objectInit ∈ gt := gt_of 160 (by decide +kernel) (by decide +kernel)
theorem w162 : Cond.classLink RX11 20 RX2 ∈ gt := gt_of 162 (by decide +kernel) (by decide +kernel)
theorem w163 : Cond.instantiable RX2 5 ∈ gt := gt_of 163 (by decide +kernel) (by decide +kernel)
theorem w165 : Cond.instanceMethod yX2_init ∈ gt := gt_of 165 (by decide +kernel) (by decide +kernel)
theorem w167 : Cond.methodLink RX2 3 Lib.objectInit ∈ gt := gt_of 167 (by decide +kernel) (by decide +kernel)
theorem w168 : Cond.classLink RX2 9 RX8 ∈ gt := gt_of 168 (by decide +kernel) (by decide +kernel)
theorem w169 : Cond.instantiable RX8 9 ∈ gt := gt_of 169 (by decide +kernel) (by decide +kernel)
theorem w170 : Cond.methodLink RX2 11 yX8_init ∈ gt := gt_of 170 (by decide +kernel) (by decide +kernel)
theorem w171 : Cond.instanceMethod yX8_init ∈ gt := gt_of 171 (by decide +kernel) (by decide +kernel)
theorem w173 : Cond.methodLink RX8 3 Lib.objectInit ∈ gt := gt_of 173 (by decide +kernel) (by decide +kernel)
theorem w174 : Cond.methodLink RX8 41 yX8_startAnew ∈ gt := gt_of 174 (by decide +kernel) (by decide +kernel)
theorem w232 : Cond.arrayClass .int ∈ gt := gt_of 232 (by decide +kernel) (by decide +kernel)
theorem w233 : Cond.arrayClass .long ∈ gt := gt_of 233 (by decide +kernel) (by decide +kernel)
theorem w257 : Cond.classLink RX11 34 RX0 ∈ gt := gt_of 257 (by decide +kernel) (by decide +kernel)
theorem w258 : Cond.instantiable RX0 3 ∈ gt := gt_of 258 (by decide +kernel) (by decide +kernel)
theorem w259 : Cond.methodLink RX11 36 yX0_init ∈ gt := gt_of 259 (by decide +kernel) (by decide +kernel)
theorem w260 : Cond.instanceMethod yX0_init ∈ gt := gt_of 260 (by decide +kernel) (by decide +kernel)
theorem w262 : Cond.methodLink RX0 3 Lib.objectInit ∈ gt := gt_of 262 (by decide +kernel) (by decide +kernel)
theorem w263 : Cond.classLink RX0 9 RX2 ∈ gt := gt_of 263 (by decide +kernel) (by decide +kernel)
theorem w277 : Cond.classLink RX11 41 RX7 ∈ gt := gt_of 277 (by decide +kernel) (by decide +kernel)
theorem w278 : Cond.instantiable RX7 6 ∈ gt := gt_of 278 (by decide +kernel) (by decide +kernel)
theorem w279 : Cond.methodLink RX11 43 yX7_init ∈ gt := gt_of 279 (by decide +kernel) (by decide +kernel)
theorem w280 : Cond.instanceMethod yX7_init ∈ gt := gt_of 280 (by decide +kernel) (by decide +kernel)
theorem w282 : Cond.methodLink RX7 3 Lib.objectInit ∈ gt := gt_of 282 (by decide +kernel) (by decide +kernel)
theorem w283 : Cond.classLink RX7 9 RX8 ∈ gt := gt_of 283 (by decide +kernel) (by decide +kernel)
theorem w284 : Cond.methodLink RX7 11 yX8_init ∈ gt := gt_of 284 (by decide +kernel) (by decide +kernel)
theorem w306 : Cond.classLink RX11 50 RX9 ∈ gt := gt_of 306 (by decide +kernel) (by decide +kernel)
theorem w307 : Cond.instantiable RX9 5 ∈ gt := gt_of 307 (by decide +kernel) (by decide +kernel)
theorem w308 : Cond.methodLink RX11 56 yX9_init ∈ gt := gt_of 308 (by decide +kernel) (by decide +kernel)
theorem w309 : Cond.instanceMethod yX9_init ∈ gt := gt_of 309 (by decide +kernel) (by decide +kernel)
theorem w311 : Cond.methodLink RX9 3 Lib.objectInit ∈ gt := gt_of 311 (by decide +kernel) (by decide +kernel)
theorem w331 : Cond.classLink RX11 63 RX5 ∈ gt := gt_of 331 (by decide +kernel) (by decide +kernel)
theorem w332 : Cond.instantiable RX5 7 ∈ gt := gt_of 332 (by decide +kernel) (by decide +kernel)
theorem w333 : Cond.methodLink RX11 65 yX5_init ∈ gt := gt_of 333 (by decide +kernel) (by decide +kernel)
theorem w334 : Cond.instanceMethod yX5_init ∈ gt := gt_of 334 (by decide +kernel) (by decide +kernel)
theorem w336 : Cond.methodLink RX5 3 Lib.objectInit ∈ gt := gt_of 336 (by decide +kernel) (by decide +kernel)
theorem w361 : Cond.arrayClass .byte ∈ gt := gt_of 361 (by decide +kernel) (by decide +kernel)
theorem w362 : Cond.classLink RX11 72 RX6 ∈ gt := gt_of 362 (by decide +kernel) (by decide +kernel)
theorem w363 : Cond.instantiable RX6 10 ∈ gt := gt_of 363 (by decide +kernel) (by decide +kernel)
theorem w364 : Cond.methodLink RX11 74 yX6_init ∈ gt := gt_of 364 (by decide +kernel) (by decide +kernel)
theorem w365 : Cond.instanceMethod yX6_init ∈ gt := gt_of 365 (by decide +kernel) (by decide +kernel)
theorem w367 : Cond.methodLink RX6 3 Lib.objectInit ∈ gt := gt_of 367 (by decide +kernel) (by decide +kernel)
theorem w405 : Cond.classLink RX11 87 RX1 ∈ gt := gt_of 405 (by decide +kernel) (by decide +kernel)
theorem w406 : Cond.instantiable RX1 6 ∈ gt := gt_of 406 (by decide +kernel) (by decide +kernel)
theorem w407 : Cond.methodLink RX11 89 yX1_init ∈ gt := gt_of 407 (by decide +kernel) (by decide +kernel)
theorem w408 : Cond.instanceMethod yX1_init ∈ gt := gt_of 408 (by decide +kernel) (by decide +kernel)
theorem w410 : Cond.methodLink RX1 3 Lib.objectInit ∈ gt := gt_of 410 (by decide +kernel) (by decide +kernel)
theorem w430 : Cond.classLink RX11 94 RX4 ∈ gt := gt_of 430 (by decide +kernel) (by decide +kernel)
theorem w431 : Cond.instantiable RX4 4 ∈ gt := gt_of 431 (by decide +kernel) (by decide +kernel)
theorem w433 : Cond.instanceMethod yX4_init ∈ gt := gt_of 433 (by decide +kernel) (by decide +kernel)
theorem w435 : Cond.methodLink RX4 3 Lib.objectInit ∈ gt := gt_of 435 (by decide +kernel) (by decide +kernel)
theorem w451 : Cond.classLink RX11 104 RX3 ∈ gt := gt_of 451 (by decide +kernel) (by decide +kernel)
theorem w452 : Cond.instantiable RX3 17 ∈ gt := gt_of 452 (by decide +kernel) (by decide +kernel)
theorem w453 : Cond.methodLink RX11 106 yX3_init ∈ gt := gt_of 453 (by decide +kernel) (by decide +kernel)
theorem w454 : Cond.instanceMethod yX3_init ∈ gt := gt_of 454 (by decide +kernel) (by decide +kernel)
theorem w456 : Cond.methodLink RX3 3 Lib.objectInit ∈ gt := gt_of 456 (by decide +kernel) (by decide +kernel)
theorem w1437 : Cond.instanceMethod yX12_init ∈ gt := gt_of 1437 (by decide +kernel) (by decide +kernel)
theorem w1439 : Cond.methodLink RX12 7 Lib.objectInit ∈ gt := gt_of 1439 (by decide +kernel) (by decide +kernel)
theorem kX8_init : xCal yX8_init cX8_init 1 none 0 := ⟨gt_of 172 (by decide +kernel) (by decide +kernel), w130, by decide +kernel⟩
theorem kiX8_init : Cond.instanceMethod yX8_init ∈ gt ∧ (yX8_init).name = "<init>" := ⟨w171, rfl⟩
theorem kX2_init : xCal yX2_init cX2_init 1 none 0 := ⟨gt_of 166 (by decide +kernel) (by decide +kernel), w129, by decide +kernel⟩
theorem kiX2_init : Cond.instanceMethod yX2_init ∈ gt ∧ (yX2_init).name = "<init>" := ⟨w165, rfl⟩
theorem kX0_init : xCal yX0_init cX0_init 2 none 0 := ⟨gt_of 261 (by decide +kernel) (by decide +kernel), w131, by decide +kernel⟩
theorem kiX0_init : Cond.instanceMethod yX0_init ∈ gt ∧ (yX0_init).name = "<init>" := ⟨w260, rfl⟩
theorem kX7_init : xCal yX7_init cX7_init 2 none 1 := ⟨gt_of 281 (by decide +kernel) (by decide +kernel), w132, by decide +kernel⟩
theorem kiX7_init : Cond.instanceMethod yX7_init ∈ gt ∧ (yX7_init).name = "<init>" := ⟨w280, rfl⟩
theorem kX9_init : xCal yX9_init cX9_init 2 none 1 := ⟨gt_of 310 (by decide +kernel) (by decide +kernel), w133, by decide +kernel⟩
theorem kiX9_init : Cond.instanceMethod yX9_init ∈ gt ∧ (yX9_init).name = "<init>" := ⟨w309, rfl⟩
theorem kX5_init : xCal yX5_init cX5_init 3 none 2 := ⟨gt_of 335 (by decide +kernel) (by decide +kernel), w134, by decide +kernel⟩
theorem kiX5_init : Cond.instanceMethod yX5_init ∈ gt ∧ (yX5_init).name = "<init>" := ⟨w334, rfl⟩
theorem kX6_init : xCal yX6_init cX6_init 3 none 2 := ⟨gt_of 366 (by decide +kernel) (by decide +kernel), w135, by decide +kernel⟩
theorem kiX6_init : Cond.instanceMethod yX6_init ∈ gt ∧ (yX6_init).name = "<init>" := ⟨w365, rfl⟩
theorem kX1_init : xCal yX1_init cX1_init 2 none 1 := ⟨gt_of 409 (by decide +kernel) (by decide +kernel), w136, by decide +kernel⟩
theorem kiX1_init : Cond.instanceMethod yX1_init ∈ gt ∧ (yX1_init).name = "<init>" := ⟨w408, rfl⟩
theorem kX4_init : xCal yX4_init cX4_init 1 none 0 := ⟨gt_of 434 (by decide +kernel) (by decide +kernel), w137, by decide +kernel⟩
theorem kiX4_init : Cond.instanceMethod yX4_init ∈ gt ∧ (yX4_init).name = "<init>" := ⟨w433, rfl⟩
theorem kX3_init : xCal yX3_init cX3_init 2 none 1 := ⟨gt_of 455 (by decide +kernel) (by decide +kernel), w138, by decide +kernel⟩
theorem kiX3_init : Cond.instanceMethod yX3_init ∈ gt ∧ (yX3_init).name = "<init>" := ⟨w454, rfl⟩
theorem kX11_init : xCal yX11_init cX11_init 1 none 0 := ⟨gt_of 158 (by decide +kernel) (by decide +kernel), w128, by decide +kernel⟩
theorem kiX11_init : Cond.instanceMethod yX11_init ∈ gt ∧ (yX11_init).name = "<init>" := ⟨w157, rfl⟩
theorem kX12_init : xCal yX12_init cX12_init 1 none 0 := ⟨gt_of 1438 (by decide +kernel) (by decide +kernel), w139, by decide +kernel⟩
theorem kiX12_init : Cond.instanceMethod yX12_init ∈ gt ∧ (yX12_init).name = "<init>" := ⟨w1437, rfl⟩
theorem objw : Cond.instanceMethod Lib.objectInit ∈ gt ∧ Cond.code Lib.objectInit ⟨#[0xb1]⟩ 1 none ∈ gt := ⟨w160, gt_of 161 (by decide +kernel) (by decide +kernel)⟩
theorem df0 : ∀ j, j < 3 → defaultValue (tyX0 j) = vp_V [.null, .int 0, .int 0] j := by decide +kernel
theorem df1 : ∀ j, j < 6 → defaultValue (tyX1 j) = vp_V [.null, .null, .int 0, .null, .null, .null] j := by decide +kernel
theorem df2 : ∀ j, j < 5 → defaultValue (tyX2 j) = vp_V [.null, .null, .null, .null, .null] j := by decide +kernel
theorem df3 : ∀ j, j < 17 → defaultValue (tyX3 j) = vp_V [.null, .int 0, .int 0, .null, .int 0, .int 0, .null, .null, .null, .null, .null, .null, .null, .null, .null, .null, .null] j := by decide +kernel
theorem df4 : ∀ j, j < 4 → defaultValue (tyX4 j) = vp_V [.null, .int 0, .long 0, .long 0] j := by decide +kernel
theorem df5 : ∀ j, j < 7 → defaultValue (tyX5 j) = vp_V [.null, .null, .null, .null, .null, .int 0, .int 0] j := by decide +kernel
theorem df6 : ∀ j, j < 10 → defaultValue (tyX6 j) = vp_V [.null, .int 0, .null, .null, .int 0, .int 0, .int 0, .int 0, .null, .int 0] j := by decide +kernel
theorem df7 : ∀ j, j < 6 → defaultValue (tyX7 j) = vp_V [.null, .null, .int 0, .int 0, .int 0, .int 0] j := by decide +kernel
theorem df8 : ∀ j, j < 9 → defaultValue (tyX8 j) = vp_V [.int 0, .int 0, .null, .null, .null, .null, .int 0, .null, .int 0] j := by decide +kernel
theorem df9 : ∀ j, j < 5 → defaultValue (tyX9 j) = vp_V [.null, .null, .null, .int 0, .int 0] j := by decide +kernel
