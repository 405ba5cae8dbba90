theorem tm_0 : (Jvm.Cond.initialized "ReadBarrierMachineLaw") ∈ wsG := rb_tin (List.mem_of_getElem? (i := 0) (by decide +kernel)) rfl
theorem tm_10 : (Jvm.Cond.methodLink "ReadBarrierMachineLaw" (15 : Nat) ({ cls := "ReadBarrierMachine", name := "<init>", desc := "(II)V" } : Jvm.MethodName)) ∈ wsG := rb_tin (List.mem_of_getElem? (i := 10) (by decide +kernel)) rfl
theorem tm_11 : (Jvm.Cond.instanceMethod ({ cls := "ReadBarrierMachine", name := "<init>", desc := "(II)V" } : Jvm.MethodName)) ∈ wsG := rb_tin (List.mem_of_getElem? (i := 11) (by decide +kernel)) rfl
set_option maxRecDepth 100000 in
theorem tm_12 : (Jvm.Cond.code ({ cls := "ReadBarrierMachine", name := "<init>", desc := "(II)V" } : Jvm.MethodName) prog_1_method_1_code (3 : Nat) (Option.none : Option Jvm.ClassFile.FieldType)) ∈ wsG := rb_tin (List.mem_of_getElem? (i := 12) rfl) rfl
theorem tm_166 : (Jvm.Cond.methodLink "ReadBarrierMachineLaw" (21 : Nat) ({ cls := "ReadBarrierMachine", name := "kind", desc := "(III)I" } : Jvm.MethodName)) ∈ wsG := rb_tin (List.mem_of_getElem? (i := 166) (by decide +kernel)) rfl
theorem tm_167 : (Jvm.Cond.instanceMethod ({ cls := "ReadBarrierMachine", name := "kind", desc := "(III)I" } : Jvm.MethodName)) ∈ wsG := rb_tin (List.mem_of_getElem? (i := 167) (by decide +kernel)) rfl
theorem tm_168 : (Jvm.Cond.selects "ReadBarrierMachine" ({ cls := "ReadBarrierMachine", name := "kind", desc := "(III)I" } : Jvm.MethodName) ({ cls := "ReadBarrierMachine", name := "kind", desc := "(III)I" } : Jvm.MethodName)) ∈ wsG := rb_tin (List.mem_of_getElem? (i := 168) (by decide +kernel)) rfl
set_option maxRecDepth 100000 in
theorem tm_169 : (Jvm.Cond.code ({ cls := "ReadBarrierMachine", name := "kind", desc := "(III)I" } : Jvm.MethodName) prog_1_method_2_code (4 : Nat) (Option.some Jvm.ClassFile.FieldType.int)) ∈ wsG := rb_tin (List.mem_of_getElem? (i := 169) rfl) rfl
theorem tm_186 : (Jvm.Cond.methodLink "ReadBarrierMachineLaw" (26 : Nat) ({ cls := "ReadBarrierMachine", name := "bind", desc := "(III)Z" } : Jvm.MethodName)) ∈ wsG := rb_tin (List.mem_of_getElem? (i := 186) (by decide +kernel)) rfl
theorem tm_187 : (Jvm.Cond.instanceMethod ({ cls := "ReadBarrierMachine", name := "bind", desc := "(III)Z" } : Jvm.MethodName)) ∈ wsG := rb_tin (List.mem_of_getElem? (i := 187) (by decide +kernel)) rfl
theorem tm_188 : (Jvm.Cond.selects "ReadBarrierMachine" ({ cls := "ReadBarrierMachine", name := "bind", desc := "(III)Z" } : Jvm.MethodName) ({ cls := "ReadBarrierMachine", name := "bind", desc := "(III)Z" } : Jvm.MethodName)) ∈ wsG := rb_tin (List.mem_of_getElem? (i := 188) (by decide +kernel)) rfl
set_option maxRecDepth 100000 in
theorem tm_189 : (Jvm.Cond.code ({ cls := "ReadBarrierMachine", name := "bind", desc := "(III)Z" } : Jvm.MethodName) prog_1_method_3_code (4 : Nat) (Option.some Jvm.ClassFile.FieldType.boolean)) ∈ wsG := rb_tin (List.mem_of_getElem? (i := 189) rfl) rfl
theorem tm_196 : (Jvm.Cond.methodLink "ReadBarrierMachineLaw" (31 : Nat) ({ cls := "ReadBarrierMachine", name := "method", desc := "(I)I" } : Jvm.MethodName)) ∈ wsG := rb_tin (List.mem_of_getElem? (i := 196) (by decide +kernel)) rfl
theorem tm_197 : (Jvm.Cond.instanceMethod ({ cls := "ReadBarrierMachine", name := "method", desc := "(I)I" } : Jvm.MethodName)) ∈ wsG := rb_tin (List.mem_of_getElem? (i := 197) (by decide +kernel)) rfl
theorem tm_198 : (Jvm.Cond.selects "ReadBarrierMachine" ({ cls := "ReadBarrierMachine", name := "method", desc := "(I)I" } : Jvm.MethodName) ({ cls := "ReadBarrierMachine", name := "method", desc := "(I)I" } : Jvm.MethodName)) ∈ wsG := rb_tin (List.mem_of_getElem? (i := 198) (by decide +kernel)) rfl
set_option maxRecDepth 100000 in
theorem tm_199 : (Jvm.Cond.code ({ cls := "ReadBarrierMachine", name := "method", desc := "(I)I" } : Jvm.MethodName) prog_1_method_4_code (2 : Nat) (Option.some Jvm.ClassFile.FieldType.int)) ∈ wsG := rb_tin (List.mem_of_getElem? (i := 199) rfl) rfl
theorem tm_204 : (Jvm.Cond.methodLink "ReadBarrierMachineLaw" (36 : Nat) ({ cls := "ReadBarrierMachine", name := "code", desc := "(IIII)I" } : Jvm.MethodName)) ∈ wsG := rb_tin (List.mem_of_getElem? (i := 204) (by decide +kernel)) rfl
theorem tm_205 : (Jvm.Cond.instanceMethod ({ cls := "ReadBarrierMachine", name := "code", desc := "(IIII)I" } : Jvm.MethodName)) ∈ wsG := rb_tin (List.mem_of_getElem? (i := 205) (by decide +kernel)) rfl
theorem tm_206 : (Jvm.Cond.selects "ReadBarrierMachine" ({ cls := "ReadBarrierMachine", name := "code", desc := "(IIII)I" } : Jvm.MethodName) ({ cls := "ReadBarrierMachine", name := "code", desc := "(IIII)I" } : Jvm.MethodName)) ∈ wsG := rb_tin (List.mem_of_getElem? (i := 206) (by decide +kernel)) rfl
set_option maxRecDepth 100000 in
theorem tm_207 : (Jvm.Cond.code ({ cls := "ReadBarrierMachine", name := "code", desc := "(IIII)I" } : Jvm.MethodName) prog_1_method_5_code (5 : Nat) (Option.some Jvm.ClassFile.FieldType.int)) ∈ wsG := rb_tin (List.mem_of_getElem? (i := 207) rfl) rfl
theorem tm_233 : (Jvm.Cond.methodLink "ReadBarrierMachineLaw" (41 : Nat) ({ cls := "ReadBarrierMachine", name := "seal", desc := "()Z" } : Jvm.MethodName)) ∈ wsG := rb_tin (List.mem_of_getElem? (i := 233) (by decide +kernel)) rfl
theorem tm_234 : (Jvm.Cond.instanceMethod ({ cls := "ReadBarrierMachine", name := "seal", desc := "()Z" } : Jvm.MethodName)) ∈ wsG := rb_tin (List.mem_of_getElem? (i := 234) (by decide +kernel)) rfl
theorem tm_235 : (Jvm.Cond.selects "ReadBarrierMachine" ({ cls := "ReadBarrierMachine", name := "seal", desc := "()Z" } : Jvm.MethodName) ({ cls := "ReadBarrierMachine", name := "seal", desc := "()Z" } : Jvm.MethodName)) ∈ wsG := rb_tin (List.mem_of_getElem? (i := 235) (by decide +kernel)) rfl
set_option maxRecDepth 100000 in
theorem tm_236 : (Jvm.Cond.code ({ cls := "ReadBarrierMachine", name := "seal", desc := "()Z" } : Jvm.MethodName) prog_1_method_6_code (1 : Nat) (Option.some Jvm.ClassFile.FieldType.boolean)) ∈ wsG := rb_tin (List.mem_of_getElem? (i := 236) rfl) rfl
theorem tm_249 : (Jvm.Cond.methodLink "ReadBarrierMachineLaw" (46 : Nat) ({ cls := "ReadBarrierMachine", name := "drop", desc := "()Z" } : Jvm.MethodName)) ∈ wsG := rb_tin (List.mem_of_getElem? (i := 249) (by decide +kernel)) rfl
theorem tm_250 : (Jvm.Cond.instanceMethod ({ cls := "ReadBarrierMachine", name := "drop", desc := "()Z" } : Jvm.MethodName)) ∈ wsG := rb_tin (List.mem_of_getElem? (i := 250) (by decide +kernel)) rfl
theorem tm_251 : (Jvm.Cond.selects "ReadBarrierMachine" ({ cls := "ReadBarrierMachine", name := "drop", desc := "()Z" } : Jvm.MethodName) ({ cls := "ReadBarrierMachine", name := "drop", desc := "()Z" } : Jvm.MethodName)) ∈ wsG := rb_tin (List.mem_of_getElem? (i := 251) (by decide +kernel)) rfl
set_option maxRecDepth 100000 in
theorem tm_252 : (Jvm.Cond.code ({ cls := "ReadBarrierMachine", name := "drop", desc := "()Z" } : Jvm.MethodName) prog_1_method_7_code (1 : Nat) (Option.some Jvm.ClassFile.FieldType.boolean)) ∈ wsG := rb_tin (List.mem_of_getElem? (i := 252) rfl) rfl
theorem tm_257 : (Jvm.Cond.methodLink "ReadBarrierMachineLaw" (50 : Nat) ({ cls := "ReadBarrierMachine", name := "start", desc := "(II)Z" } : Jvm.MethodName)) ∈ wsG := rb_tin (List.mem_of_getElem? (i := 257) (by decide +kernel)) rfl
theorem tm_258 : (Jvm.Cond.instanceMethod ({ cls := "ReadBarrierMachine", name := "start", desc := "(II)Z" } : Jvm.MethodName)) ∈ wsG := rb_tin (List.mem_of_getElem? (i := 258) (by decide +kernel)) rfl
theorem tm_259 : (Jvm.Cond.selects "ReadBarrierMachine" ({ cls := "ReadBarrierMachine", name := "start", desc := "(II)Z" } : Jvm.MethodName) ({ cls := "ReadBarrierMachine", name := "start", desc := "(II)Z" } : Jvm.MethodName)) ∈ wsG := rb_tin (List.mem_of_getElem? (i := 259) (by decide +kernel)) rfl
set_option maxRecDepth 100000 in
theorem tm_260 : (Jvm.Cond.code ({ cls := "ReadBarrierMachine", name := "start", desc := "(II)Z" } : Jvm.MethodName) prog_1_method_8_code (3 : Nat) (Option.some Jvm.ClassFile.FieldType.boolean)) ∈ wsG := rb_tin (List.mem_of_getElem? (i := 260) rfl) rfl
theorem tm_320 : (Jvm.Cond.methodLink "ReadBarrierMachineLaw" (55 : Nat) ({ cls := "ReadBarrierMachine", name := "run", desc := "(I)I" } : Jvm.MethodName)) ∈ wsG := rb_tin (List.mem_of_getElem? (i := 320) (by decide +kernel)) rfl
theorem tm_321 : (Jvm.Cond.instanceMethod ({ cls := "ReadBarrierMachine", name := "run", desc := "(I)I" } : Jvm.MethodName)) ∈ wsG := rb_tin (List.mem_of_getElem? (i := 321) (by decide +kernel)) rfl
theorem tm_322 : (Jvm.Cond.selects "ReadBarrierMachine" ({ cls := "ReadBarrierMachine", name := "run", desc := "(I)I" } : Jvm.MethodName) ({ cls := "ReadBarrierMachine", name := "run", desc := "(I)I" } : Jvm.MethodName)) ∈ wsG := rb_tin (List.mem_of_getElem? (i := 322) (by decide +kernel)) rfl
set_option maxRecDepth 100000 in
theorem tm_323 : (Jvm.Cond.code ({ cls := "ReadBarrierMachine", name := "run", desc := "(I)I" } : Jvm.MethodName) prog_1_method_9_code (3 : Nat) (Option.some Jvm.ClassFile.FieldType.int)) ∈ wsG := rb_tin (List.mem_of_getElem? (i := 323) rfl) rfl
theorem tm_452 : (Jvm.Cond.methodLink "ReadBarrierMachineLaw" (59 : Nat) ({ cls := "ReadBarrierMachine", name := "state", desc := "()I" } : Jvm.MethodName)) ∈ wsG := rb_tin (List.mem_of_getElem? (i := 452) (by decide +kernel)) rfl
theorem tm_453 : (Jvm.Cond.instanceMethod ({ cls := "ReadBarrierMachine", name := "state", desc := "()I" } : Jvm.MethodName)) ∈ wsG := rb_tin (List.mem_of_getElem? (i := 453) (by decide +kernel)) rfl
theorem tm_454 : (Jvm.Cond.selects "ReadBarrierMachine" ({ cls := "ReadBarrierMachine", name := "state", desc := "()I" } : Jvm.MethodName) ({ cls := "ReadBarrierMachine", name := "state", desc := "()I" } : Jvm.MethodName)) ∈ wsG := rb_tin (List.mem_of_getElem? (i := 454) (by decide +kernel)) rfl
set_option maxRecDepth 100000 in
theorem tm_455 : (Jvm.Cond.code ({ cls := "ReadBarrierMachine", name := "state", desc := "()I" } : Jvm.MethodName) prog_1_method_10_code (1 : Nat) (Option.some Jvm.ClassFile.FieldType.int)) ∈ wsG := rb_tin (List.mem_of_getElem? (i := 455) rfl) rfl
theorem tm_456 : (Jvm.Cond.methodLink "ReadBarrierMachineLaw" (64 : Nat) ({ cls := "ReadBarrierMachine", name := "result", desc := "()I" } : Jvm.MethodName)) ∈ wsG := rb_tin (List.mem_of_getElem? (i := 456) (by decide +kernel)) rfl
theorem tm_457 : (Jvm.Cond.instanceMethod ({ cls := "ReadBarrierMachine", name := "result", desc := "()I" } : Jvm.MethodName)) ∈ wsG := rb_tin (List.mem_of_getElem? (i := 457) (by decide +kernel)) rfl
theorem tm_458 : (Jvm.Cond.selects "ReadBarrierMachine" ({ cls := "ReadBarrierMachine", name := "result", desc := "()I" } : Jvm.MethodName) ({ cls := "ReadBarrierMachine", name := "result", desc := "()I" } : Jvm.MethodName)) ∈ wsG := rb_tin (List.mem_of_getElem? (i := 458) (by decide +kernel)) rfl
set_option maxRecDepth 100000 in
theorem tm_459 : (Jvm.Cond.code ({ cls := "ReadBarrierMachine", name := "result", desc := "()I" } : Jvm.MethodName) prog_1_method_11_code (1 : Nat) (Option.some Jvm.ClassFile.FieldType.int)) ∈ wsG := rb_tin (List.mem_of_getElem? (i := 459) rfl) rfl
theorem tm_460 : (Jvm.Cond.methodLink "ReadBarrierMachineLaw" (68 : Nat) ({ cls := "ReadBarrierMachine", name := "shown", desc := "(I)I" } : Jvm.MethodName)) ∈ wsG := rb_tin (List.mem_of_getElem? (i := 460) (by decide +kernel)) rfl
theorem tm_461 : (Jvm.Cond.instanceMethod ({ cls := "ReadBarrierMachine", name := "shown", desc := "(I)I" } : Jvm.MethodName)) ∈ wsG := rb_tin (List.mem_of_getElem? (i := 461) (by decide +kernel)) rfl
theorem tm_462 : (Jvm.Cond.selects "ReadBarrierMachine" ({ cls := "ReadBarrierMachine", name := "shown", desc := "(I)I" } : Jvm.MethodName) ({ cls := "ReadBarrierMachine", name := "shown", desc := "(I)I" } : Jvm.MethodName)) ∈ wsG := rb_tin (List.mem_of_getElem? (i := 462) (by decide +kernel)) rfl
set_option maxRecDepth 100000 in
theorem tm_463 : (Jvm.Cond.code ({ cls := "ReadBarrierMachine", name := "shown", desc := "(I)I" } : Jvm.MethodName) prog_1_method_12_code (2 : Nat) (Option.some Jvm.ClassFile.FieldType.int)) ∈ wsG := rb_tin (List.mem_of_getElem? (i := 463) rfl) rfl
theorem tm_464 : (Jvm.Cond.methodLink "ReadBarrierMachineLaw" (72 : Nat) ({ cls := "ReadBarrierMachine", name := "work", desc := "()I" } : Jvm.MethodName)) ∈ wsG := rb_tin (List.mem_of_getElem? (i := 464) (by decide +kernel)) rfl
theorem tm_465 : (Jvm.Cond.instanceMethod ({ cls := "ReadBarrierMachine", name := "work", desc := "()I" } : Jvm.MethodName)) ∈ wsG := rb_tin (List.mem_of_getElem? (i := 465) (by decide +kernel)) rfl
theorem tm_466 : (Jvm.Cond.selects "ReadBarrierMachine" ({ cls := "ReadBarrierMachine", name := "work", desc := "()I" } : Jvm.MethodName) ({ cls := "ReadBarrierMachine", name := "work", desc := "()I" } : Jvm.MethodName)) ∈ wsG := rb_tin (List.mem_of_getElem? (i := 466) (by decide +kernel)) rfl
set_option maxRecDepth 100000 in
theorem tm_467 : (Jvm.Cond.code ({ cls := "ReadBarrierMachine", name := "work", desc := "()I" } : Jvm.MethodName) prog_1_method_13_code (1 : Nat) (Option.some Jvm.ClassFile.FieldType.int)) ∈ wsG := rb_tin (List.mem_of_getElem? (i := 467) rfl) rfl
theorem tm_468 : (Jvm.Cond.methodLink "ReadBarrierMachineLaw" (76 : Nat) ({ cls := "ReadBarrierMachine", name := "used", desc := "()I" } : Jvm.MethodName)) ∈ wsG := rb_tin (List.mem_of_getElem? (i := 468) (by decide +kernel)) rfl
theorem tm_469 : (Jvm.Cond.instanceMethod ({ cls := "ReadBarrierMachine", name := "used", desc := "()I" } : Jvm.MethodName)) ∈ wsG := rb_tin (List.mem_of_getElem? (i := 469) (by decide +kernel)) rfl
theorem tm_470 : (Jvm.Cond.selects "ReadBarrierMachine" ({ cls := "ReadBarrierMachine", name := "used", desc := "()I" } : Jvm.MethodName) ({ cls := "ReadBarrierMachine", name := "used", desc := "()I" } : Jvm.MethodName)) ∈ wsG := rb_tin (List.mem_of_getElem? (i := 470) (by decide +kernel)) rfl
set_option maxRecDepth 100000 in
theorem tm_471 : (Jvm.Cond.code ({ cls := "ReadBarrierMachine", name := "used", desc := "()I" } : Jvm.MethodName) prog_1_method_14_code (1 : Nat) (Option.some Jvm.ClassFile.FieldType.int)) ∈ wsG := rb_tin (List.mem_of_getElem? (i := 471) rfl) rfl
theorem tm_476 : (Jvm.Cond.methodLink "ReadBarrierMachineLaw" (80 : Nat) ({ cls := "ReadBarrierMachine", name := "grey", desc := "()I" } : Jvm.MethodName)) ∈ wsG := rb_tin (List.mem_of_getElem? (i := 476) (by decide +kernel)) rfl
theorem tm_477 : (Jvm.Cond.instanceMethod ({ cls := "ReadBarrierMachine", name := "grey", desc := "()I" } : Jvm.MethodName)) ∈ wsG := rb_tin (List.mem_of_getElem? (i := 477) (by decide +kernel)) rfl
theorem tm_478 : (Jvm.Cond.selects "ReadBarrierMachine" ({ cls := "ReadBarrierMachine", name := "grey", desc := "()I" } : Jvm.MethodName) ({ cls := "ReadBarrierMachine", name := "grey", desc := "()I" } : Jvm.MethodName)) ∈ wsG := rb_tin (List.mem_of_getElem? (i := 478) (by decide +kernel)) rfl
set_option maxRecDepth 100000 in
theorem tm_479 : (Jvm.Cond.code ({ cls := "ReadBarrierMachine", name := "grey", desc := "()I" } : Jvm.MethodName) prog_1_method_15_code (1 : Nat) (Option.some Jvm.ClassFile.FieldType.int)) ∈ wsG := rb_tin (List.mem_of_getElem? (i := 479) rfl) rfl
theorem tm_484 : (Jvm.Cond.methodLink "ReadBarrierMachineLaw" (84 : Nat) ({ cls := "ReadBarrierMachine", name := "flips", desc := "()I" } : Jvm.MethodName)) ∈ wsG := rb_tin (List.mem_of_getElem? (i := 484) (by decide +kernel)) rfl
theorem tm_485 : (Jvm.Cond.instanceMethod ({ cls := "ReadBarrierMachine", name := "flips", desc := "()I" } : Jvm.MethodName)) ∈ wsG := rb_tin (List.mem_of_getElem? (i := 485) (by decide +kernel)) rfl
theorem tm_486 : (Jvm.Cond.selects "ReadBarrierMachine" ({ cls := "ReadBarrierMachine", name := "flips", desc := "()I" } : Jvm.MethodName) ({ cls := "ReadBarrierMachine", name := "flips", desc := "()I" } : Jvm.MethodName)) ∈ wsG := rb_tin (List.mem_of_getElem? (i := 486) (by decide +kernel)) rfl
set_option maxRecDepth 100000 in
theorem tm_487 : (Jvm.Cond.code ({ cls := "ReadBarrierMachine", name := "flips", desc := "()I" } : Jvm.MethodName) prog_1_method_16_code (1 : Nat) (Option.some Jvm.ClassFile.FieldType.int)) ∈ wsG := rb_tin (List.mem_of_getElem? (i := 487) rfl) rfl
theorem tm_488 : (Jvm.Cond.methodLink "ReadBarrierMachineLaw" (88 : Nat) ({ cls := "ReadBarrierMachine", name := "depth", desc := "()I" } : Jvm.MethodName)) ∈ wsG := rb_tin (List.mem_of_getElem? (i := 488) (by decide +kernel)) rfl
theorem tm_489 : (Jvm.Cond.instanceMethod ({ cls := "ReadBarrierMachine", name := "depth", desc := "()I" } : Jvm.MethodName)) ∈ wsG := rb_tin (List.mem_of_getElem? (i := 489) (by decide +kernel)) rfl
theorem tm_490 : (Jvm.Cond.selects "ReadBarrierMachine" ({ cls := "ReadBarrierMachine", name := "depth", desc := "()I" } : Jvm.MethodName) ({ cls := "ReadBarrierMachine", name := "depth", desc := "()I" } : Jvm.MethodName)) ∈ wsG := rb_tin (List.mem_of_getElem? (i := 490) (by decide +kernel)) rfl
set_option maxRecDepth 100000 in
theorem tm_491 : (Jvm.Cond.code ({ cls := "ReadBarrierMachine", name := "depth", desc := "()I" } : Jvm.MethodName) prog_1_method_17_code (1 : Nat) (Option.some Jvm.ClassFile.FieldType.int)) ∈ wsG := rb_tin (List.mem_of_getElem? (i := 491) rfl) rfl
theorem tm_500 : (Jvm.Cond.methodLink "ReadBarrierMachineLaw" (92 : Nat) ({ cls := "ReadBarrierMachine", name := "live", desc := "()I" } : Jvm.MethodName)) ∈ wsG := rb_tin (List.mem_of_getElem? (i := 500) (by decide +kernel)) rfl
theorem tm_501 : (Jvm.Cond.instanceMethod ({ cls := "ReadBarrierMachine", name := "live", desc := "()I" } : Jvm.MethodName)) ∈ wsG := rb_tin (List.mem_of_getElem? (i := 501) (by decide +kernel)) rfl
theorem tm_502 : (Jvm.Cond.selects "ReadBarrierMachine" ({ cls := "ReadBarrierMachine", name := "live", desc := "()I" } : Jvm.MethodName) ({ cls := "ReadBarrierMachine", name := "live", desc := "()I" } : Jvm.MethodName)) ∈ wsG := rb_tin (List.mem_of_getElem? (i := 502) (by decide +kernel)) rfl
set_option maxRecDepth 100000 in
theorem tm_503 : (Jvm.Cond.code ({ cls := "ReadBarrierMachine", name := "live", desc := "()I" } : Jvm.MethodName) prog_1_method_18_code (1 : Nat) (Option.some Jvm.ClassFile.FieldType.int)) ∈ wsG := rb_tin (List.mem_of_getElem? (i := 503) rfl) rfl
theorem tm_512 : (Jvm.Cond.methodLink "ReadBarrierMachineLaw" (96 : Nat) ({ cls := "ReadBarrierMachine", name := "kindAt", desc := "(II)I" } : Jvm.MethodName)) ∈ wsG := rb_tin (List.mem_of_getElem? (i := 512) (by decide +kernel)) rfl
theorem tm_513 : (Jvm.Cond.instanceMethod ({ cls := "ReadBarrierMachine", name := "kindAt", desc := "(II)I" } : Jvm.MethodName)) ∈ wsG := rb_tin (List.mem_of_getElem? (i := 513) (by decide +kernel)) rfl
theorem tm_514 : (Jvm.Cond.selects "ReadBarrierMachine" ({ cls := "ReadBarrierMachine", name := "kindAt", desc := "(II)I" } : Jvm.MethodName) ({ cls := "ReadBarrierMachine", name := "kindAt", desc := "(II)I" } : Jvm.MethodName)) ∈ wsG := rb_tin (List.mem_of_getElem? (i := 514) (by decide +kernel)) rfl
set_option maxRecDepth 100000 in
theorem tm_515 : (Jvm.Cond.code ({ cls := "ReadBarrierMachine", name := "kindAt", desc := "(II)I" } : Jvm.MethodName) prog_1_method_19_code (5 : Nat) (Option.some Jvm.ClassFile.FieldType.int)) ∈ wsG := rb_tin (List.mem_of_getElem? (i := 515) rfl) rfl
theorem tm_517 : (Jvm.Cond.methodLink "ReadBarrierMachineLaw" (101 : Nat) ({ cls := "ReadBarrierMachine", name := "number", desc := "(I)I" } : Jvm.MethodName)) ∈ wsG := rb_tin (List.mem_of_getElem? (i := 517) (by decide +kernel)) rfl
theorem tm_518 : (Jvm.Cond.instanceMethod ({ cls := "ReadBarrierMachine", name := "number", desc := "(I)I" } : Jvm.MethodName)) ∈ wsG := rb_tin (List.mem_of_getElem? (i := 518) (by decide +kernel)) rfl
theorem tm_519 : (Jvm.Cond.selects "ReadBarrierMachine" ({ cls := "ReadBarrierMachine", name := "number", desc := "(I)I" } : Jvm.MethodName) ({ cls := "ReadBarrierMachine", name := "number", desc := "(I)I" } : Jvm.MethodName)) ∈ wsG := rb_tin (List.mem_of_getElem? (i := 519) (by decide +kernel)) rfl
set_option maxRecDepth 100000 in
theorem tm_520 : (Jvm.Cond.code ({ cls := "ReadBarrierMachine", name := "number", desc := "(I)I" } : Jvm.MethodName) prog_1_method_20_code (2 : Nat) (Option.some Jvm.ClassFile.FieldType.int)) ∈ wsG := rb_tin (List.mem_of_getElem? (i := 520) rfl) rfl
theorem tm_521 : (Jvm.Cond.methodLink "ReadBarrierMachineLaw" (9 : Nat) ({ cls := "ReadBarrierMachineLaw", name := "cell", desc := "([II)I" } : Jvm.MethodName)) ∈ wsG := rb_tin (List.mem_of_getElem? (i := 521) (by decide +kernel)) rfl
theorem tm_522 : (Jvm.Cond.static ({ cls := "ReadBarrierMachineLaw", name := "cell", desc := "([II)I" } : Jvm.MethodName)) ∈ wsG := rb_tin (List.mem_of_getElem? (i := 522) (by decide +kernel)) rfl
set_option maxRecDepth 100000 in
theorem tm_523 : (Jvm.Cond.code ({ cls := "ReadBarrierMachineLaw", name := "cell", desc := "([II)I" } : Jvm.MethodName) method_2_code (2 : Nat) (Option.some Jvm.ClassFile.FieldType.int)) ∈ wsG := rb_tin (List.mem_of_getElem? (i := 523) rfl) rfl
theorem tm_526 : (Jvm.Cond.methodLink "ReadBarrierMachineLaw" (20 : Nat) ({ cls := "ReadBarrierMachineModel", name := "<init>", desc := "(II)V" } : Jvm.MethodName)) ∈ wsG := rb_tin (List.mem_of_getElem? (i := 526) (by decide +kernel)) rfl
theorem tm_527 : (Jvm.Cond.instanceMethod ({ cls := "ReadBarrierMachineModel", name := "<init>", desc := "(II)V" } : Jvm.MethodName)) ∈ wsG := rb_tin (List.mem_of_getElem? (i := 527) (by decide +kernel)) rfl
set_option maxRecDepth 100000 in
theorem tm_528 : (Jvm.Cond.code ({ cls := "ReadBarrierMachineModel", name := "<init>", desc := "(II)V" } : Jvm.MethodName) prog_6_method_1_code (3 : Nat) (Option.none : Option Jvm.ClassFile.FieldType)) ∈ wsG := rb_tin (List.mem_of_getElem? (i := 528) rfl) rfl
theorem tm_631 : (Jvm.Cond.methodLink "ReadBarrierMachineLaw" (25 : Nat) ({ cls := "ReadBarrierMachineModel", name := "kind", desc := "(III)I" } : Jvm.MethodName)) ∈ wsG := rb_tin (List.mem_of_getElem? (i := 631) (by decide +kernel)) rfl
theorem tm_632 : (Jvm.Cond.instanceMethod ({ cls := "ReadBarrierMachineModel", name := "kind", desc := "(III)I" } : Jvm.MethodName)) ∈ wsG := rb_tin (List.mem_of_getElem? (i := 632) (by decide +kernel)) rfl
theorem tm_633 : (Jvm.Cond.selects "ReadBarrierMachineModel" ({ cls := "ReadBarrierMachineModel", name := "kind", desc := "(III)I" } : Jvm.MethodName) ({ cls := "ReadBarrierMachineModel", name := "kind", desc := "(III)I" } : Jvm.MethodName)) ∈ wsG := rb_tin (List.mem_of_getElem? (i := 633) (by decide +kernel)) rfl
set_option maxRecDepth 100000 in
theorem tm_634 : (Jvm.Cond.code ({ cls := "ReadBarrierMachineModel", name := "kind", desc := "(III)I" } : Jvm.MethodName) prog_6_method_3_code (5 : Nat) (Option.some Jvm.ClassFile.FieldType.int)) ∈ wsG := rb_tin (List.mem_of_getElem? (i := 634) rfl) rfl
theorem tm_638 : (Jvm.Cond.methodLink "ReadBarrierMachineLaw" (30 : Nat) ({ cls := "ReadBarrierMachineModel", name := "bind", desc := "(III)Z" } : Jvm.MethodName)) ∈ wsG := rb_tin (List.mem_of_getElem? (i := 638) (by decide +kernel)) rfl
theorem tm_639 : (Jvm.Cond.instanceMethod ({ cls := "ReadBarrierMachineModel", name := "bind", desc := "(III)Z" } : Jvm.MethodName)) ∈ wsG := rb_tin (List.mem_of_getElem? (i := 639) (by decide +kernel)) rfl
theorem tm_640 : (Jvm.Cond.selects "ReadBarrierMachineModel" ({ cls := "ReadBarrierMachineModel", name := "bind", desc := "(III)Z" } : Jvm.MethodName) ({ cls := "ReadBarrierMachineModel", name := "bind", desc := "(III)Z" } : Jvm.MethodName)) ∈ wsG := rb_tin (List.mem_of_getElem? (i := 640) (by decide +kernel)) rfl
set_option maxRecDepth 100000 in
theorem tm_641 : (Jvm.Cond.code ({ cls := "ReadBarrierMachineModel", name := "bind", desc := "(III)Z" } : Jvm.MethodName) prog_6_method_5_code (4 : Nat) (Option.some Jvm.ClassFile.FieldType.boolean)) ∈ wsG := rb_tin (List.mem_of_getElem? (i := 641) rfl) rfl
theorem tm_646 : (Jvm.Cond.methodLink "ReadBarrierMachineLaw" (35 : Nat) ({ cls := "ReadBarrierMachineModel", name := "method", desc := "(I)I" } : Jvm.MethodName)) ∈ wsG := rb_tin (List.mem_of_getElem? (i := 646) (by decide +kernel)) rfl
theorem tm_647 : (Jvm.Cond.instanceMethod ({ cls := "ReadBarrierMachineModel", name := "method", desc := "(I)I" } : Jvm.MethodName)) ∈ wsG := rb_tin (List.mem_of_getElem? (i := 647) (by decide +kernel)) rfl
theorem tm_648 : (Jvm.Cond.selects "ReadBarrierMachineModel" ({ cls := "ReadBarrierMachineModel", name := "method", desc := "(I)I" } : Jvm.MethodName) ({ cls := "ReadBarrierMachineModel", name := "method", desc := "(I)I" } : Jvm.MethodName)) ∈ wsG := rb_tin (List.mem_of_getElem? (i := 648) (by decide +kernel)) rfl
set_option maxRecDepth 100000 in
theorem tm_649 : (Jvm.Cond.code ({ cls := "ReadBarrierMachineModel", name := "method", desc := "(I)I" } : Jvm.MethodName) prog_6_method_6_code (2 : Nat) (Option.some Jvm.ClassFile.FieldType.int)) ∈ wsG := rb_tin (List.mem_of_getElem? (i := 649) rfl) rfl
theorem tm_650 : (Jvm.Cond.methodLink "ReadBarrierMachineLaw" (40 : Nat) ({ cls := "ReadBarrierMachineModel", name := "code", desc := "(IIII)I" } : Jvm.MethodName)) ∈ wsG := rb_tin (List.mem_of_getElem? (i := 650) (by decide +kernel)) rfl
theorem tm_651 : (Jvm.Cond.instanceMethod ({ cls := "ReadBarrierMachineModel", name := "code", desc := "(IIII)I" } : Jvm.MethodName)) ∈ wsG := rb_tin (List.mem_of_getElem? (i := 651) (by decide +kernel)) rfl
theorem tm_652 : (Jvm.Cond.selects "ReadBarrierMachineModel" ({ cls := "ReadBarrierMachineModel", name := "code", desc := "(IIII)I" } : Jvm.MethodName) ({ cls := "ReadBarrierMachineModel", name := "code", desc := "(IIII)I" } : Jvm.MethodName)) ∈ wsG := rb_tin (List.mem_of_getElem? (i := 652) (by decide +kernel)) rfl
set_option maxRecDepth 100000 in
theorem tm_653 : (Jvm.Cond.code ({ cls := "ReadBarrierMachineModel", name := "code", desc := "(IIII)I" } : Jvm.MethodName) prog_6_method_8_code (7 : Nat) (Option.some Jvm.ClassFile.FieldType.int)) ∈ wsG := rb_tin (List.mem_of_getElem? (i := 653) rfl) rfl
theorem tm_658 : (Jvm.Cond.methodLink "ReadBarrierMachineLaw" (45 : Nat) ({ cls := "ReadBarrierMachineModel", name := "seal", desc := "()Z" } : Jvm.MethodName)) ∈ wsG := rb_tin (List.mem_of_getElem? (i := 658) (by decide +kernel)) rfl
theorem tm_659 : (Jvm.Cond.instanceMethod ({ cls := "ReadBarrierMachineModel", name := "seal", desc := "()Z" } : Jvm.MethodName)) ∈ wsG := rb_tin (List.mem_of_getElem? (i := 659) (by decide +kernel)) rfl
theorem tm_660 : (Jvm.Cond.selects "ReadBarrierMachineModel" ({ cls := "ReadBarrierMachineModel", name := "seal", desc := "()Z" } : Jvm.MethodName) ({ cls := "ReadBarrierMachineModel", name := "seal", desc := "()Z" } : Jvm.MethodName)) ∈ wsG := rb_tin (List.mem_of_getElem? (i := 660) (by decide +kernel)) rfl
set_option maxRecDepth 100000 in
theorem tm_661 : (Jvm.Cond.code ({ cls := "ReadBarrierMachineModel", name := "seal", desc := "()Z" } : Jvm.MethodName) prog_6_method_9_code (5 : Nat) (Option.some Jvm.ClassFile.FieldType.boolean)) ∈ wsG := rb_tin (List.mem_of_getElem? (i := 661) rfl) rfl
theorem tm_662 : (Jvm.Cond.methodLink "ReadBarrierMachineLaw" (49 : Nat) ({ cls := "ReadBarrierMachineModel", name := "drop", desc := "()Z" } : Jvm.MethodName)) ∈ wsG := rb_tin (List.mem_of_getElem? (i := 662) (by decide +kernel)) rfl
theorem tm_663 : (Jvm.Cond.instanceMethod ({ cls := "ReadBarrierMachineModel", name := "drop", desc := "()Z" } : Jvm.MethodName)) ∈ wsG := rb_tin (List.mem_of_getElem? (i := 663) (by decide +kernel)) rfl
theorem tm_664 : (Jvm.Cond.selects "ReadBarrierMachineModel" ({ cls := "ReadBarrierMachineModel", name := "drop", desc := "()Z" } : Jvm.MethodName) ({ cls := "ReadBarrierMachineModel", name := "drop", desc := "()Z" } : Jvm.MethodName)) ∈ wsG := rb_tin (List.mem_of_getElem? (i := 664) (by decide +kernel)) rfl
set_option maxRecDepth 100000 in
theorem tm_665 : (Jvm.Cond.code ({ cls := "ReadBarrierMachineModel", name := "drop", desc := "()Z" } : Jvm.MethodName) prog_6_method_10_code (1 : Nat) (Option.some Jvm.ClassFile.FieldType.boolean)) ∈ wsG := rb_tin (List.mem_of_getElem? (i := 665) rfl) rfl
theorem tm_666 : (Jvm.Cond.methodLink "ReadBarrierMachineLaw" (54 : Nat) ({ cls := "ReadBarrierMachineModel", name := "start", desc := "(II)Z" } : Jvm.MethodName)) ∈ wsG := rb_tin (List.mem_of_getElem? (i := 666) (by decide +kernel)) rfl
theorem tm_667 : (Jvm.Cond.instanceMethod ({ cls := "ReadBarrierMachineModel", name := "start", desc := "(II)Z" } : Jvm.MethodName)) ∈ wsG := rb_tin (List.mem_of_getElem? (i := 667) (by decide +kernel)) rfl
theorem tm_668 : (Jvm.Cond.selects "ReadBarrierMachineModel" ({ cls := "ReadBarrierMachineModel", name := "start", desc := "(II)Z" } : Jvm.MethodName) ({ cls := "ReadBarrierMachineModel", name := "start", desc := "(II)Z" } : Jvm.MethodName)) ∈ wsG := rb_tin (List.mem_of_getElem? (i := 668) (by decide +kernel)) rfl
set_option maxRecDepth 100000 in
theorem tm_669 : (Jvm.Cond.code ({ cls := "ReadBarrierMachineModel", name := "start", desc := "(II)Z" } : Jvm.MethodName) prog_6_method_20_code (4 : Nat) (Option.some Jvm.ClassFile.FieldType.boolean)) ∈ wsG := rb_tin (List.mem_of_getElem? (i := 669) rfl) rfl
theorem tm_678 : (Jvm.Cond.methodLink "ReadBarrierMachineLaw" (58 : Nat) ({ cls := "ReadBarrierMachineModel", name := "run", desc := "(I)I" } : Jvm.MethodName)) ∈ wsG := rb_tin (List.mem_of_getElem? (i := 678) (by decide +kernel)) rfl
theorem tm_679 : (Jvm.Cond.instanceMethod ({ cls := "ReadBarrierMachineModel", name := "run", desc := "(I)I" } : Jvm.MethodName)) ∈ wsG := rb_tin (List.mem_of_getElem? (i := 679) (by decide +kernel)) rfl
theorem tm_680 : (Jvm.Cond.selects "ReadBarrierMachineModel" ({ cls := "ReadBarrierMachineModel", name := "run", desc := "(I)I" } : Jvm.MethodName) ({ cls := "ReadBarrierMachineModel", name := "run", desc := "(I)I" } : Jvm.MethodName)) ∈ wsG := rb_tin (List.mem_of_getElem? (i := 680) (by decide +kernel)) rfl
set_option maxRecDepth 100000 in
theorem tm_681 : (Jvm.Cond.code ({ cls := "ReadBarrierMachineModel", name := "run", desc := "(I)I" } : Jvm.MethodName) prog_6_method_21_code (3 : Nat) (Option.some Jvm.ClassFile.FieldType.int)) ∈ wsG := rb_tin (List.mem_of_getElem? (i := 681) rfl) rfl
theorem tm_742 : (Jvm.Cond.methodLink "ReadBarrierMachineLaw" (63 : Nat) ({ cls := "ReadBarrierMachineModel", name := "state", desc := "()I" } : Jvm.MethodName)) ∈ wsG := rb_tin (List.mem_of_getElem? (i := 742) (by decide +kernel)) rfl
theorem tm_743 : (Jvm.Cond.instanceMethod ({ cls := "ReadBarrierMachineModel", name := "state", desc := "()I" } : Jvm.MethodName)) ∈ wsG := rb_tin (List.mem_of_getElem? (i := 743) (by decide +kernel)) rfl
theorem tm_744 : (Jvm.Cond.selects "ReadBarrierMachineModel" ({ cls := "ReadBarrierMachineModel", name := "state", desc := "()I" } : Jvm.MethodName) ({ cls := "ReadBarrierMachineModel", name := "state", desc := "()I" } : Jvm.MethodName)) ∈ wsG := rb_tin (List.mem_of_getElem? (i := 744) (by decide +kernel)) rfl
set_option maxRecDepth 100000 in
theorem tm_745 : (Jvm.Cond.code ({ cls := "ReadBarrierMachineModel", name := "state", desc := "()I" } : Jvm.MethodName) prog_6_method_30_code (1 : Nat) (Option.some Jvm.ClassFile.FieldType.int)) ∈ wsG := rb_tin (List.mem_of_getElem? (i := 745) rfl) rfl
theorem tm_746 : (Jvm.Cond.methodLink "ReadBarrierMachineLaw" (67 : Nat) ({ cls := "ReadBarrierMachineModel", name := "result", desc := "()I" } : Jvm.MethodName)) ∈ wsG := rb_tin (List.mem_of_getElem? (i := 746) (by decide +kernel)) rfl
theorem tm_747 : (Jvm.Cond.instanceMethod ({ cls := "ReadBarrierMachineModel", name := "result", desc := "()I" } : Jvm.MethodName)) ∈ wsG := rb_tin (List.mem_of_getElem? (i := 747) (by decide +kernel)) rfl
theorem tm_748 : (Jvm.Cond.selects "ReadBarrierMachineModel" ({ cls := "ReadBarrierMachineModel", name := "result", desc := "()I" } : Jvm.MethodName) ({ cls := "ReadBarrierMachineModel", name := "result", desc := "()I" } : Jvm.MethodName)) ∈ wsG := rb_tin (List.mem_of_getElem? (i := 748) (by decide +kernel)) rfl
set_option maxRecDepth 100000 in
theorem tm_749 : (Jvm.Cond.code ({ cls := "ReadBarrierMachineModel", name := "result", desc := "()I" } : Jvm.MethodName) prog_6_method_31_code (1 : Nat) (Option.some Jvm.ClassFile.FieldType.int)) ∈ wsG := rb_tin (List.mem_of_getElem? (i := 749) rfl) rfl
theorem tm_750 : (Jvm.Cond.methodLink "ReadBarrierMachineLaw" (71 : Nat) ({ cls := "ReadBarrierMachineModel", name := "shown", desc := "(I)I" } : Jvm.MethodName)) ∈ wsG := rb_tin (List.mem_of_getElem? (i := 750) (by decide +kernel)) rfl
theorem tm_751 : (Jvm.Cond.instanceMethod ({ cls := "ReadBarrierMachineModel", name := "shown", desc := "(I)I" } : Jvm.MethodName)) ∈ wsG := rb_tin (List.mem_of_getElem? (i := 751) (by decide +kernel)) rfl
theorem tm_752 : (Jvm.Cond.selects "ReadBarrierMachineModel" ({ cls := "ReadBarrierMachineModel", name := "shown", desc := "(I)I" } : Jvm.MethodName) ({ cls := "ReadBarrierMachineModel", name := "shown", desc := "(I)I" } : Jvm.MethodName)) ∈ wsG := rb_tin (List.mem_of_getElem? (i := 752) (by decide +kernel)) rfl
set_option maxRecDepth 100000 in
theorem tm_753 : (Jvm.Cond.code ({ cls := "ReadBarrierMachineModel", name := "shown", desc := "(I)I" } : Jvm.MethodName) prog_6_method_32_code (2 : Nat) (Option.some Jvm.ClassFile.FieldType.int)) ∈ wsG := rb_tin (List.mem_of_getElem? (i := 753) rfl) rfl
theorem tm_754 : (Jvm.Cond.methodLink "ReadBarrierMachineLaw" (75 : Nat) ({ cls := "ReadBarrierMachineModel", name := "work", desc := "()I" } : Jvm.MethodName)) ∈ wsG := rb_tin (List.mem_of_getElem? (i := 754) (by decide +kernel)) rfl
theorem tm_755 : (Jvm.Cond.instanceMethod ({ cls := "ReadBarrierMachineModel", name := "work", desc := "()I" } : Jvm.MethodName)) ∈ wsG := rb_tin (List.mem_of_getElem? (i := 755) (by decide +kernel)) rfl
theorem tm_756 : (Jvm.Cond.selects "ReadBarrierMachineModel" ({ cls := "ReadBarrierMachineModel", name := "work", desc := "()I" } : Jvm.MethodName) ({ cls := "ReadBarrierMachineModel", name := "work", desc := "()I" } : Jvm.MethodName)) ∈ wsG := rb_tin (List.mem_of_getElem? (i := 756) (by decide +kernel)) rfl
set_option maxRecDepth 100000 in
theorem tm_757 : (Jvm.Cond.code ({ cls := "ReadBarrierMachineModel", name := "work", desc := "()I" } : Jvm.MethodName) prog_6_method_33_code (1 : Nat) (Option.some Jvm.ClassFile.FieldType.int)) ∈ wsG := rb_tin (List.mem_of_getElem? (i := 757) rfl) rfl
theorem tm_758 : (Jvm.Cond.methodLink "ReadBarrierMachineLaw" (79 : Nat) ({ cls := "ReadBarrierMachineModel", name := "used", desc := "()I" } : Jvm.MethodName)) ∈ wsG := rb_tin (List.mem_of_getElem? (i := 758) (by decide +kernel)) rfl
theorem tm_759 : (Jvm.Cond.instanceMethod ({ cls := "ReadBarrierMachineModel", name := "used", desc := "()I" } : Jvm.MethodName)) ∈ wsG := rb_tin (List.mem_of_getElem? (i := 759) (by decide +kernel)) rfl
theorem tm_760 : (Jvm.Cond.selects "ReadBarrierMachineModel" ({ cls := "ReadBarrierMachineModel", name := "used", desc := "()I" } : Jvm.MethodName) ({ cls := "ReadBarrierMachineModel", name := "used", desc := "()I" } : Jvm.MethodName)) ∈ wsG := rb_tin (List.mem_of_getElem? (i := 760) (by decide +kernel)) rfl
set_option maxRecDepth 100000 in
theorem tm_761 : (Jvm.Cond.code ({ cls := "ReadBarrierMachineModel", name := "used", desc := "()I" } : Jvm.MethodName) prog_6_method_34_code (1 : Nat) (Option.some Jvm.ClassFile.FieldType.int)) ∈ wsG := rb_tin (List.mem_of_getElem? (i := 761) rfl) rfl
theorem tm_762 : (Jvm.Cond.methodLink "ReadBarrierMachineLaw" (83 : Nat) ({ cls := "ReadBarrierMachineModel", name := "grey", desc := "()I" } : Jvm.MethodName)) ∈ wsG := rb_tin (List.mem_of_getElem? (i := 762) (by decide +kernel)) rfl
theorem tm_763 : (Jvm.Cond.instanceMethod ({ cls := "ReadBarrierMachineModel", name := "grey", desc := "()I" } : Jvm.MethodName)) ∈ wsG := rb_tin (List.mem_of_getElem? (i := 763) (by decide +kernel)) rfl
theorem tm_764 : (Jvm.Cond.selects "ReadBarrierMachineModel" ({ cls := "ReadBarrierMachineModel", name := "grey", desc := "()I" } : Jvm.MethodName) ({ cls := "ReadBarrierMachineModel", name := "grey", desc := "()I" } : Jvm.MethodName)) ∈ wsG := rb_tin (List.mem_of_getElem? (i := 764) (by decide +kernel)) rfl
set_option maxRecDepth 100000 in
theorem tm_765 : (Jvm.Cond.code ({ cls := "ReadBarrierMachineModel", name := "grey", desc := "()I" } : Jvm.MethodName) prog_6_method_35_code (3 : Nat) (Option.some Jvm.ClassFile.FieldType.int)) ∈ wsG := rb_tin (List.mem_of_getElem? (i := 765) rfl) rfl
theorem tm_766 : (Jvm.Cond.methodLink "ReadBarrierMachineLaw" (87 : Nat) ({ cls := "ReadBarrierMachineModel", name := "flips", desc := "()I" } : Jvm.MethodName)) ∈ wsG := rb_tin (List.mem_of_getElem? (i := 766) (by decide +kernel)) rfl
theorem tm_767 : (Jvm.Cond.instanceMethod ({ cls := "ReadBarrierMachineModel", name := "flips", desc := "()I" } : Jvm.MethodName)) ∈ wsG := rb_tin (List.mem_of_getElem? (i := 767) (by decide +kernel)) rfl
theorem tm_768 : (Jvm.Cond.selects "ReadBarrierMachineModel" ({ cls := "ReadBarrierMachineModel", name := "flips", desc := "()I" } : Jvm.MethodName) ({ cls := "ReadBarrierMachineModel", name := "flips", desc := "()I" } : Jvm.MethodName)) ∈ wsG := rb_tin (List.mem_of_getElem? (i := 768) (by decide +kernel)) rfl
set_option maxRecDepth 100000 in
theorem tm_769 : (Jvm.Cond.code ({ cls := "ReadBarrierMachineModel", name := "flips", desc := "()I" } : Jvm.MethodName) prog_6_method_36_code (1 : Nat) (Option.some Jvm.ClassFile.FieldType.int)) ∈ wsG := rb_tin (List.mem_of_getElem? (i := 769) rfl) rfl
theorem tm_770 : (Jvm.Cond.methodLink "ReadBarrierMachineLaw" (91 : Nat) ({ cls := "ReadBarrierMachineModel", name := "depth", desc := "()I" } : Jvm.MethodName)) ∈ wsG := rb_tin (List.mem_of_getElem? (i := 770) (by decide +kernel)) rfl
theorem tm_771 : (Jvm.Cond.instanceMethod ({ cls := "ReadBarrierMachineModel", name := "depth", desc := "()I" } : Jvm.MethodName)) ∈ wsG := rb_tin (List.mem_of_getElem? (i := 771) (by decide +kernel)) rfl
theorem tm_772 : (Jvm.Cond.selects "ReadBarrierMachineModel" ({ cls := "ReadBarrierMachineModel", name := "depth", desc := "()I" } : Jvm.MethodName) ({ cls := "ReadBarrierMachineModel", name := "depth", desc := "()I" } : Jvm.MethodName)) ∈ wsG := rb_tin (List.mem_of_getElem? (i := 772) (by decide +kernel)) rfl
set_option maxRecDepth 100000 in
theorem tm_773 : (Jvm.Cond.code ({ cls := "ReadBarrierMachineModel", name := "depth", desc := "()I" } : Jvm.MethodName) prog_6_method_37_code (4 : Nat) (Option.some Jvm.ClassFile.FieldType.int)) ∈ wsG := rb_tin (List.mem_of_getElem? (i := 773) rfl) rfl
theorem tm_774 : (Jvm.Cond.methodLink "ReadBarrierMachineLaw" (95 : Nat) ({ cls := "ReadBarrierMachineModel", name := "live", desc := "()I" } : Jvm.MethodName)) ∈ wsG := rb_tin (List.mem_of_getElem? (i := 774) (by decide +kernel)) rfl
theorem tm_775 : (Jvm.Cond.instanceMethod ({ cls := "ReadBarrierMachineModel", name := "live", desc := "()I" } : Jvm.MethodName)) ∈ wsG := rb_tin (List.mem_of_getElem? (i := 775) (by decide +kernel)) rfl
theorem tm_776 : (Jvm.Cond.selects "ReadBarrierMachineModel" ({ cls := "ReadBarrierMachineModel", name := "live", desc := "()I" } : Jvm.MethodName) ({ cls := "ReadBarrierMachineModel", name := "live", desc := "()I" } : Jvm.MethodName)) ∈ wsG := rb_tin (List.mem_of_getElem? (i := 776) (by decide +kernel)) rfl
set_option maxRecDepth 100000 in
theorem tm_777 : (Jvm.Cond.code ({ cls := "ReadBarrierMachineModel", name := "live", desc := "()I" } : Jvm.MethodName) prog_6_method_38_code (5 : Nat) (Option.some Jvm.ClassFile.FieldType.int)) ∈ wsG := rb_tin (List.mem_of_getElem? (i := 777) rfl) rfl
theorem tm_778 : (Jvm.Cond.methodLink "ReadBarrierMachineLaw" (100 : Nat) ({ cls := "ReadBarrierMachineModel", name := "kindAt", desc := "(II)I" } : Jvm.MethodName)) ∈ wsG := rb_tin (List.mem_of_getElem? (i := 778) (by decide +kernel)) rfl
theorem tm_779 : (Jvm.Cond.instanceMethod ({ cls := "ReadBarrierMachineModel", name := "kindAt", desc := "(II)I" } : Jvm.MethodName)) ∈ wsG := rb_tin (List.mem_of_getElem? (i := 779) (by decide +kernel)) rfl
theorem tm_780 : (Jvm.Cond.selects "ReadBarrierMachineModel" ({ cls := "ReadBarrierMachineModel", name := "kindAt", desc := "(II)I" } : Jvm.MethodName) ({ cls := "ReadBarrierMachineModel", name := "kindAt", desc := "(II)I" } : Jvm.MethodName)) ∈ wsG := rb_tin (List.mem_of_getElem? (i := 780) (by decide +kernel)) rfl
set_option maxRecDepth 100000 in
theorem tm_781 : (Jvm.Cond.code ({ cls := "ReadBarrierMachineModel", name := "kindAt", desc := "(II)I" } : Jvm.MethodName) prog_6_method_39_code (5 : Nat) (Option.some Jvm.ClassFile.FieldType.int)) ∈ wsG := rb_tin (List.mem_of_getElem? (i := 781) rfl) rfl
theorem tm_782 : (Jvm.Cond.methodLink "ReadBarrierMachineLaw" (104 : Nat) ({ cls := "ReadBarrierMachineModel", name := "number", desc := "(I)I" } : Jvm.MethodName)) ∈ wsG := rb_tin (List.mem_of_getElem? (i := 782) (by decide +kernel)) rfl
theorem tm_783 : (Jvm.Cond.instanceMethod ({ cls := "ReadBarrierMachineModel", name := "number", desc := "(I)I" } : Jvm.MethodName)) ∈ wsG := rb_tin (List.mem_of_getElem? (i := 783) (by decide +kernel)) rfl
theorem tm_784 : (Jvm.Cond.selects "ReadBarrierMachineModel" ({ cls := "ReadBarrierMachineModel", name := "number", desc := "(I)I" } : Jvm.MethodName) ({ cls := "ReadBarrierMachineModel", name := "number", desc := "(I)I" } : Jvm.MethodName)) ∈ wsG := rb_tin (List.mem_of_getElem? (i := 784) (by decide +kernel)) rfl
set_option maxRecDepth 100000 in
theorem tm_785 : (Jvm.Cond.code ({ cls := "ReadBarrierMachineModel", name := "number", desc := "(I)I" } : Jvm.MethodName) prog_6_method_40_code (2 : Nat) (Option.some Jvm.ClassFile.FieldType.int)) ∈ wsG := rb_tin (List.mem_of_getElem? (i := 785) rfl) rfl
theorem d_Law_law_0 : decode code 0 = .ok (.new 7, 3) := by decide +kernel
theorem d_Law_law_3 : decode code 3 = .ok (.dup, 1) := by decide +kernel
theorem d_Law_law_4 : decode code 4 = .ok (.aload_n 0, 1) := by decide +kernel
theorem d_Law_law_5 : decode code 5 = .ok (.iconst 0, 1) := by decide +kernel
theorem d_Law_law_6 : decode code 6 = .ok (.invokestatic 9, 3) := by decide +kernel
theorem d_Law_law_9 : decode code 9 = .ok (.aload_n 0, 1) := by decide +kernel
theorem d_Law_law_10 : decode code 10 = .ok (.iconst 1, 1) := by decide +kernel
theorem d_Law_law_11 : decode code 11 = .ok (.invokestatic 9, 3) := by decide +kernel
theorem d_Law_law_14 : decode code 14 = .ok (.invokespecial 15, 3) := by decide +kernel
theorem d_Law_law_17 : decode code 17 = .ok (.astore_n 1, 1) := by decide +kernel
theorem d_Law_law_18 : decode code 18 = .ok (.new 18, 3) := by decide +kernel
theorem d_Law_law_21 : decode code 21 = .ok (.dup, 1) := by decide +kernel
theorem d_Law_law_22 : decode code 22 = .ok (.aload_n 0, 1) := by decide +kernel
theorem d_Law_law_23 : decode code 23 = .ok (.iconst 0, 1) := by decide +kernel
theorem d_Law_law_24 : decode code 24 = .ok (.invokestatic 9, 3) := by decide +kernel
theorem d_Law_law_27 : decode code 27 = .ok (.aload_n 0, 1) := by decide +kernel
theorem d_Law_law_28 : decode code 28 = .ok (.iconst 1, 1) := by decide +kernel
theorem d_Law_law_29 : decode code 29 = .ok (.invokestatic 9, 3) := by decide +kernel
theorem d_Law_law_32 : decode code 32 = .ok (.invokespecial 20, 3) := by decide +kernel
theorem d_Law_law_35 : decode code 35 = .ok (.astore_n 2, 1) := by decide +kernel
theorem d_Law_law_36 : decode code 36 = .ok (.iconst 2, 1) := by decide +kernel
theorem d_Law_law_37 : decode code 37 = .ok (.istore_n 3, 1) := by decide +kernel
theorem d_Law_law_38 : decode code 38 = .ok (.iload_n 3, 1) := by decide +kernel
theorem d_Law_law_39 : decode code 39 = .ok (.aload_n 0, 1) := by decide +kernel
theorem d_Law_law_40 : decode code 40 = .ok (.arraylength, 1) := by decide +kernel
theorem d_Law_law_41 : decode code 41 = .ok (.iconst 5, 1) := by decide +kernel
theorem d_Law_law_42 : decode code 42 = .ok (.isub, 1) := by decide +kernel
theorem d_Law_law_43 : decode code 43 = .ok (.if_icmp .gt 534, 3) := by decide +kernel
theorem d_Law_law_46 : decode code 46 = .ok (.aload_n 0, 1) := by decide +kernel
theorem d_Law_law_47 : decode code 47 = .ok (.iload_n 3, 1) := by decide +kernel
theorem d_Law_law_48 : decode code 48 = .ok (.iaload, 1) := by decide +kernel
theorem d_Law_law_49 : decode code 49 = .ok (.bipush 31, 2) := by decide +kernel
theorem d_Law_law_51 : decode code 51 = .ok (.iand, 1) := by decide +kernel
theorem d_Law_law_52 : decode code 52 = .ok (.tableswitch 519 0 18 #[92, 135, 178, 201, 254, 267, 280, 313, 336, 349, 362, 385, 398, 411, 424, 437, 450, 463, 496], 92) := by decide +kernel
theorem d_Law_law_144 : decode code 144 = .ok (.aload_n 1, 1) := by decide +kernel
theorem d_Law_law_145 : decode code 145 = .ok (.aload_n 0, 1) := by decide +kernel
theorem d_Law_law_146 : decode code 146 = .ok (.iload_n 3, 1) := by decide +kernel
theorem d_Law_law_147 : decode code 147 = .ok (.iconst 1, 1) := by decide +kernel
theorem d_Law_law_148 : decode code 148 = .ok (.iadd, 1) := by decide +kernel
theorem d_Law_law_149 : decode code 149 = .ok (.iaload, 1) := by decide +kernel
theorem d_Law_law_150 : decode code 150 = .ok (.aload_n 0, 1) := by decide +kernel
theorem d_Law_law_151 : decode code 151 = .ok (.iload_n 3, 1) := by decide +kernel
theorem d_Law_law_152 : decode code 152 = .ok (.iconst 2, 1) := by decide +kernel
theorem d_Law_law_153 : decode code 153 = .ok (.iadd, 1) := by decide +kernel
theorem d_Law_law_154 : decode code 154 = .ok (.iaload, 1) := by decide +kernel
theorem d_Law_law_155 : decode code 155 = .ok (.aload_n 0, 1) := by decide +kernel
theorem d_Law_law_156 : decode code 156 = .ok (.iload_n 3, 1) := by decide +kernel
theorem d_Law_law_157 : decode code 157 = .ok (.iconst 3, 1) := by decide +kernel
theorem d_Law_law_158 : decode code 158 = .ok (.iadd, 1) := by decide +kernel
theorem d_Law_law_159 : decode code 159 = .ok (.iaload, 1) := by decide +kernel
theorem d_Law_law_160 : decode code 160 = .ok (.invokevirtual 21, 3) := by decide +kernel
theorem d_Law_law_163 : decode code 163 = .ok (.aload_n 2, 1) := by decide +kernel
theorem d_Law_law_164 : decode code 164 = .ok (.aload_n 0, 1) := by decide +kernel
theorem d_Law_law_165 : decode code 165 = .ok (.iload_n 3, 1) := by decide +kernel
theorem d_Law_law_166 : decode code 166 = .ok (.iconst 1, 1) := by decide +kernel
theorem d_Law_law_167 : decode code 167 = .ok (.iadd, 1) := by decide +kernel
theorem d_Law_law_168 : decode code 168 = .ok (.iaload, 1) := by decide +kernel
theorem d_Law_law_169 : decode code 169 = .ok (.aload_n 0, 1) := by decide +kernel
theorem d_Law_law_170 : decode code 170 = .ok (.iload_n 3, 1) := by decide +kernel
theorem d_Law_law_171 : decode code 171 = .ok (.iconst 2, 1) := by decide +kernel
theorem d_Law_law_172 : decode code 172 = .ok (.iadd, 1) := by decide +kernel
theorem d_Law_law_173 : decode code 173 = .ok (.iaload, 1) := by decide +kernel
theorem d_Law_law_174 : decode code 174 = .ok (.aload_n 0, 1) := by decide +kernel
theorem d_Law_law_175 : decode code 175 = .ok (.iload_n 3, 1) := by decide +kernel
theorem d_Law_law_176 : decode code 176 = .ok (.iconst 3, 1) := by decide +kernel
theorem d_Law_law_177 : decode code 177 = .ok (.iadd, 1) := by decide +kernel
theorem d_Law_law_178 : decode code 178 = .ok (.iaload, 1) := by decide +kernel
theorem d_Law_law_179 : decode code 179 = .ok (.invokevirtual 25, 3) := by decide +kernel
theorem d_Law_law_182 : decode code 182 = .ok (.if_icmp .eq 389, 3) := by decide +kernel
theorem d_Law_law_185 : decode code 185 = .ok (.iconst 0, 1) := by decide +kernel
theorem d_Law_law_186 : decode code 186 = .ok (.ireturn, 1) := by decide +kernel
theorem d_Law_law_187 : decode code 187 = .ok (.aload_n 1, 1) := by decide +kernel
theorem d_Law_law_188 : decode code 188 = .ok (.aload_n 0, 1) := by decide +kernel
theorem d_Law_law_189 : decode code 189 = .ok (.iload_n 3, 1) := by decide +kernel
theorem d_Law_law_190 : decode code 190 = .ok (.iconst 1, 1) := by decide +kernel
theorem d_Law_law_191 : decode code 191 = .ok (.iadd, 1) := by decide +kernel
theorem d_Law_law_192 : decode code 192 = .ok (.iaload, 1) := by decide +kernel
theorem d_Law_law_193 : decode code 193 = .ok (.aload_n 0, 1) := by decide +kernel
theorem d_Law_law_194 : decode code 194 = .ok (.iload_n 3, 1) := by decide +kernel
theorem d_Law_law_195 : decode code 195 = .ok (.iconst 2, 1) := by decide +kernel
theorem d_Law_law_196 : decode code 196 = .ok (.iadd, 1) := by decide +kernel
theorem d_Law_law_197 : decode code 197 = .ok (.iaload, 1) := by decide +kernel
theorem d_Law_law_198 : decode code 198 = .ok (.aload_n 0, 1) := by decide +kernel
theorem d_Law_law_199 : decode code 199 = .ok (.iload_n 3, 1) := by decide +kernel
theorem d_Law_law_200 : decode code 200 = .ok (.iconst 3, 1) := by decide +kernel
theorem d_Law_law_201 : decode code 201 = .ok (.iadd, 1) := by decide +kernel
theorem d_Law_law_202 : decode code 202 = .ok (.iaload, 1) := by decide +kernel
theorem d_Law_law_203 : decode code 203 = .ok (.invokevirtual 26, 3) := by decide +kernel
theorem d_Law_law_206 : decode code 206 = .ok (.aload_n 2, 1) := by decide +kernel
theorem d_Law_law_207 : decode code 207 = .ok (.aload_n 0, 1) := by decide +kernel
theorem d_Law_law_208 : decode code 208 = .ok (.iload_n 3, 1) := by decide +kernel
theorem d_Law_law_209 : decode code 209 = .ok (.iconst 1, 1) := by decide +kernel
theorem d_Law_law_210 : decode code 210 = .ok (.iadd, 1) := by decide +kernel
theorem d_Law_law_211 : decode code 211 = .ok (.iaload, 1) := by decide +kernel
theorem d_Law_law_212 : decode code 212 = .ok (.aload_n 0, 1) := by decide +kernel
theorem d_Law_law_213 : decode code 213 = .ok (.iload_n 3, 1) := by decide +kernel
theorem d_Law_law_214 : decode code 214 = .ok (.iconst 2, 1) := by decide +kernel
theorem d_Law_law_215 : decode code 215 = .ok (.iadd, 1) := by decide +kernel
theorem d_Law_law_216 : decode code 216 = .ok (.iaload, 1) := by decide +kernel
theorem d_Law_law_217 : decode code 217 = .ok (.aload_n 0, 1) := by decide +kernel
theorem d_Law_law_218 : decode code 218 = .ok (.iload_n 3, 1) := by decide +kernel
theorem d_Law_law_219 : decode code 219 = .ok (.iconst 3, 1) := by decide +kernel
theorem d_Law_law_220 : decode code 220 = .ok (.iadd, 1) := by decide +kernel
theorem d_Law_law_221 : decode code 221 = .ok (.iaload, 1) := by decide +kernel
theorem d_Law_law_222 : decode code 222 = .ok (.invokevirtual 30, 3) := by decide +kernel
theorem d_Law_law_225 : decode code 225 = .ok (.if_icmp .eq 346, 3) := by decide +kernel
theorem d_Law_law_228 : decode code 228 = .ok (.iconst 0, 1) := by decide +kernel
theorem d_Law_law_229 : decode code 229 = .ok (.ireturn, 1) := by decide +kernel
theorem d_Law_law_230 : decode code 230 = .ok (.aload_n 1, 1) := by decide +kernel
theorem d_Law_law_231 : decode code 231 = .ok (.aload_n 0, 1) := by decide +kernel
theorem d_Law_law_232 : decode code 232 = .ok (.iload_n 3, 1) := by decide +kernel
theorem d_Law_law_233 : decode code 233 = .ok (.iconst 1, 1) := by decide +kernel
theorem d_Law_law_234 : decode code 234 = .ok (.iadd, 1) := by decide +kernel
theorem d_Law_law_235 : decode code 235 = .ok (.iaload, 1) := by decide +kernel
theorem d_Law_law_236 : decode code 236 = .ok (.invokevirtual 31, 3) := by decide +kernel
theorem d_Law_law_239 : decode code 239 = .ok (.aload_n 2, 1) := by decide +kernel
theorem d_Law_law_240 : decode code 240 = .ok (.aload_n 0, 1) := by decide +kernel
theorem d_Law_law_241 : decode code 241 = .ok (.iload_n 3, 1) := by decide +kernel
theorem d_Law_law_242 : decode code 242 = .ok (.iconst 1, 1) := by decide +kernel
theorem d_Law_law_243 : decode code 243 = .ok (.iadd, 1) := by decide +kernel
theorem d_Law_law_244 : decode code 244 = .ok (.iaload, 1) := by decide +kernel
theorem d_Law_law_245 : decode code 245 = .ok (.invokevirtual 35, 3) := by decide +kernel
theorem d_Law_law_248 : decode code 248 = .ok (.if_icmp .eq 323, 3) := by decide +kernel
theorem d_Law_law_251 : decode code 251 = .ok (.iconst 0, 1) := by decide +kernel
theorem d_Law_law_252 : decode code 252 = .ok (.ireturn, 1) := by decide +kernel
theorem d_Law_law_253 : decode code 253 = .ok (.aload_n 1, 1) := by decide +kernel
theorem d_Law_law_254 : decode code 254 = .ok (.aload_n 0, 1) := by decide +kernel
theorem d_Law_law_255 : decode code 255 = .ok (.iload_n 3, 1) := by decide +kernel
theorem d_Law_law_256 : decode code 256 = .ok (.iconst 1, 1) := by decide +kernel
theorem d_Law_law_257 : decode code 257 = .ok (.iadd, 1) := by decide +kernel
theorem d_Law_law_258 : decode code 258 = .ok (.iaload, 1) := by decide +kernel
theorem d_Law_law_259 : decode code 259 = .ok (.aload_n 0, 1) := by decide +kernel
theorem d_Law_law_260 : decode code 260 = .ok (.iload_n 3, 1) := by decide +kernel
theorem d_Law_law_261 : decode code 261 = .ok (.iconst 2, 1) := by decide +kernel
theorem d_Law_law_262 : decode code 262 = .ok (.iadd, 1) := by decide +kernel
theorem d_Law_law_263 : decode code 263 = .ok (.iaload, 1) := by decide +kernel
theorem d_Law_law_264 : decode code 264 = .ok (.aload_n 0, 1) := by decide +kernel
theorem d_Law_law_265 : decode code 265 = .ok (.iload_n 3, 1) := by decide +kernel
theorem d_Law_law_266 : decode code 266 = .ok (.iconst 3, 1) := by decide +kernel
theorem d_Law_law_267 : decode code 267 = .ok (.iadd, 1) := by decide +kernel
theorem d_Law_law_268 : decode code 268 = .ok (.iaload, 1) := by decide +kernel
theorem d_Law_law_269 : decode code 269 = .ok (.aload_n 0, 1) := by decide +kernel
theorem d_Law_law_270 : decode code 270 = .ok (.iload_n 3, 1) := by decide +kernel
theorem d_Law_law_271 : decode code 271 = .ok (.iconst 4, 1) := by decide +kernel
theorem d_Law_law_272 : decode code 272 = .ok (.iadd, 1) := by decide +kernel
theorem d_Law_law_273 : decode code 273 = .ok (.iaload, 1) := by decide +kernel
theorem d_Law_law_274 : decode code 274 = .ok (.invokevirtual 36, 3) := by decide +kernel
theorem d_Law_law_277 : decode code 277 = .ok (.aload_n 2, 1) := by decide +kernel
theorem d_Law_law_278 : decode code 278 = .ok (.aload_n 0, 1) := by decide +kernel
theorem d_Law_law_279 : decode code 279 = .ok (.iload_n 3, 1) := by decide +kernel
theorem d_Law_law_280 : decode code 280 = .ok (.iconst 1, 1) := by decide +kernel
theorem d_Law_law_281 : decode code 281 = .ok (.iadd, 1) := by decide +kernel
theorem d_Law_law_282 : decode code 282 = .ok (.iaload, 1) := by decide +kernel
theorem d_Law_law_283 : decode code 283 = .ok (.aload_n 0, 1) := by decide +kernel
theorem d_Law_law_284 : decode code 284 = .ok (.iload_n 3, 1) := by decide +kernel
theorem d_Law_law_285 : decode code 285 = .ok (.iconst 2, 1) := by decide +kernel
theorem d_Law_law_286 : decode code 286 = .ok (.iadd, 1) := by decide +kernel
theorem d_Law_law_287 : decode code 287 = .ok (.iaload, 1) := by decide +kernel
theorem d_Law_law_288 : decode code 288 = .ok (.aload_n 0, 1) := by decide +kernel
theorem d_Law_law_289 : decode code 289 = .ok (.iload_n 3, 1) := by decide +kernel
theorem d_Law_law_290 : decode code 290 = .ok (.iconst 3, 1) := by decide +kernel
theorem d_Law_law_291 : decode code 291 = .ok (.iadd, 1) := by decide +kernel
theorem d_Law_law_292 : decode code 292 = .ok (.iaload, 1) := by decide +kernel
theorem d_Law_law_293 : decode code 293 = .ok (.aload_n 0, 1) := by decide +kernel
theorem d_Law_law_294 : decode code 294 = .ok (.iload_n 3, 1) := by decide +kernel
theorem d_Law_law_295 : decode code 295 = .ok (.iconst 4, 1) := by decide +kernel
theorem d_Law_law_296 : decode code 296 = .ok (.iadd, 1) := by decide +kernel
theorem d_Law_law_297 : decode code 297 = .ok (.iaload, 1) := by decide +kernel
theorem d_Law_law_298 : decode code 298 = .ok (.invokevirtual 40, 3) := by decide +kernel
theorem d_Law_law_301 : decode code 301 = .ok (.if_icmp .eq 270, 3) := by decide +kernel
theorem d_Law_law_304 : decode code 304 = .ok (.iconst 0, 1) := by decide +kernel
theorem d_Law_law_305 : decode code 305 = .ok (.ireturn, 1) := by decide +kernel
theorem d_Law_law_306 : decode code 306 = .ok (.aload_n 1, 1) := by decide +kernel
theorem d_Law_law_307 : decode code 307 = .ok (.invokevirtual 41, 3) := by decide +kernel
theorem d_Law_law_310 : decode code 310 = .ok (.aload_n 2, 1) := by decide +kernel
theorem d_Law_law_311 : decode code 311 = .ok (.invokevirtual 45, 3) := by decide +kernel
theorem d_Law_law_314 : decode code 314 = .ok (.if_icmp .eq 257, 3) := by decide +kernel
theorem d_Law_law_317 : decode code 317 = .ok (.iconst 0, 1) := by decide +kernel
theorem d_Law_law_318 : decode code 318 = .ok (.ireturn, 1) := by decide +kernel
theorem d_Law_law_319 : decode code 319 = .ok (.aload_n 1, 1) := by decide +kernel
theorem d_Law_law_320 : decode code 320 = .ok (.invokevirtual 46, 3) := by decide +kernel
theorem d_Law_law_323 : decode code 323 = .ok (.aload_n 2, 1) := by decide +kernel
theorem d_Law_law_324 : decode code 324 = .ok (.invokevirtual 49, 3) := by decide +kernel
theorem d_Law_law_327 : decode code 327 = .ok (.if_icmp .eq 244, 3) := by decide +kernel
theorem d_Law_law_330 : decode code 330 = .ok (.iconst 0, 1) := by decide +kernel
theorem d_Law_law_331 : decode code 331 = .ok (.ireturn, 1) := by decide +kernel
theorem d_Law_law_332 : decode code 332 = .ok (.aload_n 1, 1) := by decide +kernel
theorem d_Law_law_333 : decode code 333 = .ok (.aload_n 0, 1) := by decide +kernel
theorem d_Law_law_334 : decode code 334 = .ok (.iload_n 3, 1) := by decide +kernel
theorem d_Law_law_335 : decode code 335 = .ok (.iconst 1, 1) := by decide +kernel
theorem d_Law_law_336 : decode code 336 = .ok (.iadd, 1) := by decide +kernel
theorem d_Law_law_337 : decode code 337 = .ok (.iaload, 1) := by decide +kernel
theorem d_Law_law_338 : decode code 338 = .ok (.aload_n 0, 1) := by decide +kernel
theorem d_Law_law_339 : decode code 339 = .ok (.iload_n 3, 1) := by decide +kernel
theorem d_Law_law_340 : decode code 340 = .ok (.iconst 2, 1) := by decide +kernel
theorem d_Law_law_341 : decode code 341 = .ok (.iadd, 1) := by decide +kernel
theorem d_Law_law_342 : decode code 342 = .ok (.iaload, 1) := by decide +kernel
theorem d_Law_law_343 : decode code 343 = .ok (.invokevirtual 50, 3) := by decide +kernel
theorem d_Law_law_346 : decode code 346 = .ok (.aload_n 2, 1) := by decide +kernel
theorem d_Law_law_347 : decode code 347 = .ok (.aload_n 0, 1) := by decide +kernel
theorem d_Law_law_348 : decode code 348 = .ok (.iload_n 3, 1) := by decide +kernel
theorem d_Law_law_349 : decode code 349 = .ok (.iconst 1, 1) := by decide +kernel
theorem d_Law_law_350 : decode code 350 = .ok (.iadd, 1) := by decide +kernel
theorem d_Law_law_351 : decode code 351 = .ok (.iaload, 1) := by decide +kernel
theorem d_Law_law_352 : decode code 352 = .ok (.aload_n 0, 1) := by decide +kernel
theorem d_Law_law_353 : decode code 353 = .ok (.iload_n 3, 1) := by decide +kernel
theorem d_Law_law_354 : decode code 354 = .ok (.iconst 2, 1) := by decide +kernel
theorem d_Law_law_355 : decode code 355 = .ok (.iadd, 1) := by decide +kernel
theorem d_Law_law_356 : decode code 356 = .ok (.iaload, 1) := by decide +kernel
theorem d_Law_law_357 : decode code 357 = .ok (.invokevirtual 54, 3) := by decide +kernel
theorem d_Law_law_360 : decode code 360 = .ok (.if_icmp .eq 211, 3) := by decide +kernel
theorem d_Law_law_363 : decode code 363 = .ok (.iconst 0, 1) := by decide +kernel
theorem d_Law_law_364 : decode code 364 = .ok (.ireturn, 1) := by decide +kernel
theorem d_Law_law_365 : decode code 365 = .ok (.aload_n 1, 1) := by decide +kernel
theorem d_Law_law_366 : decode code 366 = .ok (.aload_n 0, 1) := by decide +kernel
theorem d_Law_law_367 : decode code 367 = .ok (.iload_n 3, 1) := by decide +kernel
theorem d_Law_law_368 : decode code 368 = .ok (.iconst 1, 1) := by decide +kernel
theorem d_Law_law_369 : decode code 369 = .ok (.iadd, 1) := by decide +kernel
theorem d_Law_law_370 : decode code 370 = .ok (.iaload, 1) := by decide +kernel
theorem d_Law_law_371 : decode code 371 = .ok (.invokevirtual 55, 3) := by decide +kernel
theorem d_Law_law_374 : decode code 374 = .ok (.aload_n 2, 1) := by decide +kernel
theorem d_Law_law_375 : decode code 375 = .ok (.aload_n 0, 1) := by decide +kernel
theorem d_Law_law_376 : decode code 376 = .ok (.iload_n 3, 1) := by decide +kernel
theorem d_Law_law_377 : decode code 377 = .ok (.iconst 1, 1) := by decide +kernel
theorem d_Law_law_378 : decode code 378 = .ok (.iadd, 1) := by decide +kernel
theorem d_Law_law_379 : decode code 379 = .ok (.iaload, 1) := by decide +kernel
theorem d_Law_law_380 : decode code 380 = .ok (.invokevirtual 58, 3) := by decide +kernel
theorem d_Law_law_383 : decode code 383 = .ok (.if_icmp .eq 188, 3) := by decide +kernel
theorem d_Law_law_386 : decode code 386 = .ok (.iconst 0, 1) := by decide +kernel
theorem d_Law_law_387 : decode code 387 = .ok (.ireturn, 1) := by decide +kernel
theorem d_Law_law_388 : decode code 388 = .ok (.aload_n 1, 1) := by decide +kernel
theorem d_Law_law_389 : decode code 389 = .ok (.invokevirtual 59, 3) := by decide +kernel
theorem d_Law_law_392 : decode code 392 = .ok (.aload_n 2, 1) := by decide +kernel
theorem d_Law_law_393 : decode code 393 = .ok (.invokevirtual 63, 3) := by decide +kernel
theorem d_Law_law_396 : decode code 396 = .ok (.if_icmp .eq 175, 3) := by decide +kernel
theorem d_Law_law_399 : decode code 399 = .ok (.iconst 0, 1) := by decide +kernel
theorem d_Law_law_400 : decode code 400 = .ok (.ireturn, 1) := by decide +kernel
theorem d_Law_law_401 : decode code 401 = .ok (.aload_n 1, 1) := by decide +kernel
theorem d_Law_law_402 : decode code 402 = .ok (.invokevirtual 64, 3) := by decide +kernel
theorem d_Law_law_405 : decode code 405 = .ok (.aload_n 2, 1) := by decide +kernel
theorem d_Law_law_406 : decode code 406 = .ok (.invokevirtual 67, 3) := by decide +kernel
theorem d_Law_law_409 : decode code 409 = .ok (.if_icmp .eq 162, 3) := by decide +kernel
theorem d_Law_law_412 : decode code 412 = .ok (.iconst 0, 1) := by decide +kernel
theorem d_Law_law_413 : decode code 413 = .ok (.ireturn, 1) := by decide +kernel
theorem d_Law_law_414 : decode code 414 = .ok (.aload_n 1, 1) := by decide +kernel
theorem d_Law_law_415 : decode code 415 = .ok (.aload_n 0, 1) := by decide +kernel
theorem d_Law_law_416 : decode code 416 = .ok (.iload_n 3, 1) := by decide +kernel
theorem d_Law_law_417 : decode code 417 = .ok (.iconst 1, 1) := by decide +kernel
theorem d_Law_law_418 : decode code 418 = .ok (.iadd, 1) := by decide +kernel
theorem d_Law_law_419 : decode code 419 = .ok (.iaload, 1) := by decide +kernel
theorem d_Law_law_420 : decode code 420 = .ok (.invokevirtual 68, 3) := by decide +kernel
theorem d_Law_law_423 : decode code 423 = .ok (.aload_n 2, 1) := by decide +kernel
theorem d_Law_law_424 : decode code 424 = .ok (.aload_n 0, 1) := by decide +kernel
theorem d_Law_law_425 : decode code 425 = .ok (.iload_n 3, 1) := by decide +kernel
theorem d_Law_law_426 : decode code 426 = .ok (.iconst 1, 1) := by decide +kernel
theorem d_Law_law_427 : decode code 427 = .ok (.iadd, 1) := by decide +kernel
theorem d_Law_law_428 : decode code 428 = .ok (.iaload, 1) := by decide +kernel
theorem d_Law_law_429 : decode code 429 = .ok (.invokevirtual 71, 3) := by decide +kernel
theorem d_Law_law_432 : decode code 432 = .ok (.if_icmp .eq 139, 3) := by decide +kernel
theorem d_Law_law_435 : decode code 435 = .ok (.iconst 0, 1) := by decide +kernel
theorem d_Law_law_436 : decode code 436 = .ok (.ireturn, 1) := by decide +kernel
theorem d_Law_law_437 : decode code 437 = .ok (.aload_n 1, 1) := by decide +kernel
theorem d_Law_law_438 : decode code 438 = .ok (.invokevirtual 72, 3) := by decide +kernel
theorem d_Law_law_441 : decode code 441 = .ok (.aload_n 2, 1) := by decide +kernel
theorem d_Law_law_442 : decode code 442 = .ok (.invokevirtual 75, 3) := by decide +kernel
theorem d_Law_law_445 : decode code 445 = .ok (.if_icmp .eq 126, 3) := by decide +kernel
theorem d_Law_law_448 : decode code 448 = .ok (.iconst 0, 1) := by decide +kernel
theorem d_Law_law_449 : decode code 449 = .ok (.ireturn, 1) := by decide +kernel
theorem d_Law_law_450 : decode code 450 = .ok (.aload_n 1, 1) := by decide +kernel
theorem d_Law_law_451 : decode code 451 = .ok (.invokevirtual 76, 3) := by decide +kernel
theorem d_Law_law_454 : decode code 454 = .ok (.aload_n 2, 1) := by decide +kernel
theorem d_Law_law_455 : decode code 455 = .ok (.invokevirtual 79, 3) := by decide +kernel
theorem d_Law_law_458 : decode code 458 = .ok (.if_icmp .eq 113, 3) := by decide +kernel
theorem d_Law_law_461 : decode code 461 = .ok (.iconst 0, 1) := by decide +kernel
theorem d_Law_law_462 : decode code 462 = .ok (.ireturn, 1) := by decide +kernel
theorem d_Law_law_463 : decode code 463 = .ok (.aload_n 1, 1) := by decide +kernel
theorem d_Law_law_464 : decode code 464 = .ok (.invokevirtual 80, 3) := by decide +kernel
theorem d_Law_law_467 : decode code 467 = .ok (.aload_n 2, 1) := by decide +kernel
theorem d_Law_law_468 : decode code 468 = .ok (.invokevirtual 83, 3) := by decide +kernel
theorem d_Law_law_471 : decode code 471 = .ok (.if_icmp .eq 100, 3) := by decide +kernel
theorem d_Law_law_474 : decode code 474 = .ok (.iconst 0, 1) := by decide +kernel
theorem d_Law_law_475 : decode code 475 = .ok (.ireturn, 1) := by decide +kernel
theorem d_Law_law_476 : decode code 476 = .ok (.aload_n 1, 1) := by decide +kernel
theorem d_Law_law_477 : decode code 477 = .ok (.invokevirtual 84, 3) := by decide +kernel
theorem d_Law_law_480 : decode code 480 = .ok (.aload_n 2, 1) := by decide +kernel
theorem d_Law_law_481 : decode code 481 = .ok (.invokevirtual 87, 3) := by decide +kernel
theorem d_Law_law_484 : decode code 484 = .ok (.if_icmp .eq 87, 3) := by decide +kernel
theorem d_Law_law_487 : decode code 487 = .ok (.iconst 0, 1) := by decide +kernel
theorem d_Law_law_488 : decode code 488 = .ok (.ireturn, 1) := by decide +kernel
theorem d_Law_law_489 : decode code 489 = .ok (.aload_n 1, 1) := by decide +kernel
theorem d_Law_law_490 : decode code 490 = .ok (.invokevirtual 88, 3) := by decide +kernel
theorem d_Law_law_493 : decode code 493 = .ok (.aload_n 2, 1) := by decide +kernel
theorem d_Law_law_494 : decode code 494 = .ok (.invokevirtual 91, 3) := by decide +kernel
theorem d_Law_law_497 : decode code 497 = .ok (.if_icmp .eq 74, 3) := by decide +kernel
theorem d_Law_law_500 : decode code 500 = .ok (.iconst 0, 1) := by decide +kernel
theorem d_Law_law_501 : decode code 501 = .ok (.ireturn, 1) := by decide +kernel
theorem d_Law_law_502 : decode code 502 = .ok (.aload_n 1, 1) := by decide +kernel
theorem d_Law_law_503 : decode code 503 = .ok (.invokevirtual 92, 3) := by decide +kernel
theorem d_Law_law_506 : decode code 506 = .ok (.aload_n 2, 1) := by decide +kernel
theorem d_Law_law_507 : decode code 507 = .ok (.invokevirtual 95, 3) := by decide +kernel
theorem d_Law_law_510 : decode code 510 = .ok (.if_icmp .eq 61, 3) := by decide +kernel
theorem d_Law_law_513 : decode code 513 = .ok (.iconst 0, 1) := by decide +kernel
theorem d_Law_law_514 : decode code 514 = .ok (.ireturn, 1) := by decide +kernel
theorem d_Law_law_515 : decode code 515 = .ok (.aload_n 1, 1) := by decide +kernel
theorem d_Law_law_516 : decode code 516 = .ok (.aload_n 0, 1) := by decide +kernel
theorem d_Law_law_517 : decode code 517 = .ok (.iload_n 3, 1) := by decide +kernel
theorem d_Law_law_518 : decode code 518 = .ok (.iconst 1, 1) := by decide +kernel
theorem d_Law_law_519 : decode code 519 = .ok (.iadd, 1) := by decide +kernel
theorem d_Law_law_520 : decode code 520 = .ok (.iaload, 1) := by decide +kernel
theorem d_Law_law_521 : decode code 521 = .ok (.aload_n 0, 1) := by decide +kernel
theorem d_Law_law_522 : decode code 522 = .ok (.iload_n 3, 1) := by decide +kernel
theorem d_Law_law_523 : decode code 523 = .ok (.iconst 2, 1) := by decide +kernel
theorem d_Law_law_524 : decode code 524 = .ok (.iadd, 1) := by decide +kernel
theorem d_Law_law_525 : decode code 525 = .ok (.iaload, 1) := by decide +kernel
theorem d_Law_law_526 : decode code 526 = .ok (.invokevirtual 96, 3) := by decide +kernel
theorem d_Law_law_529 : decode code 529 = .ok (.aload_n 2, 1) := by decide +kernel
theorem d_Law_law_530 : decode code 530 = .ok (.aload_n 0, 1) := by decide +kernel
theorem d_Law_law_531 : decode code 531 = .ok (.iload_n 3, 1) := by decide +kernel
theorem d_Law_law_532 : decode code 532 = .ok (.iconst 1, 1) := by decide +kernel
theorem d_Law_law_533 : decode code 533 = .ok (.iadd, 1) := by decide +kernel
theorem d_Law_law_534 : decode code 534 = .ok (.iaload, 1) := by decide +kernel
theorem d_Law_law_535 : decode code 535 = .ok (.aload_n 0, 1) := by decide +kernel
theorem d_Law_law_536 : decode code 536 = .ok (.iload_n 3, 1) := by decide +kernel
theorem d_Law_law_537 : decode code 537 = .ok (.iconst 2, 1) := by decide +kernel
theorem d_Law_law_538 : decode code 538 = .ok (.iadd, 1) := by decide +kernel
theorem d_Law_law_539 : decode code 539 = .ok (.iaload, 1) := by decide +kernel
theorem d_Law_law_540 : decode code 540 = .ok (.invokevirtual 100, 3) := by decide +kernel
theorem d_Law_law_543 : decode code 543 = .ok (.if_icmp .eq 28, 3) := by decide +kernel
theorem d_Law_law_546 : decode code 546 = .ok (.iconst 0, 1) := by decide +kernel
theorem d_Law_law_547 : decode code 547 = .ok (.ireturn, 1) := by decide +kernel
theorem d_Law_law_548 : decode code 548 = .ok (.aload_n 1, 1) := by decide +kernel
theorem d_Law_law_549 : decode code 549 = .ok (.aload_n 0, 1) := by decide +kernel
theorem d_Law_law_550 : decode code 550 = .ok (.iload_n 3, 1) := by decide +kernel
theorem d_Law_law_551 : decode code 551 = .ok (.iconst 1, 1) := by decide +kernel
theorem d_Law_law_552 : decode code 552 = .ok (.iadd, 1) := by decide +kernel
theorem d_Law_law_553 : decode code 553 = .ok (.iaload, 1) := by decide +kernel
theorem d_Law_law_554 : decode code 554 = .ok (.invokevirtual 101, 3) := by decide +kernel
theorem d_Law_law_557 : decode code 557 = .ok (.aload_n 2, 1) := by decide +kernel
theorem d_Law_law_558 : decode code 558 = .ok (.aload_n 0, 1) := by decide +kernel
theorem d_Law_law_559 : decode code 559 = .ok (.iload_n 3, 1) := by decide +kernel
theorem d_Law_law_560 : decode code 560 = .ok (.iconst 1, 1) := by decide +kernel
theorem d_Law_law_561 : decode code 561 = .ok (.iadd, 1) := by decide +kernel
theorem d_Law_law_562 : decode code 562 = .ok (.iaload, 1) := by decide +kernel
theorem d_Law_law_563 : decode code 563 = .ok (.invokevirtual 104, 3) := by decide +kernel
theorem d_Law_law_566 : decode code 566 = .ok (.if_icmp .eq 5, 3) := by decide +kernel
theorem d_Law_law_569 : decode code 569 = .ok (.iconst 0, 1) := by decide +kernel
theorem d_Law_law_570 : decode code 570 = .ok (.ireturn, 1) := by decide +kernel
theorem d_Law_law_571 : decode code 571 = .ok (.iinc 3 5, 3) := by decide +kernel
theorem d_Law_law_574 : decode code 574 = .ok (.goto (-536), 3) := by decide +kernel
theorem d_Law_law_577 : decode code 577 = .ok (.iconst 1, 1) := by decide +kernel
theorem d_Law_law_578 : decode code 578 = .ok (.ireturn, 1) := by decide +kernel
theorem cw_Law_21 : cV R_Law 21 y_Mach_kind b_Mach_kind 4 (some .int) 3 := ⟨tm_169, tm_166, tm_167, tm_168, tm_1, by decide +kernel⟩
theorem cw_Law_25 : cV R_Law 25 y_Mod_kind b_Mod_kind 5 (some .int) 3 := ⟨tm_634, tm_631, tm_632, tm_633, tm_6, by decide +kernel⟩
theorem cw_Law_26 : cV R_Law 26 y_Mach_bind b_Mach_bind 4 (some .boolean) 3 := ⟨tm_189, tm_186, tm_187, tm_188, tm_1, by decide +kernel⟩
theorem cw_Law_30 : cV R_Law 30 y_Mod_bind b_Mod_bind 4 (some .boolean) 3 := ⟨tm_641, tm_638, tm_639, tm_640, tm_6, by decide +kernel⟩
theorem cw_Law_31 : cV R_Law 31 y_Mach_method b_Mach_method 2 (some .int) 1 := ⟨tm_199, tm_196, tm_197, tm_198, tm_1, by decide +kernel⟩
theorem cw_Law_35 : cV R_Law 35 y_Mod_method b_Mod_method 2 (some .int) 1 := ⟨tm_649, tm_646, tm_647, tm_648, tm_6, by decide +kernel⟩
theorem cw_Law_36 : cV R_Law 36 y_Mach_code b_Mach_code 5 (some .int) 4 := ⟨tm_207, tm_204, tm_205, tm_206, tm_1, by decide +kernel⟩
theorem cw_Law_40 : cV R_Law 40 y_Mod_code b_Mod_code 7 (some .int) 4 := ⟨tm_653, tm_650, tm_651, tm_652, tm_6, by decide +kernel⟩
theorem cw_Law_41 : cV R_Law 41 y_Mach_seal b_Mach_seal 1 (some .boolean) 0 := ⟨tm_236, tm_233, tm_234, tm_235, tm_1, by decide +kernel⟩
theorem cw_Law_45 : cV R_Law 45 y_Mod_seal b_Mod_seal 5 (some .boolean) 0 := ⟨tm_661, tm_658, tm_659, tm_660, tm_6, by decide +kernel⟩
theorem cw_Law_46 : cV R_Law 46 y_Mach_drop b_Mach_drop 1 (some .boolean) 0 := ⟨tm_252, tm_249, tm_250, tm_251, tm_1, by decide +kernel⟩
theorem cw_Law_49 : cV R_Law 49 y_Mod_drop b_Mod_drop 1 (some .boolean) 0 := ⟨tm_665, tm_662, tm_663, tm_664, tm_6, by decide +kernel⟩
theorem cw_Law_50 : cV R_Law 50 y_Mach_start b_Mach_start 3 (some .boolean) 2 := ⟨tm_260, tm_257, tm_258, tm_259, tm_1, by decide +kernel⟩
theorem cw_Law_54 : cV R_Law 54 y_Mod_start b_Mod_start 4 (some .boolean) 2 := ⟨tm_669, tm_666, tm_667, tm_668, tm_6, by decide +kernel⟩
theorem cw_Law_55 : cV R_Law 55 y_Mach_run b_Mach_run 3 (some .int) 1 := ⟨tm_323, tm_320, tm_321, tm_322, tm_1, by decide +kernel⟩
theorem cw_Law_58 : cV R_Law 58 y_Mod_run b_Mod_run 3 (some .int) 1 := ⟨tm_681, tm_678, tm_679, tm_680, tm_6, by decide +kernel⟩
theorem cw_Law_59 : cV R_Law 59 y_Mach_state b_Mach_state 1 (some .int) 0 := ⟨tm_455, tm_452, tm_453, tm_454, tm_1, by decide +kernel⟩
theorem cw_Law_63 : cV R_Law 63 y_Mod_state b_Mod_state 1 (some .int) 0 := ⟨tm_745, tm_742, tm_743, tm_744, tm_6, by decide +kernel⟩
theorem cw_Law_64 : cV R_Law 64 y_Mach_result b_Mach_result 1 (some .int) 0 := ⟨tm_459, tm_456, tm_457, tm_458, tm_1, by decide +kernel⟩
theorem cw_Law_67 : cV R_Law 67 y_Mod_result b_Mod_result 1 (some .int) 0 := ⟨tm_749, tm_746, tm_747, tm_748, tm_6, by decide +kernel⟩
theorem cw_Law_68 : cV R_Law 68 y_Mach_shown b_Mach_shown 2 (some .int) 1 := ⟨tm_463, tm_460, tm_461, tm_462, tm_1, by decide +kernel⟩
theorem cw_Law_71 : cV R_Law 71 y_Mod_shown b_Mod_shown 2 (some .int) 1 := ⟨tm_753, tm_750, tm_751, tm_752, tm_6, by decide +kernel⟩
theorem cw_Law_72 : cV R_Law 72 y_Mach_work b_Mach_work 1 (some .int) 0 := ⟨tm_467, tm_464, tm_465, tm_466, tm_1, by decide +kernel⟩
theorem cw_Law_75 : cV R_Law 75 y_Mod_work b_Mod_work 1 (some .int) 0 := ⟨tm_757, tm_754, tm_755, tm_756, tm_6, by decide +kernel⟩
theorem cw_Law_76 : cV R_Law 76 y_Mach_used b_Mach_used 1 (some .int) 0 := ⟨tm_471, tm_468, tm_469, tm_470, tm_1, by decide +kernel⟩
theorem cw_Law_79 : cV R_Law 79 y_Mod_used b_Mod_used 1 (some .int) 0 := ⟨tm_761, tm_758, tm_759, tm_760, tm_6, by decide +kernel⟩
theorem cw_Law_80 : cV R_Law 80 y_Mach_grey b_Mach_grey 1 (some .int) 0 := ⟨tm_479, tm_476, tm_477, tm_478, tm_1, by decide +kernel⟩
theorem cw_Law_83 : cV R_Law 83 y_Mod_grey b_Mod_grey 3 (some .int) 0 := ⟨tm_765, tm_762, tm_763, tm_764, tm_6, by decide +kernel⟩
theorem cw_Law_84 : cV R_Law 84 y_Mach_flips b_Mach_flips 1 (some .int) 0 := ⟨tm_487, tm_484, tm_485, tm_486, tm_1, by decide +kernel⟩
theorem cw_Law_87 : cV R_Law 87 y_Mod_flips b_Mod_flips 1 (some .int) 0 := ⟨tm_769, tm_766, tm_767, tm_768, tm_6, by decide +kernel⟩
theorem cw_Law_88 : cV R_Law 88 y_Mach_depth b_Mach_depth 1 (some .int) 0 := ⟨tm_491, tm_488, tm_489, tm_490, tm_1, by decide +kernel⟩
theorem cw_Law_91 : cV R_Law 91 y_Mod_depth b_Mod_depth 4 (some .int) 0 := ⟨tm_773, tm_770, tm_771, tm_772, tm_6, by decide +kernel⟩
theorem cw_Law_92 : cV R_Law 92 y_Mach_live b_Mach_live 1 (some .int) 0 := ⟨tm_503, tm_500, tm_501, tm_502, tm_1, by decide +kernel⟩
theorem cw_Law_95 : cV R_Law 95 y_Mod_live b_Mod_live 5 (some .int) 0 := ⟨tm_777, tm_774, tm_775, tm_776, tm_6, by decide +kernel⟩
theorem cw_Law_96 : cV R_Law 96 y_Mach_kindAt b_Mach_kindAt 5 (some .int) 2 := ⟨tm_515, tm_512, tm_513, tm_514, tm_1, by decide +kernel⟩
theorem cw_Law_100 : cV R_Law 100 y_Mod_kindAt b_Mod_kindAt 5 (some .int) 2 := ⟨tm_781, tm_778, tm_779, tm_780, tm_6, by decide +kernel⟩
theorem cw_Law_101 : cV R_Law 101 y_Mach_number b_Mach_number 2 (some .int) 1 := ⟨tm_520, tm_517, tm_518, tm_519, tm_1, by decide +kernel⟩
theorem cw_Law_104 : cV R_Law 104 y_Mod_number b_Mod_number 2 (some .int) 1 := ⟨tm_785, tm_782, tm_783, tm_784, tm_6, by decide +kernel⟩
theorem cw_Law_9 : cS R_Law 9 y_Law_cell b_Law_cell 2 (some .int) 2 := ⟨tm_523, tm_521, tm_522, tm_0, by decide +kernel⟩
theorem ck_Law_15 : cK R_Law 15 y_Mach_init b_Mach_init 3 2 := ⟨tm_12, tm_10, tm_11, tm_1, rfl, by decide +kernel⟩
theorem ck_Law_20 : cK R_Law 20 y_Mod_init b_Mod_init 3 2 := ⟨tm_528, tm_526, tm_527, tm_6, rfl, by decide +kernel⟩
theorem ix_s {L j : Nat} (t : Nat) (hL : L ≤ 2562) (h : j + t < L) : vp_in (nI j + nI t) L := by
  rw [nI_add]; exact vp_in_nI h (by omega)
set_option maxHeartbeats 4000000 in
set_option maxRecDepth 100000 in
theorem law_kind {p : Program} {l : Launch} {e : Env} {s : State} {m : MethodId} {below : List Frame} {meth : Method} {c : Code} {A : Nat → Prop} {dC : Nat → ClassId} {dI : Nat → Nat → Nat} {a a2 : Nat → Nat} {cI cZ : ClassId} {tt : Nat → Nat} {b L n : Nat} {xs : Nat → Int32} {σ τ : St} {j : Nat} {ls : Array Slot} {H : Heap} {locs : List Loc} {p1 q1 : Int32 × St} (C : Cx (dC, dI) clA (tyM cI cZ) (SXl tt b L xs) p s m #[Value.ref b] meth c code 4 R_Law A) (hL : L ≤ 2562) (hj : j + 5 ≤ L) (h1 : fMach_kind (2 * n) σ (xs (nI j + nI 1).toNatClampNeg) (xs (nI j + nI 2).toNatClampNeg) (xs (nI j + nI 3).toNatClampNeg) = some p1) (h2 : fMod_kind τ (xs (nI j + nI 1).toNatClampNeg) (xs (nI j + nI 2).toNatClampNeg) (xs (nI j + nI 3).toNatClampNeg) = some q1) (h3 : p1.1 = q1.1) (hl : lv_has ls 4 [(0, .ref b), (1, .ref (a 0)), (2, .ref (a2 0)), (3, .int (nI j))]) (hI : Wi (dC, dI) clA (wX a cI (2 * n) σ ++ wM a2 cI cZ τ) s A H locs) (kk : ∀ (H : Heap) (locs : List Loc), Wi (dC, dI) clA (wX a cI (2 * n) p1.2 ++ wM a2 cI cZ q1.2) s A H locs → W p l e room_1 s m #[Value.ref b] below meth c H locs 600000 7302250 (lw_Z below #[Value.ref b] s) (F0 m 571 ls [])) : W p l e room_1 s m #[Value.ref b] below meth c H locs 600000 7302250 (lw_Z below #[Value.ref b] s) (F0 m 144 ls []) := by
  have hx := C.1
  have hb := C.2.1
  have hX := C.2.2.2.2.2.2.2.1.2
  refine lv_aload_n hx hb d_Law_law_144 rfl (lv_at hl 1 rfl) ?_
  refine lv_aload_n hx hb d_Law_law_145 rfl (lv_at hl 0 rfl) ?_
  refine lv_iload_n hx hb d_Law_law_146 rfl (lv_at hl 3 rfl) ?_
  refine lv_iconst (v := nI 1) hx hb d_Law_law_147 (by decide) ?_
  refine lv_iadd hx hb d_Law_law_148 ?_
  refine va_sld hx hb hX.1 hX.2.1 hX.2.2 hI.2.2 (ix_s 1 hL (by omega)) d_Law_law_149 ?_
  refine lv_aload_n hx hb d_Law_law_150 rfl (lv_at hl 0 rfl) ?_
  refine lv_iload_n hx hb d_Law_law_151 rfl (lv_at hl 3 rfl) ?_
  refine lv_iconst (v := nI 2) hx hb d_Law_law_152 (by decide) ?_
  refine lv_iadd hx hb d_Law_law_153 ?_
  refine va_sld hx hb hX.1 hX.2.1 hX.2.2 hI.2.2 (ix_s 2 hL (by omega)) d_Law_law_154 ?_
  refine lv_aload_n hx hb d_Law_law_155 rfl (lv_at hl 0 rfl) ?_
  refine lv_iload_n hx hb d_Law_law_156 rfl (lv_at hl 3 rfl) ?_
  refine lv_iconst (v := nI 3) hx hb d_Law_law_157 (by decide) ?_
  refine lv_iadd hx hb d_Law_law_158 ?_
  refine va_sld hx hb hX.1 hX.2.1 hX.2.2 hI.2.2 (ix_s 3 hL (by omega)) d_Law_law_159 ?_
  refine rb_callP slok sxok C.2.2.2.2.2.2.2.1.1 (C.2.2.2.2.2.1.sub [0] rfl) C (c_Mach_kind h1) cw_Law_21 ⟨Nat.le_of_ble_eq_true rfl, Nat.le_of_ble_eq_true rfl⟩ ⟨rfl, rfl⟩ isX isM (wr := wM a2 cI cZ τ) fX1 gX1 gM1 (by decide) (by decide) (by decide) (q0 := 0) (ci := 0) rfl rfl hI ⟨Nat.le_refl _, Nat.le_refl _⟩ (As := [.int (xs (nI j + nI 1).toNatClampNeg), .int (xs (nI j + nI 2).toNatClampNeg), .int (xs (nI j + nI 3).toNatClampNeg)]) rfl hl.1 (rest := []) (Nat.le_of_ble_eq_true rfl) rfl d_Law_law_160 (fun H locs hI => ?_)
  refine lv_aload_n hx hb d_Law_law_163 rfl (lv_at hl 2 rfl) ?_
  refine lv_aload_n hx hb d_Law_law_164 rfl (lv_at hl 0 rfl) ?_
  refine lv_iload_n hx hb d_Law_law_165 rfl (lv_at hl 3 rfl) ?_
  refine lv_iconst (v := nI 1) hx hb d_Law_law_166 (by decide) ?_
  refine lv_iadd hx hb d_Law_law_167 ?_
  refine va_sld hx hb hX.1 hX.2.1 hX.2.2 hI.2.2 (ix_s 1 hL (by omega)) d_Law_law_168 ?_
  refine lv_aload_n hx hb d_Law_law_169 rfl (lv_at hl 0 rfl) ?_
  refine lv_iload_n hx hb d_Law_law_170 rfl (lv_at hl 3 rfl) ?_
  refine lv_iconst (v := nI 2) hx hb d_Law_law_171 (by decide) ?_
  refine lv_iadd hx hb d_Law_law_172 ?_
  refine va_sld hx hb hX.1 hX.2.1 hX.2.2 hI.2.2 (ix_s 2 hL (by omega)) d_Law_law_173 ?_
  refine lv_aload_n hx hb d_Law_law_174 rfl (lv_at hl 0 rfl) ?_
  refine lv_iload_n hx hb d_Law_law_175 rfl (lv_at hl 3 rfl) ?_
  refine lv_iconst (v := nI 3) hx hb d_Law_law_176 (by decide) ?_
  refine lv_iadd hx hb d_Law_law_177 ?_
  refine va_sld hx hb hX.1 hX.2.1 hX.2.2 hI.2.2 (ix_s 3 hL (by omega)) d_Law_law_178 ?_
  refine rb_callP slok smok trivial C.2.2.2.2.2.1 C (c_Mod_kind h2) cw_Law_25 ⟨Nat.le_of_ble_eq_true rfl, Nat.le_of_ble_eq_true rfl⟩ ⟨rfl, rfl⟩ jsM jsX (wr := wX a cI (2 * n) p1.2) fM2 gM2 gX2 (by decide) (by decide) (by decide) (q0 := 0) (ci := 4) rfl rfl hI ⟨Nat.le_refl _, Nat.le_refl _⟩ (As := [.int (xs (nI j + nI 1).toNatClampNeg), .int (xs (nI j + nI 2).toNatClampNeg), .int (xs (nI j + nI 3).toNatClampNeg)]) rfl hl.1 (rest := [.int p1.1]) (Nat.le_of_ble_eq_true rfl) rfl d_Law_law_179 (fun H locs hI => ?_)
  refine lv_icmp_eq (tgt := 571) hx hb d_Law_law_182 (by decide) (fun _ => ?_) (fun hc => absurd h3 hc)
  exact kk _ _ hI
set_option maxHeartbeats 4000000 in
set_option maxRecDepth 100000 in
theorem law_bind {p : Program} {l : Launch} {e : Env} {s : State} {m : MethodId} {below : List Frame} {meth : Method} {c : Code} {A : Nat → Prop} {dC : Nat → ClassId} {dI : Nat → Nat → Nat} {a a2 : Nat → Nat} {cI cZ : ClassId} {tt : Nat → Nat} {b L n : Nat} {xs : Nat → Int32} {σ τ : St} {j : Nat} {ls : Array Slot} {H : Heap} {locs : List Loc} {p1 q1 : Int32 × St} (C : Cx (dC, dI) clA (tyM cI cZ) (SXl tt b L xs) p s m #[Value.ref b] meth c code 4 R_Law A) (hL : L ≤ 2562) (hj : j + 5 ≤ L) (h1 : fMach_bind (2 * n) σ (xs (nI j + nI 1).toNatClampNeg) (xs (nI j + nI 2).toNatClampNeg) (xs (nI j + nI 3).toNatClampNeg) = some p1) (h2 : fMod_bind τ (xs (nI j + nI 1).toNatClampNeg) (xs (nI j + nI 2).toNatClampNeg) (xs (nI j + nI 3).toNatClampNeg) = some q1) (h3 : p1.1 = q1.1) (hl : lv_has ls 4 [(0, .ref b), (1, .ref (a 0)), (2, .ref (a2 0)), (3, .int (nI j))]) (hI : Wi (dC, dI) clA (wX a cI (2 * n) σ ++ wM a2 cI cZ τ) s A H locs) (kk : ∀ (H : Heap) (locs : List Loc), Wi (dC, dI) clA (wX a cI (2 * n) p1.2 ++ wM a2 cI cZ q1.2) s A H locs → W p l e room_1 s m #[Value.ref b] below meth c H locs 600000 7302250 (lw_Z below #[Value.ref b] s) (F0 m 571 ls [])) : W p l e room_1 s m #[Value.ref b] below meth c H locs 600000 7302250 (lw_Z below #[Value.ref b] s) (F0 m 187 ls []) := by
  have hx := C.1
  have hb := C.2.1
  have hX := C.2.2.2.2.2.2.2.1.2
  refine lv_aload_n hx hb d_Law_law_187 rfl (lv_at hl 1 rfl) ?_
  refine lv_aload_n hx hb d_Law_law_188 rfl (lv_at hl 0 rfl) ?_
  refine lv_iload_n hx hb d_Law_law_189 rfl (lv_at hl 3 rfl) ?_
  refine lv_iconst (v := nI 1) hx hb d_Law_law_190 (by decide) ?_
  refine lv_iadd hx hb d_Law_law_191 ?_
  refine va_sld hx hb hX.1 hX.2.1 hX.2.2 hI.2.2 (ix_s 1 hL (by omega)) d_Law_law_192 ?_
  refine lv_aload_n hx hb d_Law_law_193 rfl (lv_at hl 0 rfl) ?_
  refine lv_iload_n hx hb d_Law_law_194 rfl (lv_at hl 3 rfl) ?_
  refine lv_iconst (v := nI 2) hx hb d_Law_law_195 (by decide) ?_
  refine lv_iadd hx hb d_Law_law_196 ?_
  refine va_sld hx hb hX.1 hX.2.1 hX.2.2 hI.2.2 (ix_s 2 hL (by omega)) d_Law_law_197 ?_
  refine lv_aload_n hx hb d_Law_law_198 rfl (lv_at hl 0 rfl) ?_
  refine lv_iload_n hx hb d_Law_law_199 rfl (lv_at hl 3 rfl) ?_
  refine lv_iconst (v := nI 3) hx hb d_Law_law_200 (by decide) ?_
  refine lv_iadd hx hb d_Law_law_201 ?_
  refine va_sld hx hb hX.1 hX.2.1 hX.2.2 hI.2.2 (ix_s 3 hL (by omega)) d_Law_law_202 ?_
  refine rb_callP slok sxok C.2.2.2.2.2.2.2.1.1 (C.2.2.2.2.2.1.sub [0] rfl) C (c_Mach_bind h1) cw_Law_26 ⟨Nat.le_of_ble_eq_true rfl, Nat.le_of_ble_eq_true rfl⟩ ⟨rfl, rfl⟩ isX isM (wr := wM a2 cI cZ τ) fX1 gX1 gM1 (by decide) (by decide) (by decide) (q0 := 0) (ci := 0) rfl rfl hI ⟨Nat.le_refl _, Nat.le_refl _⟩ (As := [.int (xs (nI j + nI 1).toNatClampNeg), .int (xs (nI j + nI 2).toNatClampNeg), .int (xs (nI j + nI 3).toNatClampNeg)]) rfl hl.1 (rest := []) (Nat.le_of_ble_eq_true rfl) rfl d_Law_law_203 (fun H locs hI => ?_)
  refine lv_aload_n hx hb d_Law_law_206 rfl (lv_at hl 2 rfl) ?_
  refine lv_aload_n hx hb d_Law_law_207 rfl (lv_at hl 0 rfl) ?_
  refine lv_iload_n hx hb d_Law_law_208 rfl (lv_at hl 3 rfl) ?_
  refine lv_iconst (v := nI 1) hx hb d_Law_law_209 (by decide) ?_
  refine lv_iadd hx hb d_Law_law_210 ?_
  refine va_sld hx hb hX.1 hX.2.1 hX.2.2 hI.2.2 (ix_s 1 hL (by omega)) d_Law_law_211 ?_
  refine lv_aload_n hx hb d_Law_law_212 rfl (lv_at hl 0 rfl) ?_
  refine lv_iload_n hx hb d_Law_law_213 rfl (lv_at hl 3 rfl) ?_
  refine lv_iconst (v := nI 2) hx hb d_Law_law_214 (by decide) ?_
  refine lv_iadd hx hb d_Law_law_215 ?_
  refine va_sld hx hb hX.1 hX.2.1 hX.2.2 hI.2.2 (ix_s 2 hL (by omega)) d_Law_law_216 ?_
  refine lv_aload_n hx hb d_Law_law_217 rfl (lv_at hl 0 rfl) ?_
  refine lv_iload_n hx hb d_Law_law_218 rfl (lv_at hl 3 rfl) ?_
  refine lv_iconst (v := nI 3) hx hb d_Law_law_219 (by decide) ?_
  refine lv_iadd hx hb d_Law_law_220 ?_
  refine va_sld hx hb hX.1 hX.2.1 hX.2.2 hI.2.2 (ix_s 3 hL (by omega)) d_Law_law_221 ?_
  refine rb_callP slok smok trivial C.2.2.2.2.2.1 C (c_Mod_bind h2) cw_Law_30 ⟨Nat.le_of_ble_eq_true rfl, Nat.le_of_ble_eq_true rfl⟩ ⟨rfl, rfl⟩ jsM jsX (wr := wX a cI (2 * n) p1.2) fM2 gM2 gX2 (by decide) (by decide) (by decide) (q0 := 0) (ci := 4) rfl rfl hI ⟨Nat.le_refl _, Nat.le_refl _⟩ (As := [.int (xs (nI j + nI 1).toNatClampNeg), .int (xs (nI j + nI 2).toNatClampNeg), .int (xs (nI j + nI 3).toNatClampNeg)]) rfl hl.1 (rest := [.int p1.1]) (Nat.le_of_ble_eq_true rfl) rfl d_Law_law_222 (fun H locs hI => ?_)
  refine lv_icmp_eq (tgt := 571) hx hb d_Law_law_225 (by decide) (fun _ => ?_) (fun hc => absurd h3 hc)
  exact kk _ _ hI
set_option maxHeartbeats 4000000 in
set_option maxRecDepth 100000 in
theorem law_method {p : Program} {l : Launch} {e : Env} {s : State} {m : MethodId} {below : List Frame} {meth : Method} {c : Code} {A : Nat → Prop} {dC : Nat → ClassId} {dI : Nat → Nat → Nat} {a a2 : Nat → Nat} {cI cZ : ClassId} {tt : Nat → Nat} {b L n : Nat} {xs : Nat → Int32} {σ τ : St} {j : Nat} {ls : Array Slot} {H : Heap} {locs : List Loc} {p1 q1 : Int32 × St} (C : Cx (dC, dI) clA (tyM cI cZ) (SXl tt b L xs) p s m #[Value.ref b] meth c code 4 R_Law A) (hL : L ≤ 2562) (hj : j + 5 ≤ L) (h1 : fMach_method (2 * n) σ (xs (nI j + nI 1).toNatClampNeg) = some p1) (h2 : fMod_method τ (xs (nI j + nI 1).toNatClampNeg) = some q1) (h3 : p1.1 = q1.1) (hl : lv_has ls 4 [(0, .ref b), (1, .ref (a 0)), (2, .ref (a2 0)), (3, .int (nI j))]) (hI : Wi (dC, dI) clA (wX a cI (2 * n) σ ++ wM a2 cI cZ τ) s A H locs) (kk : ∀ (H : Heap) (locs : List Loc), Wi (dC, dI) clA (wX a cI (2 * n) p1.2 ++ wM a2 cI cZ q1.2) s A H locs → W p l e room_1 s m #[Value.ref b] below meth c H locs 600000 7302250 (lw_Z below #[Value.ref b] s) (F0 m 571 ls [])) : W p l e room_1 s m #[Value.ref b] below meth c H locs 600000 7302250 (lw_Z below #[Value.ref b] s) (F0 m 230 ls []) := by
  have hx := C.1
  have hb := C.2.1
  have hX := C.2.2.2.2.2.2.2.1.2
  refine lv_aload_n hx hb d_Law_law_230 rfl (lv_at hl 1 rfl) ?_
  refine lv_aload_n hx hb d_Law_law_231 rfl (lv_at hl 0 rfl) ?_
  refine lv_iload_n hx hb d_Law_law_232 rfl (lv_at hl 3 rfl) ?_
  refine lv_iconst (v := nI 1) hx hb d_Law_law_233 (by decide) ?_
  refine lv_iadd hx hb d_Law_law_234 ?_
  refine va_sld hx hb hX.1 hX.2.1 hX.2.2 hI.2.2 (ix_s 1 hL (by omega)) d_Law_law_235 ?_
  refine rb_callP slok sxok C.2.2.2.2.2.2.2.1.1 (C.2.2.2.2.2.1.sub [0] rfl) C (c_Mach_method h1) cw_Law_31 ⟨Nat.le_of_ble_eq_true rfl, Nat.le_of_ble_eq_true rfl⟩ ⟨rfl, rfl⟩ isX isM (wr := wM a2 cI cZ τ) fX1 gX1 gM1 (by decide) (by decide) (by decide) (q0 := 0) (ci := 0) rfl rfl hI ⟨Nat.le_refl _, Nat.le_refl _⟩ (As := [.int (xs (nI j + nI 1).toNatClampNeg)]) rfl hl.1 (rest := []) (Nat.le_of_ble_eq_true rfl) rfl d_Law_law_236 (fun H locs hI => ?_)
  refine lv_aload_n hx hb d_Law_law_239 rfl (lv_at hl 2 rfl) ?_
  refine lv_aload_n hx hb d_Law_law_240 rfl (lv_at hl 0 rfl) ?_
  refine lv_iload_n hx hb d_Law_law_241 rfl (lv_at hl 3 rfl) ?_
  refine lv_iconst (v := nI 1) hx hb d_Law_law_242 (by decide) ?_
  refine lv_iadd hx hb d_Law_law_243 ?_
  refine va_sld hx hb hX.1 hX.2.1 hX.2.2 hI.2.2 (ix_s 1 hL (by omega)) d_Law_law_244 ?_
  refine rb_callP slok smok trivial C.2.2.2.2.2.1 C (c_Mod_method h2) cw_Law_35 ⟨Nat.le_of_ble_eq_true rfl, Nat.le_of_ble_eq_true rfl⟩ ⟨rfl, rfl⟩ jsM jsX (wr := wX a cI (2 * n) p1.2) fM2 gM2 gX2 (by decide) (by decide) (by decide) (q0 := 0) (ci := 4) rfl rfl hI ⟨Nat.le_refl _, Nat.le_refl _⟩ (As := [.int (xs (nI j + nI 1).toNatClampNeg)]) rfl hl.1 (rest := [.int p1.1]) (Nat.le_of_ble_eq_true rfl) rfl d_Law_law_245 (fun H locs hI => ?_)
  refine lv_icmp_eq (tgt := 571) hx hb d_Law_law_248 (by decide) (fun _ => ?_) (fun hc => absurd h3 hc)
  exact kk _ _ hI
set_option maxHeartbeats 4000000 in
set_option maxRecDepth 100000 in
theorem law_code {p : Program} {l : Launch} {e : Env} {s : State} {m : MethodId} {below : List Frame} {meth : Method} {c : Code} {A : Nat → Prop} {dC : Nat → ClassId} {dI : Nat → Nat → Nat} {a a2 : Nat → Nat} {cI cZ : ClassId} {tt : Nat → Nat} {b L n : Nat} {xs : Nat → Int32} {σ τ : St} {j : Nat} {ls : Array Slot} {H : Heap} {locs : List Loc} {p1 q1 : Int32 × St} (C : Cx (dC, dI) clA (tyM cI cZ) (SXl tt b L xs) p s m #[Value.ref b] meth c code 4 R_Law A) (hL : L ≤ 2562) (hj : j + 5 ≤ L) (h1 : fMach_code (2 * n) σ (xs (nI j + nI 1).toNatClampNeg) (xs (nI j + nI 2).toNatClampNeg) (xs (nI j + nI 3).toNatClampNeg) (xs (nI j + nI 4).toNatClampNeg) = some p1) (h2 : fMod_code τ (xs (nI j + nI 1).toNatClampNeg) (xs (nI j + nI 2).toNatClampNeg) (xs (nI j + nI 3).toNatClampNeg) (xs (nI j + nI 4).toNatClampNeg) = some q1) (h3 : p1.1 = q1.1) (hl : lv_has ls 4 [(0, .ref b), (1, .ref (a 0)), (2, .ref (a2 0)), (3, .int (nI j))]) (hI : Wi (dC, dI) clA (wX a cI (2 * n) σ ++ wM a2 cI cZ τ) s A H locs) (kk : ∀ (H : Heap) (locs : List Loc), Wi (dC, dI) clA (wX a cI (2 * n) p1.2 ++ wM a2 cI cZ q1.2) s A H locs → W p l e room_1 s m #[Value.ref b] below meth c H locs 600000 7302250 (lw_Z below #[Value.ref b] s) (F0 m 571 ls [])) : W p l e room_1 s m #[Value.ref b] below meth c H locs 600000 7302250 (lw_Z below #[Value.ref b] s) (F0 m 253 ls []) := by
  have hx := C.1
  have hb := C.2.1
  have hX := C.2.2.2.2.2.2.2.1.2
  refine lv_aload_n hx hb d_Law_law_253 rfl (lv_at hl 1 rfl) ?_
  refine lv_aload_n hx hb d_Law_law_254 rfl (lv_at hl 0 rfl) ?_
  refine lv_iload_n hx hb d_Law_law_255 rfl (lv_at hl 3 rfl) ?_
  refine lv_iconst (v := nI 1) hx hb d_Law_law_256 (by decide) ?_
  refine lv_iadd hx hb d_Law_law_257 ?_
  refine va_sld hx hb hX.1 hX.2.1 hX.2.2 hI.2.2 (ix_s 1 hL (by omega)) d_Law_law_258 ?_
  refine lv_aload_n hx hb d_Law_law_259 rfl (lv_at hl 0 rfl) ?_
  refine lv_iload_n hx hb d_Law_law_260 rfl (lv_at hl 3 rfl) ?_
  refine lv_iconst (v := nI 2) hx hb d_Law_law_261 (by decide) ?_
  refine lv_iadd hx hb d_Law_law_262 ?_
  refine va_sld hx hb hX.1 hX.2.1 hX.2.2 hI.2.2 (ix_s 2 hL (by omega)) d_Law_law_263 ?_
  refine lv_aload_n hx hb d_Law_law_264 rfl (lv_at hl 0 rfl) ?_
  refine lv_iload_n hx hb d_Law_law_265 rfl (lv_at hl 3 rfl) ?_
  refine lv_iconst (v := nI 3) hx hb d_Law_law_266 (by decide) ?_
  refine lv_iadd hx hb d_Law_law_267 ?_
  refine va_sld hx hb hX.1 hX.2.1 hX.2.2 hI.2.2 (ix_s 3 hL (by omega)) d_Law_law_268 ?_
  refine lv_aload_n hx hb d_Law_law_269 rfl (lv_at hl 0 rfl) ?_
  refine lv_iload_n hx hb d_Law_law_270 rfl (lv_at hl 3 rfl) ?_
  refine lv_iconst (v := nI 4) hx hb d_Law_law_271 (by decide) ?_
  refine lv_iadd hx hb d_Law_law_272 ?_
  refine va_sld hx hb hX.1 hX.2.1 hX.2.2 hI.2.2 (ix_s 4 hL (by omega)) d_Law_law_273 ?_
  refine rb_callP slok sxok C.2.2.2.2.2.2.2.1.1 (C.2.2.2.2.2.1.sub [0] rfl) C (c_Mach_code h1) cw_Law_36 ⟨Nat.le_of_ble_eq_true rfl, Nat.le_of_ble_eq_true rfl⟩ ⟨rfl, rfl⟩ isX isM (wr := wM a2 cI cZ τ) fX1 gX1 gM1 (by decide) (by decide) (by decide) (q0 := 0) (ci := 0) rfl rfl hI ⟨Nat.le_refl _, Nat.le_refl _⟩ (As := [.int (xs (nI j + nI 1).toNatClampNeg), .int (xs (nI j + nI 2).toNatClampNeg), .int (xs (nI j + nI 3).toNatClampNeg), .int (xs (nI j + nI 4).toNatClampNeg)]) rfl hl.1 (rest := []) (Nat.le_of_ble_eq_true rfl) rfl d_Law_law_274 (fun H locs hI => ?_)
  refine lv_aload_n hx hb d_Law_law_277 rfl (lv_at hl 2 rfl) ?_
  refine lv_aload_n hx hb d_Law_law_278 rfl (lv_at hl 0 rfl) ?_
  refine lv_iload_n hx hb d_Law_law_279 rfl (lv_at hl 3 rfl) ?_
  refine lv_iconst (v := nI 1) hx hb d_Law_law_280 (by decide) ?_
  refine lv_iadd hx hb d_Law_law_281 ?_
  refine va_sld hx hb hX.1 hX.2.1 hX.2.2 hI.2.2 (ix_s 1 hL (by omega)) d_Law_law_282 ?_
  refine lv_aload_n hx hb d_Law_law_283 rfl (lv_at hl 0 rfl) ?_
  refine lv_iload_n hx hb d_Law_law_284 rfl (lv_at hl 3 rfl) ?_
  refine lv_iconst (v := nI 2) hx hb d_Law_law_285 (by decide) ?_
  refine lv_iadd hx hb d_Law_law_286 ?_
  refine va_sld hx hb hX.1 hX.2.1 hX.2.2 hI.2.2 (ix_s 2 hL (by omega)) d_Law_law_287 ?_
  refine lv_aload_n hx hb d_Law_law_288 rfl (lv_at hl 0 rfl) ?_
  refine lv_iload_n hx hb d_Law_law_289 rfl (lv_at hl 3 rfl) ?_
  refine lv_iconst (v := nI 3) hx hb d_Law_law_290 (by decide) ?_
  refine lv_iadd hx hb d_Law_law_291 ?_
  refine va_sld hx hb hX.1 hX.2.1 hX.2.2 hI.2.2 (ix_s 3 hL (by omega)) d_Law_law_292 ?_
  refine lv_aload_n hx hb d_Law_law_293 rfl (lv_at hl 0 rfl) ?_
  refine lv_iload_n hx hb d_Law_law_294 rfl (lv_at hl 3 rfl) ?_
  refine lv_iconst (v := nI 4) hx hb d_Law_law_295 (by decide) ?_
  refine lv_iadd hx hb d_Law_law_296 ?_
  refine va_sld hx hb hX.1 hX.2.1 hX.2.2 hI.2.2 (ix_s 4 hL (by omega)) d_Law_law_297 ?_
  refine rb_callP slok smok trivial C.2.2.2.2.2.1 C (c_Mod_code h2) cw_Law_40 ⟨Nat.le_of_ble_eq_true rfl, Nat.le_of_ble_eq_true rfl⟩ ⟨rfl, rfl⟩ jsM jsX (wr := wX a cI (2 * n) p1.2) fM2 gM2 gX2 (by decide) (by decide) (by decide) (q0 := 0) (ci := 4) rfl rfl hI ⟨Nat.le_refl _, Nat.le_refl _⟩ (As := [.int (xs (nI j + nI 1).toNatClampNeg), .int (xs (nI j + nI 2).toNatClampNeg), .int (xs (nI j + nI 3).toNatClampNeg), .int (xs (nI j + nI 4).toNatClampNeg)]) rfl hl.1 (rest := [.int p1.1]) (Nat.le_of_ble_eq_true rfl) rfl d_Law_law_298 (fun H locs hI => ?_)
  refine lv_icmp_eq (tgt := 571) hx hb d_Law_law_301 (by decide) (fun _ => ?_) (fun hc => absurd h3 hc)
  exact kk _ _ hI
set_option maxHeartbeats 4000000 in
set_option maxRecDepth 100000 in
theorem law_seal {p : Program} {l : Launch} {e : Env} {s : State} {m : MethodId} {below : List Frame} {meth : Method} {c : Code} {A : Nat → Prop} {dC : Nat → ClassId} {dI : Nat → Nat → Nat} {a a2 : Nat → Nat} {cI cZ : ClassId} {tt : Nat → Nat} {b L n : Nat} {xs : Nat → Int32} {σ τ : St} {j : Nat} {ls : Array Slot} {H : Heap} {locs : List Loc} {p1 q1 : Int32 × St} (C : Cx (dC, dI) clA (tyM cI cZ) (SXl tt b L xs) p s m #[Value.ref b] meth c code 4 R_Law A) (hL : L ≤ 2562) (hj : j + 5 ≤ L) (h1 : fMach_seal (2 * n) σ = some p1) (h2 : fMod_seal τ = some q1) (h3 : p1.1 = q1.1) (hl : lv_has ls 4 [(0, .ref b), (1, .ref (a 0)), (2, .ref (a2 0)), (3, .int (nI j))]) (hI : Wi (dC, dI) clA (wX a cI (2 * n) σ ++ wM a2 cI cZ τ) s A H locs) (kk : ∀ (H : Heap) (locs : List Loc), Wi (dC, dI) clA (wX a cI (2 * n) p1.2 ++ wM a2 cI cZ q1.2) s A H locs → W p l e room_1 s m #[Value.ref b] below meth c H locs 600000 7302250 (lw_Z below #[Value.ref b] s) (F0 m 571 ls [])) : W p l e room_1 s m #[Value.ref b] below meth c H locs 600000 7302250 (lw_Z below #[Value.ref b] s) (F0 m 306 ls []) := by
  have hx := C.1
  have hb := C.2.1
  have hX := C.2.2.2.2.2.2.2.1.2
  refine lv_aload_n hx hb d_Law_law_306 rfl (lv_at hl 1 rfl) ?_
  refine rb_callP slok sxok C.2.2.2.2.2.2.2.1.1 (C.2.2.2.2.2.1.sub [0] rfl) C (c_Mach_seal h1) cw_Law_41 ⟨Nat.le_of_ble_eq_true rfl, Nat.le_of_ble_eq_true rfl⟩ ⟨rfl, rfl⟩ isX isM (wr := wM a2 cI cZ τ) fX1 gX1 gM1 (by decide) (by decide) (by decide) (q0 := 0) (ci := 0) rfl rfl hI ⟨Nat.le_refl _, Nat.le_refl _⟩ (As := []) rfl hl.1 (rest := []) (Nat.le_of_ble_eq_true rfl) rfl d_Law_law_307 (fun H locs hI => ?_)
  refine lv_aload_n hx hb d_Law_law_310 rfl (lv_at hl 2 rfl) ?_
  refine rb_callP slok smok trivial C.2.2.2.2.2.1 C (c_Mod_seal h2) cw_Law_45 ⟨Nat.le_of_ble_eq_true rfl, Nat.le_of_ble_eq_true rfl⟩ ⟨rfl, rfl⟩ jsM jsX (wr := wX a cI (2 * n) p1.2) fM2 gM2 gX2 (by decide) (by decide) (by decide) (q0 := 0) (ci := 4) rfl rfl hI ⟨Nat.le_refl _, Nat.le_refl _⟩ (As := []) rfl hl.1 (rest := [.int p1.1]) (Nat.le_of_ble_eq_true rfl) rfl d_Law_law_311 (fun H locs hI => ?_)
  refine lv_icmp_eq (tgt := 571) hx hb d_Law_law_314 (by decide) (fun _ => ?_) (fun hc => absurd h3 hc)
  exact kk _ _ hI
set_option maxHeartbeats 4000000 in
set_option maxRecDepth 100000 in
theorem law_drop {p : Program} {l : Launch} {e : Env} {s : State} {m : MethodId} {below : List Frame} {meth : Method} {c : Code} {A : Nat → Prop} {dC : Nat → ClassId} {dI : Nat → Nat → Nat} {a a2 : Nat → Nat} {cI cZ : ClassId} {tt : Nat → Nat} {b L n : Nat} {xs : Nat → Int32} {σ τ : St} {j : Nat} {ls : Array Slot} {H : Heap} {locs : List Loc} {p1 q1 : Int32 × St} (C : Cx (dC, dI) clA (tyM cI cZ) (SXl tt b L xs) p s m #[Value.ref b] meth c code 4 R_Law A) (hL : L ≤ 2562) (hj : j + 5 ≤ L) (h1 : fMach_drop (2 * n) σ = some p1) (h2 : fMod_drop τ = some q1) (h3 : p1.1 = q1.1) (hl : lv_has ls 4 [(0, .ref b), (1, .ref (a 0)), (2, .ref (a2 0)), (3, .int (nI j))]) (hI : Wi (dC, dI) clA (wX a cI (2 * n) σ ++ wM a2 cI cZ τ) s A H locs) (kk : ∀ (H : Heap) (locs : List Loc), Wi (dC, dI) clA (wX a cI (2 * n) p1.2 ++ wM a2 cI cZ q1.2) s A H locs → W p l e room_1 s m #[Value.ref b] below meth c H locs 600000 7302250 (lw_Z below #[Value.ref b] s) (F0 m 571 ls [])) : W p l e room_1 s m #[Value.ref b] below meth c H locs 600000 7302250 (lw_Z below #[Value.ref b] s) (F0 m 319 ls []) := by
  have hx := C.1
  have hb := C.2.1
  have hX := C.2.2.2.2.2.2.2.1.2
  refine lv_aload_n hx hb d_Law_law_319 rfl (lv_at hl 1 rfl) ?_
  refine rb_callP slok sxok C.2.2.2.2.2.2.2.1.1 (C.2.2.2.2.2.1.sub [0] rfl) C (c_Mach_drop h1) cw_Law_46 ⟨Nat.le_of_ble_eq_true rfl, Nat.le_of_ble_eq_true rfl⟩ ⟨rfl, rfl⟩ isX isM (wr := wM a2 cI cZ τ) fX1 gX1 gM1 (by decide) (by decide) (by decide) (q0 := 0) (ci := 0) rfl rfl hI ⟨Nat.le_refl _, Nat.le_refl _⟩ (As := []) rfl hl.1 (rest := []) (Nat.le_of_ble_eq_true rfl) rfl d_Law_law_320 (fun H locs hI => ?_)
  refine lv_aload_n hx hb d_Law_law_323 rfl (lv_at hl 2 rfl) ?_
  refine rb_callP slok smok trivial C.2.2.2.2.2.1 C (c_Mod_drop h2) cw_Law_49 ⟨Nat.le_of_ble_eq_true rfl, Nat.le_of_ble_eq_true rfl⟩ ⟨rfl, rfl⟩ jsM jsX (wr := wX a cI (2 * n) p1.2) fM2 gM2 gX2 (by decide) (by decide) (by decide) (q0 := 0) (ci := 4) rfl rfl hI ⟨Nat.le_refl _, Nat.le_refl _⟩ (As := []) rfl hl.1 (rest := [.int p1.1]) (Nat.le_of_ble_eq_true rfl) rfl d_Law_law_324 (fun H locs hI => ?_)
  refine lv_icmp_eq (tgt := 571) hx hb d_Law_law_327 (by decide) (fun _ => ?_) (fun hc => absurd h3 hc)
  exact kk _ _ hI
set_option maxHeartbeats 4000000 in
set_option maxRecDepth 100000 in
theorem law_start {p : Program} {l : Launch} {e : Env} {s : State} {m : MethodId} {below : List Frame} {meth : Method} {c : Code} {A : Nat → Prop} {dC : Nat → ClassId} {dI : Nat → Nat → Nat} {a a2 : Nat → Nat} {cI cZ : ClassId} {tt : Nat → Nat} {b L n : Nat} {xs : Nat → Int32} {σ τ : St} {j : Nat} {ls : Array Slot} {H : Heap} {locs : List Loc} {p1 q1 : Int32 × St} (C : Cx (dC, dI) clA (tyM cI cZ) (SXl tt b L xs) p s m #[Value.ref b] meth c code 4 R_Law A) (hL : L ≤ 2562) (hj : j + 5 ≤ L) (h1 : fMach_start (2 * n) σ (xs (nI j + nI 1).toNatClampNeg) (xs (nI j + nI 2).toNatClampNeg) = some p1) (h2 : fMod_start τ (xs (nI j + nI 1).toNatClampNeg) (xs (nI j + nI 2).toNatClampNeg) = some q1) (h3 : p1.1 = q1.1) (hl : lv_has ls 4 [(0, .ref b), (1, .ref (a 0)), (2, .ref (a2 0)), (3, .int (nI j))]) (hI : Wi (dC, dI) clA (wX a cI (2 * n) σ ++ wM a2 cI cZ τ) s A H locs) (kk : ∀ (H : Heap) (locs : List Loc), Wi (dC, dI) clA (wX a cI (2 * n) p1.2 ++ wM a2 cI cZ q1.2) s A H locs → W p l e room_1 s m #[Value.ref b] below meth c H locs 600000 7302250 (lw_Z below #[Value.ref b] s) (F0 m 571 ls [])) : W p l e room_1 s m #[Value.ref b] below meth c H locs 600000 7302250 (lw_Z below #[Value.ref b] s) (F0 m 332 ls []) := by
  have hx := C.1
  have hb := C.2.1
  have hX := C.2.2.2.2.2.2.2.1.2
  refine lv_aload_n hx hb d_Law_law_332 rfl (lv_at hl 1 rfl) ?_
  refine lv_aload_n hx hb d_Law_law_333 rfl (lv_at hl 0 rfl) ?_
  refine lv_iload_n hx hb d_Law_law_334 rfl (lv_at hl 3 rfl) ?_
  refine lv_iconst (v := nI 1) hx hb d_Law_law_335 (by decide) ?_
  refine lv_iadd hx hb d_Law_law_336 ?_
  refine va_sld hx hb hX.1 hX.2.1 hX.2.2 hI.2.2 (ix_s 1 hL (by omega)) d_Law_law_337 ?_
  refine lv_aload_n hx hb d_Law_law_338 rfl (lv_at hl 0 rfl) ?_
  refine lv_iload_n hx hb d_Law_law_339 rfl (lv_at hl 3 rfl) ?_
  refine lv_iconst (v := nI 2) hx hb d_Law_law_340 (by decide) ?_
  refine lv_iadd hx hb d_Law_law_341 ?_
  refine va_sld hx hb hX.1 hX.2.1 hX.2.2 hI.2.2 (ix_s 2 hL (by omega)) d_Law_law_342 ?_
  refine rb_callP slok sxok C.2.2.2.2.2.2.2.1.1 (C.2.2.2.2.2.1.sub [0] rfl) C (c_Mach_start h1) cw_Law_50 ⟨Nat.le_of_ble_eq_true rfl, Nat.le_of_ble_eq_true rfl⟩ ⟨rfl, rfl⟩ isX isM (wr := wM a2 cI cZ τ) fX1 gX1 gM1 (by decide) (by decide) (by decide) (q0 := 0) (ci := 0) rfl rfl hI ⟨Nat.le_refl _, Nat.le_refl _⟩ (As := [.int (xs (nI j + nI 1).toNatClampNeg), .int (xs (nI j + nI 2).toNatClampNeg)]) rfl hl.1 (rest := []) (Nat.le_of_ble_eq_true rfl) rfl d_Law_law_343 (fun H locs hI => ?_)
  refine lv_aload_n hx hb d_Law_law_346 rfl (lv_at hl 2 rfl) ?_
  refine lv_aload_n hx hb d_Law_law_347 rfl (lv_at hl 0 rfl) ?_
  refine lv_iload_n hx hb d_Law_law_348 rfl (lv_at hl 3 rfl) ?_
  refine lv_iconst (v := nI 1) hx hb d_Law_law_349 (by decide) ?_
  refine lv_iadd hx hb d_Law_law_350 ?_
  refine va_sld hx hb hX.1 hX.2.1 hX.2.2 hI.2.2 (ix_s 1 hL (by omega)) d_Law_law_351 ?_
  refine lv_aload_n hx hb d_Law_law_352 rfl (lv_at hl 0 rfl) ?_
  refine lv_iload_n hx hb d_Law_law_353 rfl (lv_at hl 3 rfl) ?_
  refine lv_iconst (v := nI 2) hx hb d_Law_law_354 (by decide) ?_
  refine lv_iadd hx hb d_Law_law_355 ?_
  refine va_sld hx hb hX.1 hX.2.1 hX.2.2 hI.2.2 (ix_s 2 hL (by omega)) d_Law_law_356 ?_
  refine rb_callP slok smok trivial C.2.2.2.2.2.1 C (c_Mod_start h2) cw_Law_54 ⟨Nat.le_of_ble_eq_true rfl, Nat.le_of_ble_eq_true rfl⟩ ⟨rfl, rfl⟩ jsM jsX (wr := wX a cI (2 * n) p1.2) fM2 gM2 gX2 (by decide) (by decide) (by decide) (q0 := 0) (ci := 4) rfl rfl hI ⟨Nat.le_refl _, Nat.le_refl _⟩ (As := [.int (xs (nI j + nI 1).toNatClampNeg), .int (xs (nI j + nI 2).toNatClampNeg)]) rfl hl.1 (rest := [.int p1.1]) (Nat.le_of_ble_eq_true rfl) rfl d_Law_law_357 (fun H locs hI => ?_)
  refine lv_icmp_eq (tgt := 571) hx hb d_Law_law_360 (by decide) (fun _ => ?_) (fun hc => absurd h3 hc)
  exact kk _ _ hI
set_option maxHeartbeats 4000000 in
set_option maxRecDepth 100000 in
theorem law_run {p : Program} {l : Launch} {e : Env} {s : State} {m : MethodId} {below : List Frame} {meth : Method} {c : Code} {A : Nat → Prop} {dC : Nat → ClassId} {dI : Nat → Nat → Nat} {a a2 : Nat → Nat} {cI cZ : ClassId} {tt : Nat → Nat} {b L n : Nat} {xs : Nat → Int32} {σ τ : St} {j : Nat} {ls : Array Slot} {H : Heap} {locs : List Loc} {p1 q1 : Int32 × St} (C : Cx (dC, dI) clA (tyM cI cZ) (SXl tt b L xs) p s m #[Value.ref b] meth c code 4 R_Law A) (hL : L ≤ 2562) (hj : j + 5 ≤ L) (h1 : fMach_run (2 * n) σ (xs (nI j + nI 1).toNatClampNeg) = some p1) (h2 : fMod_run τ (xs (nI j + nI 1).toNatClampNeg) = some q1) (h3 : p1.1 = q1.1) (hl : lv_has ls 4 [(0, .ref b), (1, .ref (a 0)), (2, .ref (a2 0)), (3, .int (nI j))]) (hI : Wi (dC, dI) clA (wX a cI (2 * n) σ ++ wM a2 cI cZ τ) s A H locs) (kk : ∀ (H : Heap) (locs : List Loc), Wi (dC, dI) clA (wX a cI (2 * n) p1.2 ++ wM a2 cI cZ q1.2) s A H locs → W p l e room_1 s m #[Value.ref b] below meth c H locs 600000 7302250 (lw_Z below #[Value.ref b] s) (F0 m 571 ls [])) : W p l e room_1 s m #[Value.ref b] below meth c H locs 600000 7302250 (lw_Z below #[Value.ref b] s) (F0 m 365 ls []) := by
  have hx := C.1
  have hb := C.2.1
  have hX := C.2.2.2.2.2.2.2.1.2
  refine lv_aload_n hx hb d_Law_law_365 rfl (lv_at hl 1 rfl) ?_
  refine lv_aload_n hx hb d_Law_law_366 rfl (lv_at hl 0 rfl) ?_
  refine lv_iload_n hx hb d_Law_law_367 rfl (lv_at hl 3 rfl) ?_
  refine lv_iconst (v := nI 1) hx hb d_Law_law_368 (by decide) ?_
  refine lv_iadd hx hb d_Law_law_369 ?_
  refine va_sld hx hb hX.1 hX.2.1 hX.2.2 hI.2.2 (ix_s 1 hL (by omega)) d_Law_law_370 ?_
  refine rb_callP slok sxok C.2.2.2.2.2.2.2.1.1 (C.2.2.2.2.2.1.sub [0] rfl) C (c_Mach_run h1) cw_Law_55 ⟨Nat.le_of_ble_eq_true rfl, Nat.le_of_ble_eq_true rfl⟩ ⟨rfl, rfl⟩ isX isM (wr := wM a2 cI cZ τ) fX1 gX1 gM1 (by decide) (by decide) (by decide) (q0 := 0) (ci := 0) rfl rfl hI ⟨Nat.le_refl _, Nat.le_refl _⟩ (As := [.int (xs (nI j + nI 1).toNatClampNeg)]) rfl hl.1 (rest := []) (Nat.le_of_ble_eq_true rfl) rfl d_Law_law_371 (fun H locs hI => ?_)
  refine lv_aload_n hx hb d_Law_law_374 rfl (lv_at hl 2 rfl) ?_
  refine lv_aload_n hx hb d_Law_law_375 rfl (lv_at hl 0 rfl) ?_
  refine lv_iload_n hx hb d_Law_law_376 rfl (lv_at hl 3 rfl) ?_
  refine lv_iconst (v := nI 1) hx hb d_Law_law_377 (by decide) ?_
  refine lv_iadd hx hb d_Law_law_378 ?_
  refine va_sld hx hb hX.1 hX.2.1 hX.2.2 hI.2.2 (ix_s 1 hL (by omega)) d_Law_law_379 ?_
  refine rb_callP slok smok trivial C.2.2.2.2.2.1 C (c_Mod_run h2) cw_Law_58 ⟨Nat.le_of_ble_eq_true rfl, Nat.le_of_ble_eq_true rfl⟩ ⟨rfl, rfl⟩ jsM jsX (wr := wX a cI (2 * n) p1.2) fM2 gM2 gX2 (by decide) (by decide) (by decide) (q0 := 0) (ci := 4) rfl rfl hI ⟨Nat.le_refl _, Nat.le_refl _⟩ (As := [.int (xs (nI j + nI 1).toNatClampNeg)]) rfl hl.1 (rest := [.int p1.1]) (Nat.le_of_ble_eq_true rfl) rfl d_Law_law_380 (fun H locs hI => ?_)
  refine lv_icmp_eq (tgt := 571) hx hb d_Law_law_383 (by decide) (fun _ => ?_) (fun hc => absurd h3 hc)
  exact kk _ _ hI
set_option maxHeartbeats 4000000 in
set_option maxRecDepth 100000 in
theorem law_state {p : Program} {l : Launch} {e : Env} {s : State} {m : MethodId} {below : List Frame} {meth : Method} {c : Code} {A : Nat → Prop} {dC : Nat → ClassId} {dI : Nat → Nat → Nat} {a a2 : Nat → Nat} {cI cZ : ClassId} {tt : Nat → Nat} {b L n : Nat} {xs : Nat → Int32} {σ τ : St} {j : Nat} {ls : Array Slot} {H : Heap} {locs : List Loc} {p1 q1 : Int32 × St} (C : Cx (dC, dI) clA (tyM cI cZ) (SXl tt b L xs) p s m #[Value.ref b] meth c code 4 R_Law A) (hL : L ≤ 2562) (hj : j + 5 ≤ L) (h1 : fMach_state (2 * n) σ = some p1) (h2 : fMod_state τ = some q1) (h3 : p1.1 = q1.1) (hl : lv_has ls 4 [(0, .ref b), (1, .ref (a 0)), (2, .ref (a2 0)), (3, .int (nI j))]) (hI : Wi (dC, dI) clA (wX a cI (2 * n) σ ++ wM a2 cI cZ τ) s A H locs) (kk : ∀ (H : Heap) (locs : List Loc), Wi (dC, dI) clA (wX a cI (2 * n) p1.2 ++ wM a2 cI cZ q1.2) s A H locs → W p l e room_1 s m #[Value.ref b] below meth c H locs 600000 7302250 (lw_Z below #[Value.ref b] s) (F0 m 571 ls [])) : W p l e room_1 s m #[Value.ref b] below meth c H locs 600000 7302250 (lw_Z below #[Value.ref b] s) (F0 m 388 ls []) := by
  have hx := C.1
  have hb := C.2.1
  have hX := C.2.2.2.2.2.2.2.1.2
  refine lv_aload_n hx hb d_Law_law_388 rfl (lv_at hl 1 rfl) ?_
  refine rb_callP slok sxok C.2.2.2.2.2.2.2.1.1 (C.2.2.2.2.2.1.sub [0] rfl) C (c_Mach_state h1) cw_Law_59 ⟨Nat.le_of_ble_eq_true rfl, Nat.le_of_ble_eq_true rfl⟩ ⟨rfl, rfl⟩ isX isM (wr := wM a2 cI cZ τ) fX1 gX1 gM1 (by decide) (by decide) (by decide) (q0 := 0) (ci := 0) rfl rfl hI ⟨Nat.le_refl _, Nat.le_refl _⟩ (As := []) rfl hl.1 (rest := []) (Nat.le_of_ble_eq_true rfl) rfl d_Law_law_389 (fun H locs hI => ?_)
  refine lv_aload_n hx hb d_Law_law_392 rfl (lv_at hl 2 rfl) ?_
  refine rb_callP slok smok trivial C.2.2.2.2.2.1 C (c_Mod_state h2) cw_Law_63 ⟨Nat.le_of_ble_eq_true rfl, Nat.le_of_ble_eq_true rfl⟩ ⟨rfl, rfl⟩ jsM jsX (wr := wX a cI (2 * n) p1.2) fM2 gM2 gX2 (by decide) (by decide) (by decide) (q0 := 0) (ci := 4) rfl rfl hI ⟨Nat.le_refl _, Nat.le_refl _⟩ (As := []) rfl hl.1 (rest := [.int p1.1]) (Nat.le_of_ble_eq_true rfl) rfl d_Law_law_393 (fun H locs hI => ?_)
  refine lv_icmp_eq (tgt := 571) hx hb d_Law_law_396 (by decide) (fun _ => ?_) (fun hc => absurd h3 hc)
  exact kk _ _ hI
set_option maxHeartbeats 4000000 in
set_option maxRecDepth 100000 in
theorem law_result {p : Program} {l : Launch} {e : Env} {s : State} {m : MethodId} {below : List Frame} {meth : Method} {c : Code} {A : Nat → Prop} {dC : Nat → ClassId} {dI : Nat → Nat → Nat} {a a2 : Nat → Nat} {cI cZ : ClassId} {tt : Nat → Nat} {b L n : Nat} {xs : Nat → Int32} {σ τ : St} {j : Nat} {ls : Array Slot} {H : Heap} {locs : List Loc} {p1 q1 : Int32 × St} (C : Cx (dC, dI) clA (tyM cI cZ) (SXl tt b L xs) p s m #[Value.ref b] meth c code 4 R_Law A) (hL : L ≤ 2562) (hj : j + 5 ≤ L) (h1 : fMach_result (2 * n) σ = some p1) (h2 : fMod_result τ = some q1) (h3 : p1.1 = q1.1) (hl : lv_has ls 4 [(0, .ref b), (1, .ref (a 0)), (2, .ref (a2 0)), (3, .int (nI j))]) (hI : Wi (dC, dI) clA (wX a cI (2 * n) σ ++ wM a2 cI cZ τ) s A H locs) (kk : ∀ (H : Heap) (locs : List Loc), Wi (dC, dI) clA (wX a cI (2 * n) p1.2 ++ wM a2 cI cZ q1.2) s A H locs → W p l e room_1 s m #[Value.ref b] below meth c H locs 600000 7302250 (lw_Z below #[Value.ref b] s) (F0 m 571 ls [])) : W p l e room_1 s m #[Value.ref b] below meth c H locs 600000 7302250 (lw_Z below #[Value.ref b] s) (F0 m 401 ls []) := by
  have hx := C.1
  have hb := C.2.1
  have hX := C.2.2.2.2.2.2.2.1.2
  refine lv_aload_n hx hb d_Law_law_401 rfl (lv_at hl 1 rfl) ?_
  refine rb_callP slok sxok C.2.2.2.2.2.2.2.1.1 (C.2.2.2.2.2.1.sub [0] rfl) C (c_Mach_result h1) cw_Law_64 ⟨Nat.le_of_ble_eq_true rfl, Nat.le_of_ble_eq_true rfl⟩ ⟨rfl, rfl⟩ isX isM (wr := wM a2 cI cZ τ) fX1 gX1 gM1 (by decide) (by decide) (by decide) (q0 := 0) (ci := 0) rfl rfl hI ⟨Nat.le_refl _, Nat.le_refl _⟩ (As := []) rfl hl.1 (rest := []) (Nat.le_of_ble_eq_true rfl) rfl d_Law_law_402 (fun H locs hI => ?_)
  refine lv_aload_n hx hb d_Law_law_405 rfl (lv_at hl 2 rfl) ?_
  refine rb_callP slok smok trivial C.2.2.2.2.2.1 C (c_Mod_result h2) cw_Law_67 ⟨Nat.le_of_ble_eq_true rfl, Nat.le_of_ble_eq_true rfl⟩ ⟨rfl, rfl⟩ jsM jsX (wr := wX a cI (2 * n) p1.2) fM2 gM2 gX2 (by decide) (by decide) (by decide) (q0 := 0) (ci := 4) rfl rfl hI ⟨Nat.le_refl _, Nat.le_refl _⟩ (As := []) rfl hl.1 (rest := [.int p1.1]) (Nat.le_of_ble_eq_true rfl) rfl d_Law_law_406 (fun H locs hI => ?_)
  refine lv_icmp_eq (tgt := 571) hx hb d_Law_law_409 (by decide) (fun _ => ?_) (fun hc => absurd h3 hc)
  exact kk _ _ hI
set_option maxHeartbeats 4000000 in
set_option maxRecDepth 100000 in
theorem law_shown {p : Program} {l : Launch} {e : Env} {s : State} {m : MethodId} {below : List Frame} {meth : Method} {c : Code} {A : Nat → Prop} {dC : Nat → ClassId} {dI : Nat → Nat → Nat} {a a2 : Nat → Nat} {cI cZ : ClassId} {tt : Nat → Nat} {b L n : Nat} {xs : Nat → Int32} {σ τ : St} {j : Nat} {ls : Array Slot} {H : Heap} {locs : List Loc} {p1 q1 : Int32 × St} (C : Cx (dC, dI) clA (tyM cI cZ) (SXl tt b L xs) p s m #[Value.ref b] meth c code 4 R_Law A) (hL : L ≤ 2562) (hj : j + 5 ≤ L) (h1 : fMach_shown (2 * n) σ (xs (nI j + nI 1).toNatClampNeg) = some p1) (h2 : fMod_shown τ (xs (nI j + nI 1).toNatClampNeg) = some q1) (h3 : p1.1 = q1.1) (hl : lv_has ls 4 [(0, .ref b), (1, .ref (a 0)), (2, .ref (a2 0)), (3, .int (nI j))]) (hI : Wi (dC, dI) clA (wX a cI (2 * n) σ ++ wM a2 cI cZ τ) s A H locs) (kk : ∀ (H : Heap) (locs : List Loc), Wi (dC, dI) clA (wX a cI (2 * n) p1.2 ++ wM a2 cI cZ q1.2) s A H locs → W p l e room_1 s m #[Value.ref b] below meth c H locs 600000 7302250 (lw_Z below #[Value.ref b] s) (F0 m 571 ls [])) : W p l e room_1 s m #[Value.ref b] below meth c H locs 600000 7302250 (lw_Z below #[Value.ref b] s) (F0 m 414 ls []) := by
  have hx := C.1
  have hb := C.2.1
  have hX := C.2.2.2.2.2.2.2.1.2
  refine lv_aload_n hx hb d_Law_law_414 rfl (lv_at hl 1 rfl) ?_
  refine lv_aload_n hx hb d_Law_law_415 rfl (lv_at hl 0 rfl) ?_
  refine lv_iload_n hx hb d_Law_law_416 rfl (lv_at hl 3 rfl) ?_
  refine lv_iconst (v := nI 1) hx hb d_Law_law_417 (by decide) ?_
  refine lv_iadd hx hb d_Law_law_418 ?_
  refine va_sld hx hb hX.1 hX.2.1 hX.2.2 hI.2.2 (ix_s 1 hL (by omega)) d_Law_law_419 ?_
  refine rb_callP slok sxok C.2.2.2.2.2.2.2.1.1 (C.2.2.2.2.2.1.sub [0] rfl) C (c_Mach_shown h1) cw_Law_68 ⟨Nat.le_of_ble_eq_true rfl, Nat.le_of_ble_eq_true rfl⟩ ⟨rfl, rfl⟩ isX isM (wr := wM a2 cI cZ τ) fX1 gX1 gM1 (by decide) (by decide) (by decide) (q0 := 0) (ci := 0) rfl rfl hI ⟨Nat.le_refl _, Nat.le_refl _⟩ (As := [.int (xs (nI j + nI 1).toNatClampNeg)]) rfl hl.1 (rest := []) (Nat.le_of_ble_eq_true rfl) rfl d_Law_law_420 (fun H locs hI => ?_)
  refine lv_aload_n hx hb d_Law_law_423 rfl (lv_at hl 2 rfl) ?_
  refine lv_aload_n hx hb d_Law_law_424 rfl (lv_at hl 0 rfl) ?_
  refine lv_iload_n hx hb d_Law_law_425 rfl (lv_at hl 3 rfl) ?_
  refine lv_iconst (v := nI 1) hx hb d_Law_law_426 (by decide) ?_
  refine lv_iadd hx hb d_Law_law_427 ?_
  refine va_sld hx hb hX.1 hX.2.1 hX.2.2 hI.2.2 (ix_s 1 hL (by omega)) d_Law_law_428 ?_
  refine rb_callP slok smok trivial C.2.2.2.2.2.1 C (c_Mod_shown h2) cw_Law_71 ⟨Nat.le_of_ble_eq_true rfl, Nat.le_of_ble_eq_true rfl⟩ ⟨rfl, rfl⟩ jsM jsX (wr := wX a cI (2 * n) p1.2) fM2 gM2 gX2 (by decide) (by decide) (by decide) (q0 := 0) (ci := 4) rfl rfl hI ⟨Nat.le_refl _, Nat.le_refl _⟩ (As := [.int (xs (nI j + nI 1).toNatClampNeg)]) rfl hl.1 (rest := [.int p1.1]) (Nat.le_of_ble_eq_true rfl) rfl d_Law_law_429 (fun H locs hI => ?_)
  refine lv_icmp_eq (tgt := 571) hx hb d_Law_law_432 (by decide) (fun _ => ?_) (fun hc => absurd h3 hc)
  exact kk _ _ hI
set_option maxHeartbeats 4000000 in
set_option maxRecDepth 100000 in
theorem law_work {p : Program} {l : Launch} {e : Env} {s : State} {m : MethodId} {below : List Frame} {meth : Method} {c : Code} {A : Nat → Prop} {dC : Nat → ClassId} {dI : Nat → Nat → Nat} {a a2 : Nat → Nat} {cI cZ : ClassId} {tt : Nat → Nat} {b L n : Nat} {xs : Nat → Int32} {σ τ : St} {j : Nat} {ls : Array Slot} {H : Heap} {locs : List Loc} {p1 q1 : Int32 × St} (C : Cx (dC, dI) clA (tyM cI cZ) (SXl tt b L xs) p s m #[Value.ref b] meth c code 4 R_Law A) (hL : L ≤ 2562) (hj : j + 5 ≤ L) (h1 : fMach_work (2 * n) σ = some p1) (h2 : fMod_work τ = some q1) (h3 : p1.1 = q1.1) (hl : lv_has ls 4 [(0, .ref b), (1, .ref (a 0)), (2, .ref (a2 0)), (3, .int (nI j))]) (hI : Wi (dC, dI) clA (wX a cI (2 * n) σ ++ wM a2 cI cZ τ) s A H locs) (kk : ∀ (H : Heap) (locs : List Loc), Wi (dC, dI) clA (wX a cI (2 * n) p1.2 ++ wM a2 cI cZ q1.2) s A H locs → W p l e room_1 s m #[Value.ref b] below meth c H locs 600000 7302250 (lw_Z below #[Value.ref b] s) (F0 m 571 ls [])) : W p l e room_1 s m #[Value.ref b] below meth c H locs 600000 7302250 (lw_Z below #[Value.ref b] s) (F0 m 437 ls []) := by
  have hx := C.1
  have hb := C.2.1
  have hX := C.2.2.2.2.2.2.2.1.2
  refine lv_aload_n hx hb d_Law_law_437 rfl (lv_at hl 1 rfl) ?_
  refine rb_callP slok sxok C.2.2.2.2.2.2.2.1.1 (C.2.2.2.2.2.1.sub [0] rfl) C (c_Mach_work h1) cw_Law_72 ⟨Nat.le_of_ble_eq_true rfl, Nat.le_of_ble_eq_true rfl⟩ ⟨rfl, rfl⟩ isX isM (wr := wM a2 cI cZ τ) fX1 gX1 gM1 (by decide) (by decide) (by decide) (q0 := 0) (ci := 0) rfl rfl hI ⟨Nat.le_refl _, Nat.le_refl _⟩ (As := []) rfl hl.1 (rest := []) (Nat.le_of_ble_eq_true rfl) rfl d_Law_law_438 (fun H locs hI => ?_)
  refine lv_aload_n hx hb d_Law_law_441 rfl (lv_at hl 2 rfl) ?_
  refine rb_callP slok smok trivial C.2.2.2.2.2.1 C (c_Mod_work h2) cw_Law_75 ⟨Nat.le_of_ble_eq_true rfl, Nat.le_of_ble_eq_true rfl⟩ ⟨rfl, rfl⟩ jsM jsX (wr := wX a cI (2 * n) p1.2) fM2 gM2 gX2 (by decide) (by decide) (by decide) (q0 := 0) (ci := 4) rfl rfl hI ⟨Nat.le_refl _, Nat.le_refl _⟩ (As := []) rfl hl.1 (rest := [.int p1.1]) (Nat.le_of_ble_eq_true rfl) rfl d_Law_law_442 (fun H locs hI => ?_)
  refine lv_icmp_eq (tgt := 571) hx hb d_Law_law_445 (by decide) (fun _ => ?_) (fun hc => absurd h3 hc)
  exact kk _ _ hI
set_option maxHeartbeats 4000000 in
set_option maxRecDepth 100000 in
theorem law_used {p : Program} {l : Launch} {e : Env} {s : State} {m : MethodId} {below : List Frame} {meth : Method} {c : Code} {A : Nat → Prop} {dC : Nat → ClassId} {dI : Nat → Nat → Nat} {a a2 : Nat → Nat} {cI cZ : ClassId} {tt : Nat → Nat} {b L n : Nat} {xs : Nat → Int32} {σ τ : St} {j : Nat} {ls : Array Slot} {H : Heap} {locs : List Loc} {p1 q1 : Int32 × St} (C : Cx (dC, dI) clA (tyM cI cZ) (SXl tt b L xs) p s m #[Value.ref b] meth c code 4 R_Law A) (hL : L ≤ 2562) (hj : j + 5 ≤ L) (h1 : fMach_used (2 * n) σ = some p1) (h2 : fMod_used τ = some q1) (h3 : p1.1 = q1.1) (hl : lv_has ls 4 [(0, .ref b), (1, .ref (a 0)), (2, .ref (a2 0)), (3, .int (nI j))]) (hI : Wi (dC, dI) clA (wX a cI (2 * n) σ ++ wM a2 cI cZ τ) s A H locs) (kk : ∀ (H : Heap) (locs : List Loc), Wi (dC, dI) clA (wX a cI (2 * n) p1.2 ++ wM a2 cI cZ q1.2) s A H locs → W p l e room_1 s m #[Value.ref b] below meth c H locs 600000 7302250 (lw_Z below #[Value.ref b] s) (F0 m 571 ls [])) : W p l e room_1 s m #[Value.ref b] below meth c H locs 600000 7302250 (lw_Z below #[Value.ref b] s) (F0 m 450 ls []) := by
  have hx := C.1
  have hb := C.2.1
  have hX := C.2.2.2.2.2.2.2.1.2
  refine lv_aload_n hx hb d_Law_law_450 rfl (lv_at hl 1 rfl) ?_
  refine rb_callP slok sxok C.2.2.2.2.2.2.2.1.1 (C.2.2.2.2.2.1.sub [0] rfl) C (c_Mach_used h1) cw_Law_76 ⟨Nat.le_of_ble_eq_true rfl, Nat.le_of_ble_eq_true rfl⟩ ⟨rfl, rfl⟩ isX isM (wr := wM a2 cI cZ τ) fX1 gX1 gM1 (by decide) (by decide) (by decide) (q0 := 0) (ci := 0) rfl rfl hI ⟨Nat.le_refl _, Nat.le_refl _⟩ (As := []) rfl hl.1 (rest := []) (Nat.le_of_ble_eq_true rfl) rfl d_Law_law_451 (fun H locs hI => ?_)
  refine lv_aload_n hx hb d_Law_law_454 rfl (lv_at hl 2 rfl) ?_
  refine rb_callP slok smok trivial C.2.2.2.2.2.1 C (c_Mod_used h2) cw_Law_79 ⟨Nat.le_of_ble_eq_true rfl, Nat.le_of_ble_eq_true rfl⟩ ⟨rfl, rfl⟩ jsM jsX (wr := wX a cI (2 * n) p1.2) fM2 gM2 gX2 (by decide) (by decide) (by decide) (q0 := 0) (ci := 4) rfl rfl hI ⟨Nat.le_refl _, Nat.le_refl _⟩ (As := []) rfl hl.1 (rest := [.int p1.1]) (Nat.le_of_ble_eq_true rfl) rfl d_Law_law_455 (fun H locs hI => ?_)
  refine lv_icmp_eq (tgt := 571) hx hb d_Law_law_458 (by decide) (fun _ => ?_) (fun hc => absurd h3 hc)
  exact kk _ _ hI
set_option maxHeartbeats 4000000 in
set_option maxRecDepth 100000 in
theorem law_grey {p : Program} {l : Launch} {e : Env} {s : State} {m : MethodId} {below : List Frame} {meth : Method} {c : Code} {A : Nat → Prop} {dC : Nat → ClassId} {dI : Nat → Nat → Nat} {a a2 : Nat → Nat} {cI cZ : ClassId} {tt : Nat → Nat} {b L n : Nat} {xs : Nat → Int32} {σ τ : St} {j : Nat} {ls : Array Slot} {H : Heap} {locs : List Loc} {p1 q1 : Int32 × St} (C : Cx (dC, dI) clA (tyM cI cZ) (SXl tt b L xs) p s m #[Value.ref b] meth c code 4 R_Law A) (hL : L ≤ 2562) (hj : j + 5 ≤ L) (h1 : fMach_grey (2 * n) σ = some p1) (h2 : fMod_grey τ = some q1) (h3 : p1.1 = q1.1) (hl : lv_has ls 4 [(0, .ref b), (1, .ref (a 0)), (2, .ref (a2 0)), (3, .int (nI j))]) (hI : Wi (dC, dI) clA (wX a cI (2 * n) σ ++ wM a2 cI cZ τ) s A H locs) (kk : ∀ (H : Heap) (locs : List Loc), Wi (dC, dI) clA (wX a cI (2 * n) p1.2 ++ wM a2 cI cZ q1.2) s A H locs → W p l e room_1 s m #[Value.ref b] below meth c H locs 600000 7302250 (lw_Z below #[Value.ref b] s) (F0 m 571 ls [])) : W p l e room_1 s m #[Value.ref b] below meth c H locs 600000 7302250 (lw_Z below #[Value.ref b] s) (F0 m 463 ls []) := by
  have hx := C.1
  have hb := C.2.1
  have hX := C.2.2.2.2.2.2.2.1.2
  refine lv_aload_n hx hb d_Law_law_463 rfl (lv_at hl 1 rfl) ?_
  refine rb_callP slok sxok C.2.2.2.2.2.2.2.1.1 (C.2.2.2.2.2.1.sub [0] rfl) C (c_Mach_grey h1) cw_Law_80 ⟨Nat.le_of_ble_eq_true rfl, Nat.le_of_ble_eq_true rfl⟩ ⟨rfl, rfl⟩ isX isM (wr := wM a2 cI cZ τ) fX1 gX1 gM1 (by decide) (by decide) (by decide) (q0 := 0) (ci := 0) rfl rfl hI ⟨Nat.le_refl _, Nat.le_refl _⟩ (As := []) rfl hl.1 (rest := []) (Nat.le_of_ble_eq_true rfl) rfl d_Law_law_464 (fun H locs hI => ?_)
  refine lv_aload_n hx hb d_Law_law_467 rfl (lv_at hl 2 rfl) ?_
  refine rb_callP slok smok trivial C.2.2.2.2.2.1 C (c_Mod_grey h2) cw_Law_83 ⟨Nat.le_of_ble_eq_true rfl, Nat.le_of_ble_eq_true rfl⟩ ⟨rfl, rfl⟩ jsM jsX (wr := wX a cI (2 * n) p1.2) fM2 gM2 gX2 (by decide) (by decide) (by decide) (q0 := 0) (ci := 4) rfl rfl hI ⟨Nat.le_refl _, Nat.le_refl _⟩ (As := []) rfl hl.1 (rest := [.int p1.1]) (Nat.le_of_ble_eq_true rfl) rfl d_Law_law_468 (fun H locs hI => ?_)
  refine lv_icmp_eq (tgt := 571) hx hb d_Law_law_471 (by decide) (fun _ => ?_) (fun hc => absurd h3 hc)
  exact kk _ _ hI
set_option maxHeartbeats 4000000 in
set_option maxRecDepth 100000 in
theorem law_flips {p : Program} {l : Launch} {e : Env} {s : State} {m : MethodId} {below : List Frame} {meth : Method} {c : Code} {A : Nat → Prop} {dC : Nat → ClassId} {dI : Nat → Nat → Nat} {a a2 : Nat → Nat} {cI cZ : ClassId} {tt : Nat → Nat} {b L n : Nat} {xs : Nat → Int32} {σ τ : St} {j : Nat} {ls : Array Slot} {H : Heap} {locs : List Loc} {p1 q1 : Int32 × St} (C : Cx (dC, dI) clA (tyM cI cZ) (SXl tt b L xs) p s m #[Value.ref b] meth c code 4 R_Law A) (hL : L ≤ 2562) (hj : j + 5 ≤ L) (h1 : fMach_flips (2 * n) σ = some p1) (h2 : fMod_flips τ = some q1) (h3 : p1.1 = q1.1) (hl : lv_has ls 4 [(0, .ref b), (1, .ref (a 0)), (2, .ref (a2 0)), (3, .int (nI j))]) (hI : Wi (dC, dI) clA (wX a cI (2 * n) σ ++ wM a2 cI cZ τ) s A H locs) (kk : ∀ (H : Heap) (locs : List Loc), Wi (dC, dI) clA (wX a cI (2 * n) p1.2 ++ wM a2 cI cZ q1.2) s A H locs → W p l e room_1 s m #[Value.ref b] below meth c H locs 600000 7302250 (lw_Z below #[Value.ref b] s) (F0 m 571 ls [])) : W p l e room_1 s m #[Value.ref b] below meth c H locs 600000 7302250 (lw_Z below #[Value.ref b] s) (F0 m 476 ls []) := by
  have hx := C.1
  have hb := C.2.1
  have hX := C.2.2.2.2.2.2.2.1.2
  refine lv_aload_n hx hb d_Law_law_476 rfl (lv_at hl 1 rfl) ?_
  refine rb_callP slok sxok C.2.2.2.2.2.2.2.1.1 (C.2.2.2.2.2.1.sub [0] rfl) C (c_Mach_flips h1) cw_Law_84 ⟨Nat.le_of_ble_eq_true rfl, Nat.le_of_ble_eq_true rfl⟩ ⟨rfl, rfl⟩ isX isM (wr := wM a2 cI cZ τ) fX1 gX1 gM1 (by decide) (by decide) (by decide) (q0 := 0) (ci := 0) rfl rfl hI ⟨Nat.le_refl _, Nat.le_refl _⟩ (As := []) rfl hl.1 (rest := []) (Nat.le_of_ble_eq_true rfl) rfl d_Law_law_477 (fun H locs hI => ?_)
  refine lv_aload_n hx hb d_Law_law_480 rfl (lv_at hl 2 rfl) ?_
  refine rb_callP slok smok trivial C.2.2.2.2.2.1 C (c_Mod_flips h2) cw_Law_87 ⟨Nat.le_of_ble_eq_true rfl, Nat.le_of_ble_eq_true rfl⟩ ⟨rfl, rfl⟩ jsM jsX (wr := wX a cI (2 * n) p1.2) fM2 gM2 gX2 (by decide) (by decide) (by decide) (q0 := 0) (ci := 4) rfl rfl hI ⟨Nat.le_refl _, Nat.le_refl _⟩ (As := []) rfl hl.1 (rest := [.int p1.1]) (Nat.le_of_ble_eq_true rfl) rfl d_Law_law_481 (fun H locs hI => ?_)
  refine lv_icmp_eq (tgt := 571) hx hb d_Law_law_484 (by decide) (fun _ => ?_) (fun hc => absurd h3 hc)
  exact kk _ _ hI
set_option maxHeartbeats 4000000 in
set_option maxRecDepth 100000 in
theorem law_depth {p : Program} {l : Launch} {e : Env} {s : State} {m : MethodId} {below : List Frame} {meth : Method} {c : Code} {A : Nat → Prop} {dC : Nat → ClassId} {dI : Nat → Nat → Nat} {a a2 : Nat → Nat} {cI cZ : ClassId} {tt : Nat → Nat} {b L n : Nat} {xs : Nat → Int32} {σ τ : St} {j : Nat} {ls : Array Slot} {H : Heap} {locs : List Loc} {p1 q1 : Int32 × St} (C : Cx (dC, dI) clA (tyM cI cZ) (SXl tt b L xs) p s m #[Value.ref b] meth c code 4 R_Law A) (hL : L ≤ 2562) (hj : j + 5 ≤ L) (h1 : fMach_depth (2 * n) σ = some p1) (h2 : fMod_depth τ = some q1) (h3 : p1.1 = q1.1) (hl : lv_has ls 4 [(0, .ref b), (1, .ref (a 0)), (2, .ref (a2 0)), (3, .int (nI j))]) (hI : Wi (dC, dI) clA (wX a cI (2 * n) σ ++ wM a2 cI cZ τ) s A H locs) (kk : ∀ (H : Heap) (locs : List Loc), Wi (dC, dI) clA (wX a cI (2 * n) p1.2 ++ wM a2 cI cZ q1.2) s A H locs → W p l e room_1 s m #[Value.ref b] below meth c H locs 600000 7302250 (lw_Z below #[Value.ref b] s) (F0 m 571 ls [])) : W p l e room_1 s m #[Value.ref b] below meth c H locs 600000 7302250 (lw_Z below #[Value.ref b] s) (F0 m 489 ls []) := by
  have hx := C.1
  have hb := C.2.1
  have hX := C.2.2.2.2.2.2.2.1.2
  refine lv_aload_n hx hb d_Law_law_489 rfl (lv_at hl 1 rfl) ?_
  refine rb_callP slok sxok C.2.2.2.2.2.2.2.1.1 (C.2.2.2.2.2.1.sub [0] rfl) C (c_Mach_depth h1) cw_Law_88 ⟨Nat.le_of_ble_eq_true rfl, Nat.le_of_ble_eq_true rfl⟩ ⟨rfl, rfl⟩ isX isM (wr := wM a2 cI cZ τ) fX1 gX1 gM1 (by decide) (by decide) (by decide) (q0 := 0) (ci := 0) rfl rfl hI ⟨Nat.le_refl _, Nat.le_refl _⟩ (As := []) rfl hl.1 (rest := []) (Nat.le_of_ble_eq_true rfl) rfl d_Law_law_490 (fun H locs hI => ?_)
  refine lv_aload_n hx hb d_Law_law_493 rfl (lv_at hl 2 rfl) ?_
  refine rb_callP slok smok trivial C.2.2.2.2.2.1 C (c_Mod_depth h2) cw_Law_91 ⟨Nat.le_of_ble_eq_true rfl, Nat.le_of_ble_eq_true rfl⟩ ⟨rfl, rfl⟩ jsM jsX (wr := wX a cI (2 * n) p1.2) fM2 gM2 gX2 (by decide) (by decide) (by decide) (q0 := 0) (ci := 4) rfl rfl hI ⟨Nat.le_refl _, Nat.le_refl _⟩ (As := []) rfl hl.1 (rest := [.int p1.1]) (Nat.le_of_ble_eq_true rfl) rfl d_Law_law_494 (fun H locs hI => ?_)
  refine lv_icmp_eq (tgt := 571) hx hb d_Law_law_497 (by decide) (fun _ => ?_) (fun hc => absurd h3 hc)
  exact kk _ _ hI
set_option maxHeartbeats 4000000 in
set_option maxRecDepth 100000 in
theorem law_live {p : Program} {l : Launch} {e : Env} {s : State} {m : MethodId} {below : List Frame} {meth : Method} {c : Code} {A : Nat → Prop} {dC : Nat → ClassId} {dI : Nat → Nat → Nat} {a a2 : Nat → Nat} {cI cZ : ClassId} {tt : Nat → Nat} {b L n : Nat} {xs : Nat → Int32} {σ τ : St} {j : Nat} {ls : Array Slot} {H : Heap} {locs : List Loc} {p1 q1 : Int32 × St} (C : Cx (dC, dI) clA (tyM cI cZ) (SXl tt b L xs) p s m #[Value.ref b] meth c code 4 R_Law A) (hL : L ≤ 2562) (hj : j + 5 ≤ L) (h1 : fMach_live (2 * n) σ = some p1) (h2 : fMod_live τ = some q1) (h3 : p1.1 = q1.1) (hl : lv_has ls 4 [(0, .ref b), (1, .ref (a 0)), (2, .ref (a2 0)), (3, .int (nI j))]) (hI : Wi (dC, dI) clA (wX a cI (2 * n) σ ++ wM a2 cI cZ τ) s A H locs) (kk : ∀ (H : Heap) (locs : List Loc), Wi (dC, dI) clA (wX a cI (2 * n) p1.2 ++ wM a2 cI cZ q1.2) s A H locs → W p l e room_1 s m #[Value.ref b] below meth c H locs 600000 7302250 (lw_Z below #[Value.ref b] s) (F0 m 571 ls [])) : W p l e room_1 s m #[Value.ref b] below meth c H locs 600000 7302250 (lw_Z below #[Value.ref b] s) (F0 m 502 ls []) := by
  have hx := C.1
  have hb := C.2.1
  have hX := C.2.2.2.2.2.2.2.1.2
  refine lv_aload_n hx hb d_Law_law_502 rfl (lv_at hl 1 rfl) ?_
  refine rb_callP slok sxok C.2.2.2.2.2.2.2.1.1 (C.2.2.2.2.2.1.sub [0] rfl) C (c_Mach_live h1) cw_Law_92 ⟨Nat.le_of_ble_eq_true rfl, Nat.le_of_ble_eq_true rfl⟩ ⟨rfl, rfl⟩ isX isM (wr := wM a2 cI cZ τ) fX1 gX1 gM1 (by decide) (by decide) (by decide) (q0 := 0) (ci := 0) rfl rfl hI ⟨Nat.le_refl _, Nat.le_refl _⟩ (As := []) rfl hl.1 (rest := []) (Nat.le_of_ble_eq_true rfl) rfl d_Law_law_503 (fun H locs hI => ?_)
  refine lv_aload_n hx hb d_Law_law_506 rfl (lv_at hl 2 rfl) ?_
  refine rb_callP slok smok trivial C.2.2.2.2.2.1 C (c_Mod_live h2) cw_Law_95 ⟨Nat.le_of_ble_eq_true rfl, Nat.le_of_ble_eq_true rfl⟩ ⟨rfl, rfl⟩ jsM jsX (wr := wX a cI (2 * n) p1.2) fM2 gM2 gX2 (by decide) (by decide) (by decide) (q0 := 0) (ci := 4) rfl rfl hI ⟨Nat.le_refl _, Nat.le_refl _⟩ (As := []) rfl hl.1 (rest := [.int p1.1]) (Nat.le_of_ble_eq_true rfl) rfl d_Law_law_507 (fun H locs hI => ?_)
  refine lv_icmp_eq (tgt := 571) hx hb d_Law_law_510 (by decide) (fun _ => ?_) (fun hc => absurd h3 hc)
  exact kk _ _ hI
set_option maxHeartbeats 4000000 in
set_option maxRecDepth 100000 in
theorem law_kindAt {p : Program} {l : Launch} {e : Env} {s : State} {m : MethodId} {below : List Frame} {meth : Method} {c : Code} {A : Nat → Prop} {dC : Nat → ClassId} {dI : Nat → Nat → Nat} {a a2 : Nat → Nat} {cI cZ : ClassId} {tt : Nat → Nat} {b L n : Nat} {xs : Nat → Int32} {σ τ : St} {j : Nat} {ls : Array Slot} {H : Heap} {locs : List Loc} {p1 q1 : Int32 × St} (C : Cx (dC, dI) clA (tyM cI cZ) (SXl tt b L xs) p s m #[Value.ref b] meth c code 4 R_Law A) (hL : L ≤ 2562) (hj : j + 5 ≤ L) (h1 : fMach_kindAt (2 * n) σ (xs (nI j + nI 1).toNatClampNeg) (xs (nI j + nI 2).toNatClampNeg) = some p1) (h2 : fMod_kindAt τ (xs (nI j + nI 1).toNatClampNeg) (xs (nI j + nI 2).toNatClampNeg) = some q1) (h3 : p1.1 = q1.1) (hl : lv_has ls 4 [(0, .ref b), (1, .ref (a 0)), (2, .ref (a2 0)), (3, .int (nI j))]) (hI : Wi (dC, dI) clA (wX a cI (2 * n) σ ++ wM a2 cI cZ τ) s A H locs) (kk : ∀ (H : Heap) (locs : List Loc), Wi (dC, dI) clA (wX a cI (2 * n) p1.2 ++ wM a2 cI cZ q1.2) s A H locs → W p l e room_1 s m #[Value.ref b] below meth c H locs 600000 7302250 (lw_Z below #[Value.ref b] s) (F0 m 571 ls [])) : W p l e room_1 s m #[Value.ref b] below meth c H locs 600000 7302250 (lw_Z below #[Value.ref b] s) (F0 m 515 ls []) := by
  have hx := C.1
  have hb := C.2.1
  have hX := C.2.2.2.2.2.2.2.1.2
  refine lv_aload_n hx hb d_Law_law_515 rfl (lv_at hl 1 rfl) ?_
  refine lv_aload_n hx hb d_Law_law_516 rfl (lv_at hl 0 rfl) ?_
  refine lv_iload_n hx hb d_Law_law_517 rfl (lv_at hl 3 rfl) ?_
  refine lv_iconst (v := nI 1) hx hb d_Law_law_518 (by decide) ?_
  refine lv_iadd hx hb d_Law_law_519 ?_
  refine va_sld hx hb hX.1 hX.2.1 hX.2.2 hI.2.2 (ix_s 1 hL (by omega)) d_Law_law_520 ?_
  refine lv_aload_n hx hb d_Law_law_521 rfl (lv_at hl 0 rfl) ?_
  refine lv_iload_n hx hb d_Law_law_522 rfl (lv_at hl 3 rfl) ?_
  refine lv_iconst (v := nI 2) hx hb d_Law_law_523 (by decide) ?_
  refine lv_iadd hx hb d_Law_law_524 ?_
  refine va_sld hx hb hX.1 hX.2.1 hX.2.2 hI.2.2 (ix_s 2 hL (by omega)) d_Law_law_525 ?_
  refine rb_callP slok sxok C.2.2.2.2.2.2.2.1.1 (C.2.2.2.2.2.1.sub [0] rfl) C (c_Mach_kindAt h1) cw_Law_96 ⟨Nat.le_of_ble_eq_true rfl, Nat.le_of_ble_eq_true rfl⟩ ⟨rfl, rfl⟩ isX isM (wr := wM a2 cI cZ τ) fX1 gX1 gM1 (by decide) (by decide) (by decide) (q0 := 0) (ci := 0) rfl rfl hI ⟨Nat.le_refl _, Nat.le_refl _⟩ (As := [.int (xs (nI j + nI 1).toNatClampNeg), .int (xs (nI j + nI 2).toNatClampNeg)]) rfl hl.1 (rest := []) (Nat.le_of_ble_eq_true rfl) rfl d_Law_law_526 (fun H locs hI => ?_)
  refine lv_aload_n hx hb d_Law_law_529 rfl (lv_at hl 2 rfl) ?_
  refine lv_aload_n hx hb d_Law_law_530 rfl (lv_at hl 0 rfl) ?_
  refine lv_iload_n hx hb d_Law_law_531 rfl (lv_at hl 3 rfl) ?_
  refine lv_iconst (v := nI 1) hx hb d_Law_law_532 (by decide) ?_
  refine lv_iadd hx hb d_Law_law_533 ?_
  refine va_sld hx hb hX.1 hX.2.1 hX.2.2 hI.2.2 (ix_s 1 hL (by omega)) d_Law_law_534 ?_
  refine lv_aload_n hx hb d_Law_law_535 rfl (lv_at hl 0 rfl) ?_
  refine lv_iload_n hx hb d_Law_law_536 rfl (lv_at hl 3 rfl) ?_
  refine lv_iconst (v := nI 2) hx hb d_Law_law_537 (by decide) ?_
  refine lv_iadd hx hb d_Law_law_538 ?_
  refine va_sld hx hb hX.1 hX.2.1 hX.2.2 hI.2.2 (ix_s 2 hL (by omega)) d_Law_law_539 ?_
  refine rb_callP slok smok trivial C.2.2.2.2.2.1 C (c_Mod_kindAt h2) cw_Law_100 ⟨Nat.le_of_ble_eq_true rfl, Nat.le_of_ble_eq_true rfl⟩ ⟨rfl, rfl⟩ jsM jsX (wr := wX a cI (2 * n) p1.2) fM2 gM2 gX2 (by decide) (by decide) (by decide) (q0 := 0) (ci := 4) rfl rfl hI ⟨Nat.le_refl _, Nat.le_refl _⟩ (As := [.int (xs (nI j + nI 1).toNatClampNeg), .int (xs (nI j + nI 2).toNatClampNeg)]) rfl hl.1 (rest := [.int p1.1]) (Nat.le_of_ble_eq_true rfl) rfl d_Law_law_540 (fun H locs hI => ?_)
  refine lv_icmp_eq (tgt := 571) hx hb d_Law_law_543 (by decide) (fun _ => ?_) (fun hc => absurd h3 hc)
  exact kk _ _ hI
set_option maxHeartbeats 4000000 in
set_option maxRecDepth 100000 in
theorem law_number {p : Program} {l : Launch} {e : Env} {s : State} {m : MethodId} {below : List Frame} {meth : Method} {c : Code} {A : Nat → Prop} {dC : Nat → ClassId} {dI : Nat → Nat → Nat} {a a2 : Nat → Nat} {cI cZ : ClassId} {tt : Nat → Nat} {b L n : Nat} {xs : Nat → Int32} {σ τ : St} {j : Nat} {ls : Array Slot} {H : Heap} {locs : List Loc} {p1 q1 : Int32 × St} (C : Cx (dC, dI) clA (tyM cI cZ) (SXl tt b L xs) p s m #[Value.ref b] meth c code 4 R_Law A) (hL : L ≤ 2562) (hj : j + 5 ≤ L) (h1 : fMach_number (2 * n) σ (xs (nI j + nI 1).toNatClampNeg) = some p1) (h2 : fMod_number τ (xs (nI j + nI 1).toNatClampNeg) = some q1) (h3 : p1.1 = q1.1) (hl : lv_has ls 4 [(0, .ref b), (1, .ref (a 0)), (2, .ref (a2 0)), (3, .int (nI j))]) (hI : Wi (dC, dI) clA (wX a cI (2 * n) σ ++ wM a2 cI cZ τ) s A H locs) (kk : ∀ (H : Heap) (locs : List Loc), Wi (dC, dI) clA (wX a cI (2 * n) p1.2 ++ wM a2 cI cZ q1.2) s A H locs → W p l e room_1 s m #[Value.ref b] below meth c H locs 600000 7302250 (lw_Z below #[Value.ref b] s) (F0 m 571 ls [])) : W p l e room_1 s m #[Value.ref b] below meth c H locs 600000 7302250 (lw_Z below #[Value.ref b] s) (F0 m 548 ls []) := by
  have hx := C.1
  have hb := C.2.1
  have hX := C.2.2.2.2.2.2.2.1.2
  refine lv_aload_n hx hb d_Law_law_548 rfl (lv_at hl 1 rfl) ?_
  refine lv_aload_n hx hb d_Law_law_549 rfl (lv_at hl 0 rfl) ?_
  refine lv_iload_n hx hb d_Law_law_550 rfl (lv_at hl 3 rfl) ?_
  refine lv_iconst (v := nI 1) hx hb d_Law_law_551 (by decide) ?_
  refine lv_iadd hx hb d_Law_law_552 ?_
  refine va_sld hx hb hX.1 hX.2.1 hX.2.2 hI.2.2 (ix_s 1 hL (by omega)) d_Law_law_553 ?_
  refine rb_callP slok sxok C.2.2.2.2.2.2.2.1.1 (C.2.2.2.2.2.1.sub [0] rfl) C (c_Mach_number h1) cw_Law_101 ⟨Nat.le_of_ble_eq_true rfl, Nat.le_of_ble_eq_true rfl⟩ ⟨rfl, rfl⟩ isX isM (wr := wM a2 cI cZ τ) fX1 gX1 gM1 (by decide) (by decide) (by decide) (q0 := 0) (ci := 0) rfl rfl hI ⟨Nat.le_refl _, Nat.le_refl _⟩ (As := [.int (xs (nI j + nI 1).toNatClampNeg)]) rfl hl.1 (rest := []) (Nat.le_of_ble_eq_true rfl) rfl d_Law_law_554 (fun H locs hI => ?_)
  refine lv_aload_n hx hb d_Law_law_557 rfl (lv_at hl 2 rfl) ?_
  refine lv_aload_n hx hb d_Law_law_558 rfl (lv_at hl 0 rfl) ?_
  refine lv_iload_n hx hb d_Law_law_559 rfl (lv_at hl 3 rfl) ?_
  refine lv_iconst (v := nI 1) hx hb d_Law_law_560 (by decide) ?_
  refine lv_iadd hx hb d_Law_law_561 ?_
  refine va_sld hx hb hX.1 hX.2.1 hX.2.2 hI.2.2 (ix_s 1 hL (by omega)) d_Law_law_562 ?_
  refine rb_callP slok smok trivial C.2.2.2.2.2.1 C (c_Mod_number h2) cw_Law_104 ⟨Nat.le_of_ble_eq_true rfl, Nat.le_of_ble_eq_true rfl⟩ ⟨rfl, rfl⟩ jsM jsX (wr := wX a cI (2 * n) p1.2) fM2 gM2 gX2 (by decide) (by decide) (by decide) (q0 := 0) (ci := 4) rfl rfl hI ⟨Nat.le_refl _, Nat.le_refl _⟩ (As := [.int (xs (nI j + nI 1).toNatClampNeg)]) rfl hl.1 (rest := [.int p1.1]) (Nat.le_of_ble_eq_true rfl) rfl d_Law_law_563 (fun H locs hI => ?_)
  refine lv_icmp_eq (tgt := 571) hx hb d_Law_law_566 (by decide) (fun _ => ?_) (fun hc => absurd h3 hc)
  exact kk _ _ hI
set_option maxHeartbeats 4000000 in
set_option maxRecDepth 100000 in
theorem law_loop {p : Program} {l : Launch} {e : Env} {s : State} {m : MethodId} {below : List Frame} {meth : Method} {c : Code} {A : Nat → Prop} {dC : Nat → ClassId} {dI : Nat → Nat → Nat} {a a2 : Nat → Nat} {cI cZ : ClassId} {tt : Nat → Nat} {b L n : Nat} {xs : Nat → Int32} {Rel : St → St → Prop} (HS : Sims (2 * n) Rel) (C : Cx (dC, dI) clA (tyM cI cZ) (SXl tt b L xs) p s m #[Value.ref b] meth c code 4 R_Law A) (hAe : A = fun q => s.heap.size ≤ q) (hr : meth.sig.returnType = ret) (hL : L ≤ 2562) : ∀ (k j : Nat) (σ τ : St) (ls : Array Slot) (H : Heap) (locs : List Loc), L + 5 - j < k → j ≤ L + 5 → Rel σ τ → lv_has ls 4 [(0, .ref b), (1, .ref (a 0)), (2, .ref (a2 0)), (3, .int (nI j))] → Wi (dC, dI) clA (wX a cI (2 * n) σ ++ wM a2 cI cZ τ) s A H locs → W p l e room_1 s m #[Value.ref b] below meth c H locs 600000 7302250 (lw_Z below #[Value.ref b] s) (F0 m 38 ls []) := by
  intro k
  induction k with
  | zero => intro j σ τ ls H locs hk; omega
  | succ k ih =>
    intro j σ τ ls H locs hk hj hR hl hI
    have hx := C.1
    have hb := C.2.1
    have hX := C.2.2.2.2.2.2.2.1.2
    refine lv_iload_n hx hb d_Law_law_38 rfl (lv_at hl 3 rfl) ?_
    refine lv_aload_n hx hb d_Law_law_39 rfl (lv_at hl 0 rfl) ?_
    refine va_slen hx hb hX.1 hX.2.1 hX.2.2 hI.2.2 d_Law_law_40 ?_
    refine lv_iconst (v := nI 5) hx hb d_Law_law_41 (by decide) ?_
    refine lv_isub hx hb d_Law_law_42 ?_
    refine lv_icmp_gt (tgt := 577) hx hb d_Law_law_43 (by decide) (fun hc => ?_) (fun hc => ?_)
    · refine lv_iconst (v := 1) hx hb d_Law_law_577 (by decide) ?_
      refine va_forget (fun q hq => by have := hI.2.2.2.2 q hq; rw [hAe] at this; exact this) ?_
      exact lw_ret hx hb hr C.2.2.2.2.2.2.2.2 d_Law_law_578
    · have hjL : j + 5 ≤ L := by
        have h1 : ¬ (nI L - nI 5).toInt < (nI j).toInt := fun h => hc (Int32.lt_iff_toInt_lt.mpr h)
        rw [pk_sub_toInt (by omega) (by omega), nI_toInt (by omega)] at h1
        omega
      have hend : ∀ (σ2 τ2 : St), Rel σ2 τ2 → ∀ (H : Heap) (locs : List Loc), Wi (dC, dI) clA (wX a cI (2 * n) σ2 ++ wM a2 cI cZ τ2) s A H locs → W p l e room_1 s m #[Value.ref b] below meth c H locs 600000 7302250 (lw_Z below #[Value.ref b] s) (F0 m 571 ls []) := by
        intro σ2 τ2 hR2 H locs hI
        refine lv_iinc (k := 3) (v := nI j + nI 5) (lv' := [(3, .int (nI j + nI 5)), (0, .ref b), (1, .ref (a 0)), (2, .ref (a2 0))]) hx hb d_Law_law_571 hl rfl rfl (by decide) rfl (fun ls hl => ?_)
        refine lv_goto (tgt := 38) hx hb d_Law_law_574 (by decide) ?_
        rw [nI_add] at hl
        exact ih (j + 5) σ2 τ2 _ _ _ (by omega) (by omega) hR2 (lv_sub hl [1, 2, 3, 0] rfl) hI
      refine lv_aload_n hx hb d_Law_law_46 rfl (lv_at hl 0 rfl) ?_
      refine lv_iload_n hx hb d_Law_law_47 rfl (lv_at hl 3 rfl) ?_
      refine va_sld hx hb hX.1 hX.2.1 hX.2.2 hI.2.2 (vp_in_nI (show j < L by omega) (by omega)) d_Law_law_48 ?_
      refine lv_bipush (v := 31) hx hb d_Law_law_49 (by decide) ?_
      refine lv_iand hx hb d_Law_law_51 ?_
      refine lv_topi (fun y _ => ?_)
      have hS := HS σ τ hR
      by_cases hc0 : y.toInt = 0
      · refine rb_tabIn (k := 0) (tgt := 144) hx hb d_Law_law_52 hc0 (by decide) (by decide) rfl (by decide) ?_
        obtain ⟨p1, q1, h1, h2, h3, h4⟩ := hS.1 (xs (nI j + nI 1).toNatClampNeg) (xs (nI j + nI 2).toNatClampNeg) (xs (nI j + nI 3).toNatClampNeg)
        exact law_kind C hL hjL h1 h2 h3 hl hI (fun H locs hI => hend _ _ h4 H locs hI)
      by_cases hc1 : y.toInt = 1
      · refine rb_tabIn (k := 1) (tgt := 187) hx hb d_Law_law_52 hc1 (by decide) (by decide) rfl (by decide) ?_
        obtain ⟨p1, q1, h1, h2, h3, h4⟩ := hS.2.1 (xs (nI j + nI 1).toNatClampNeg) (xs (nI j + nI 2).toNatClampNeg) (xs (nI j + nI 3).toNatClampNeg)
        exact law_bind C hL hjL h1 h2 h3 hl hI (fun H locs hI => hend _ _ h4 H locs hI)
      by_cases hc2 : y.toInt = 2
      · refine rb_tabIn (k := 2) (tgt := 230) hx hb d_Law_law_52 hc2 (by decide) (by decide) rfl (by decide) ?_
        obtain ⟨p1, q1, h1, h2, h3, h4⟩ := hS.2.2.1 (xs (nI j + nI 1).toNatClampNeg)
        exact law_method C hL hjL h1 h2 h3 hl hI (fun H locs hI => hend _ _ h4 H locs hI)
      by_cases hc3 : y.toInt = 3
      · refine rb_tabIn (k := 3) (tgt := 253) hx hb d_Law_law_52 hc3 (by decide) (by decide) rfl (by decide) ?_
        obtain ⟨p1, q1, h1, h2, h3, h4⟩ := hS.2.2.2.1 (xs (nI j + nI 1).toNatClampNeg) (xs (nI j + nI 2).toNatClampNeg) (xs (nI j + nI 3).toNatClampNeg) (xs (nI j + nI 4).toNatClampNeg)
        exact law_code C hL hjL h1 h2 h3 hl hI (fun H locs hI => hend _ _ h4 H locs hI)
      by_cases hc4 : y.toInt = 4
      · refine rb_tabIn (k := 4) (tgt := 306) hx hb d_Law_law_52 hc4 (by decide) (by decide) rfl (by decide) ?_
        obtain ⟨p1, q1, h1, h2, h3, h4⟩ := hS.2.2.2.2.1 
        exact law_seal C hL hjL h1 h2 h3 hl hI (fun H locs hI => hend _ _ h4 H locs hI)
      by_cases hc5 : y.toInt = 5
      · refine rb_tabIn (k := 5) (tgt := 319) hx hb d_Law_law_52 hc5 (by decide) (by decide) rfl (by decide) ?_
        obtain ⟨p1, q1, h1, h2, h3, h4⟩ := hS.2.2.2.2.2.1 
        exact law_drop C hL hjL h1 h2 h3 hl hI (fun H locs hI => hend _ _ h4 H locs hI)
      by_cases hc6 : y.toInt = 6
      · refine rb_tabIn (k := 6) (tgt := 332) hx hb d_Law_law_52 hc6 (by decide) (by decide) rfl (by decide) ?_
        obtain ⟨p1, q1, h1, h2, h3, h4⟩ := hS.2.2.2.2.2.2.1 (xs (nI j + nI 1).toNatClampNeg) (xs (nI j + nI 2).toNatClampNeg)
        exact law_start C hL hjL h1 h2 h3 hl hI (fun H locs hI => hend _ _ h4 H locs hI)
      by_cases hc7 : y.toInt = 7
      · refine rb_tabIn (k := 7) (tgt := 365) hx hb d_Law_law_52 hc7 (by decide) (by decide) rfl (by decide) ?_
        obtain ⟨p1, q1, h1, h2, h3, h4⟩ := hS.2.2.2.2.2.2.2.1 (xs (nI j + nI 1).toNatClampNeg)
        exact law_run C hL hjL h1 h2 h3 hl hI (fun H locs hI => hend _ _ h4 H locs hI)
      by_cases hc8 : y.toInt = 8
      · refine rb_tabIn (k := 8) (tgt := 388) hx hb d_Law_law_52 hc8 (by decide) (by decide) rfl (by decide) ?_
        obtain ⟨p1, q1, h1, h2, h3, h4⟩ := hS.2.2.2.2.2.2.2.2.1 
        exact law_state C hL hjL h1 h2 h3 hl hI (fun H locs hI => hend _ _ h4 H locs hI)
      by_cases hc9 : y.toInt = 9
      · refine rb_tabIn (k := 9) (tgt := 401) hx hb d_Law_law_52 hc9 (by decide) (by decide) rfl (by decide) ?_
        obtain ⟨p1, q1, h1, h2, h3, h4⟩ := hS.2.2.2.2.2.2.2.2.2.1 
        exact law_result C hL hjL h1 h2 h3 hl hI (fun H locs hI => hend _ _ h4 H locs hI)
      by_cases hc10 : y.toInt = 10
      · refine rb_tabIn (k := 10) (tgt := 414) hx hb d_Law_law_52 hc10 (by decide) (by decide) rfl (by decide) ?_
        obtain ⟨p1, q1, h1, h2, h3, h4⟩ := hS.2.2.2.2.2.2.2.2.2.2.1 (xs (nI j + nI 1).toNatClampNeg)
        exact law_shown C hL hjL h1 h2 h3 hl hI (fun H locs hI => hend _ _ h4 H locs hI)
      by_cases hc11 : y.toInt = 11
      · refine rb_tabIn (k := 11) (tgt := 437) hx hb d_Law_law_52 hc11 (by decide) (by decide) rfl (by decide) ?_
        obtain ⟨p1, q1, h1, h2, h3, h4⟩ := hS.2.2.2.2.2.2.2.2.2.2.2.1 
        exact law_work C hL hjL h1 h2 h3 hl hI (fun H locs hI => hend _ _ h4 H locs hI)
      by_cases hc12 : y.toInt = 12
      · refine rb_tabIn (k := 12) (tgt := 450) hx hb d_Law_law_52 hc12 (by decide) (by decide) rfl (by decide) ?_
        obtain ⟨p1, q1, h1, h2, h3, h4⟩ := hS.2.2.2.2.2.2.2.2.2.2.2.2.1 
        exact law_used C hL hjL h1 h2 h3 hl hI (fun H locs hI => hend _ _ h4 H locs hI)
      by_cases hc13 : y.toInt = 13
      · refine rb_tabIn (k := 13) (tgt := 463) hx hb d_Law_law_52 hc13 (by decide) (by decide) rfl (by decide) ?_
        obtain ⟨p1, q1, h1, h2, h3, h4⟩ := hS.2.2.2.2.2.2.2.2.2.2.2.2.2.1 
        exact law_grey C hL hjL h1 h2 h3 hl hI (fun H locs hI => hend _ _ h4 H locs hI)
      by_cases hc14 : y.toInt = 14
      · refine rb_tabIn (k := 14) (tgt := 476) hx hb d_Law_law_52 hc14 (by decide) (by decide) rfl (by decide) ?_
        obtain ⟨p1, q1, h1, h2, h3, h4⟩ := hS.2.2.2.2.2.2.2.2.2.2.2.2.2.2.1 
        exact law_flips C hL hjL h1 h2 h3 hl hI (fun H locs hI => hend _ _ h4 H locs hI)
      by_cases hc15 : y.toInt = 15
      · refine rb_tabIn (k := 15) (tgt := 489) hx hb d_Law_law_52 hc15 (by decide) (by decide) rfl (by decide) ?_
        obtain ⟨p1, q1, h1, h2, h3, h4⟩ := hS.2.2.2.2.2.2.2.2.2.2.2.2.2.2.2.1 
        exact law_depth C hL hjL h1 h2 h3 hl hI (fun H locs hI => hend _ _ h4 H locs hI)
      by_cases hc16 : y.toInt = 16
      · refine rb_tabIn (k := 16) (tgt := 502) hx hb d_Law_law_52 hc16 (by decide) (by decide) rfl (by decide) ?_
        obtain ⟨p1, q1, h1, h2, h3, h4⟩ := hS.2.2.2.2.2.2.2.2.2.2.2.2.2.2.2.2.1 
        exact law_live C hL hjL h1 h2 h3 hl hI (fun H locs hI => hend _ _ h4 H locs hI)
      by_cases hc17 : y.toInt = 17
      · refine rb_tabIn (k := 17) (tgt := 515) hx hb d_Law_law_52 hc17 (by decide) (by decide) rfl (by decide) ?_
        obtain ⟨p1, q1, h1, h2, h3, h4⟩ := hS.2.2.2.2.2.2.2.2.2.2.2.2.2.2.2.2.2.1 (xs (nI j + nI 1).toNatClampNeg) (xs (nI j + nI 2).toNatClampNeg)
        exact law_kindAt C hL hjL h1 h2 h3 hl hI (fun H locs hI => hend _ _ h4 H locs hI)
      by_cases hc18 : y.toInt = 18
      · refine rb_tabIn (k := 18) (tgt := 548) hx hb d_Law_law_52 hc18 (by decide) (by decide) rfl (by decide) ?_
        obtain ⟨p1, q1, h1, h2, h3, h4⟩ := hS.2.2.2.2.2.2.2.2.2.2.2.2.2.2.2.2.2.2 (xs (nI j + nI 1).toNatClampNeg)
        exact law_number C hL hjL h1 h2 h3 hl hI (fun H locs hI => hend _ _ h4 H locs hI)
      refine lv_tableOut (tgt := 571) hx hb d_Law_law_52 (by omega) (by decide) ?_
      exact hend _ _ hR _ _ hI
