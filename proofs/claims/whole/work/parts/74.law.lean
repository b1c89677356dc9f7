/-! THE LAW: its words and its cases (printed by wip/whole/gen/law.py) -/
theorem ql1 : (Jvm.Cond.initialized "DendroDesk") ∈ lw_good := List.mem_filter.mpr ⟨List.mem_of_getElem? (i := 69) (by decide +kernel), by decide +kernel⟩
theorem ql8 : (Jvm.Cond.initialized "DendroDeskModel") ∈ lw_good := List.mem_filter.mpr ⟨List.mem_of_getElem? (i := 76) (by decide +kernel), by decide +kernel⟩
theorem ql240 : (Jvm.Cond.methodLink "DendroDeskLaw" (13 : Nat) ({ cls := "DendroDesk", name := "points", desc := "(I)I" } : Jvm.MethodName)) ∈ lw_good := List.mem_filter.mpr ⟨List.mem_of_getElem? (i := 308) (by decide +kernel), by decide +kernel⟩
theorem ql241 : (Jvm.Cond.instanceMethod ({ cls := "DendroDesk", name := "points", desc := "(I)I" } : Jvm.MethodName)) ∈ lw_good := List.mem_filter.mpr ⟨List.mem_of_getElem? (i := 309) (by decide +kernel), by decide +kernel⟩
theorem ql242 : (Jvm.Cond.selects "DendroDesk" ({ cls := "DendroDesk", name := "points", desc := "(I)I" } : Jvm.MethodName) ({ cls := "DendroDesk", name := "points", desc := "(I)I" } : Jvm.MethodName)) ∈ lw_good := List.mem_filter.mpr ⟨List.mem_of_getElem? (i := 310) (by decide +kernel), by decide +kernel⟩
theorem ql243 : (Jvm.Cond.code ({ cls := "DendroDesk", name := "points", desc := "(I)I" } : Jvm.MethodName) prog_1_method_2_code (2 : Nat) (Option.some Jvm.ClassFile.FieldType.int)) ∈ lw_good := List.mem_filter.mpr ⟨List.mem_of_getElem? (i := 311) (by decide +kernel), by decide +kernel⟩
theorem ql248 : (Jvm.Cond.methodLink "DendroDeskLaw" (18 : Nat) ({ cls := "DendroDesk", name := "put", desc := "(III)Z" } : Jvm.MethodName)) ∈ lw_good := List.mem_filter.mpr ⟨List.mem_of_getElem? (i := 316) (by decide +kernel), by decide +kernel⟩
theorem ql249 : (Jvm.Cond.instanceMethod ({ cls := "DendroDesk", name := "put", desc := "(III)Z" } : Jvm.MethodName)) ∈ lw_good := List.mem_filter.mpr ⟨List.mem_of_getElem? (i := 317) (by decide +kernel), by decide +kernel⟩
theorem ql250 : (Jvm.Cond.selects "DendroDesk" ({ cls := "DendroDesk", name := "put", desc := "(III)Z" } : Jvm.MethodName) ({ cls := "DendroDesk", name := "put", desc := "(III)Z" } : Jvm.MethodName)) ∈ lw_good := List.mem_filter.mpr ⟨List.mem_of_getElem? (i := 318) (by decide +kernel), by decide +kernel⟩
theorem ql251 : (Jvm.Cond.code ({ cls := "DendroDesk", name := "put", desc := "(III)Z" } : Jvm.MethodName) prog_1_method_3_code (4 : Nat) (Option.some Jvm.ClassFile.FieldType.boolean)) ∈ lw_good := List.mem_filter.mpr ⟨List.mem_of_getElem? (i := 319) (by decide +kernel), by decide +kernel⟩
theorem ql261 : (Jvm.Cond.methodLink "DendroDeskLaw" (23 : Nat) ({ cls := "DendroDesk", name := "distance", desc := "(II)I" } : Jvm.MethodName)) ∈ lw_good := List.mem_filter.mpr ⟨List.mem_of_getElem? (i := 329) (by decide +kernel), by decide +kernel⟩
theorem ql262 : (Jvm.Cond.instanceMethod ({ cls := "DendroDesk", name := "distance", desc := "(II)I" } : Jvm.MethodName)) ∈ lw_good := List.mem_filter.mpr ⟨List.mem_of_getElem? (i := 330) (by decide +kernel), by decide +kernel⟩
theorem ql263 : (Jvm.Cond.selects "DendroDesk" ({ cls := "DendroDesk", name := "distance", desc := "(II)I" } : Jvm.MethodName) ({ cls := "DendroDesk", name := "distance", desc := "(II)I" } : Jvm.MethodName)) ∈ lw_good := List.mem_filter.mpr ⟨List.mem_of_getElem? (i := 331) (by decide +kernel), by decide +kernel⟩
theorem ql264 : (Jvm.Cond.code ({ cls := "DendroDesk", name := "distance", desc := "(II)I" } : Jvm.MethodName) prog_1_method_4_code (3 : Nat) (Option.some Jvm.ClassFile.FieldType.int)) ∈ lw_good := List.mem_filter.mpr ⟨List.mem_of_getElem? (i := 332) (by decide +kernel), by decide +kernel⟩
theorem ql265 : (Jvm.Cond.methodLink "DendroDeskLaw" (28 : Nat) ({ cls := "DendroDesk", name := "place", desc := "(III)Z" } : Jvm.MethodName)) ∈ lw_good := List.mem_filter.mpr ⟨List.mem_of_getElem? (i := 333) (by decide +kernel), by decide +kernel⟩
theorem ql266 : (Jvm.Cond.instanceMethod ({ cls := "DendroDesk", name := "place", desc := "(III)Z" } : Jvm.MethodName)) ∈ lw_good := List.mem_filter.mpr ⟨List.mem_of_getElem? (i := 334) (by decide +kernel), by decide +kernel⟩
theorem ql267 : (Jvm.Cond.selects "DendroDesk" ({ cls := "DendroDesk", name := "place", desc := "(III)Z" } : Jvm.MethodName) ({ cls := "DendroDesk", name := "place", desc := "(III)Z" } : Jvm.MethodName)) ∈ lw_good := List.mem_filter.mpr ⟨List.mem_of_getElem? (i := 335) (by decide +kernel), by decide +kernel⟩
theorem ql268 : (Jvm.Cond.code ({ cls := "DendroDesk", name := "place", desc := "(III)Z" } : Jvm.MethodName) prog_1_method_5_code (4 : Nat) (Option.some Jvm.ClassFile.FieldType.boolean)) ∈ lw_good := List.mem_filter.mpr ⟨List.mem_of_getElem? (i := 336) (by decide +kernel), by decide +kernel⟩
theorem ql272 : (Jvm.Cond.methodLink "DendroDeskLaw" (32 : Nat) ({ cls := "DendroDesk", name := "measure", desc := "(I)Z" } : Jvm.MethodName)) ∈ lw_good := List.mem_filter.mpr ⟨List.mem_of_getElem? (i := 340) (by decide +kernel), by decide +kernel⟩
theorem ql273 : (Jvm.Cond.instanceMethod ({ cls := "DendroDesk", name := "measure", desc := "(I)Z" } : Jvm.MethodName)) ∈ lw_good := List.mem_filter.mpr ⟨List.mem_of_getElem? (i := 341) (by decide +kernel), by decide +kernel⟩
theorem ql274 : (Jvm.Cond.selects "DendroDesk" ({ cls := "DendroDesk", name := "measure", desc := "(I)Z" } : Jvm.MethodName) ({ cls := "DendroDesk", name := "measure", desc := "(I)Z" } : Jvm.MethodName)) ∈ lw_good := List.mem_filter.mpr ⟨List.mem_of_getElem? (i := 342) (by decide +kernel), by decide +kernel⟩
theorem ql275 : (Jvm.Cond.code ({ cls := "DendroDesk", name := "measure", desc := "(I)Z" } : Jvm.MethodName) prog_1_method_6_code (2 : Nat) (Option.some Jvm.ClassFile.FieldType.boolean)) ∈ lw_good := List.mem_filter.mpr ⟨List.mem_of_getElem? (i := 343) (by decide +kernel), by decide +kernel⟩
theorem ql290 : (Jvm.Cond.methodLink "DendroDeskLaw" (37 : Nat) ({ cls := "DendroDesk", name := "feed", desc := "(IIIII)I" } : Jvm.MethodName)) ∈ lw_good := List.mem_filter.mpr ⟨List.mem_of_getElem? (i := 358) (by decide +kernel), by decide +kernel⟩
theorem ql291 : (Jvm.Cond.instanceMethod ({ cls := "DendroDesk", name := "feed", desc := "(IIIII)I" } : Jvm.MethodName)) ∈ lw_good := List.mem_filter.mpr ⟨List.mem_of_getElem? (i := 359) (by decide +kernel), by decide +kernel⟩
theorem ql292 : (Jvm.Cond.selects "DendroDesk" ({ cls := "DendroDesk", name := "feed", desc := "(IIIII)I" } : Jvm.MethodName) ({ cls := "DendroDesk", name := "feed", desc := "(IIIII)I" } : Jvm.MethodName)) ∈ lw_good := List.mem_filter.mpr ⟨List.mem_of_getElem? (i := 360) (by decide +kernel), by decide +kernel⟩
theorem ql293 : (Jvm.Cond.code ({ cls := "DendroDesk", name := "feed", desc := "(IIIII)I" } : Jvm.MethodName) prog_1_method_7_code (6 : Nat) (Option.some Jvm.ClassFile.FieldType.int)) ∈ lw_good := List.mem_filter.mpr ⟨List.mem_of_getElem? (i := 361) (by decide +kernel), by decide +kernel⟩
theorem ql302 : (Jvm.Cond.methodLink "DendroDeskLaw" (42 : Nat) ({ cls := "DendroDesk", name := "end", desc := "(I)I" } : Jvm.MethodName)) ∈ lw_good := List.mem_filter.mpr ⟨List.mem_of_getElem? (i := 370) (by decide +kernel), by decide +kernel⟩
theorem ql303 : (Jvm.Cond.instanceMethod ({ cls := "DendroDesk", name := "end", desc := "(I)I" } : Jvm.MethodName)) ∈ lw_good := List.mem_filter.mpr ⟨List.mem_of_getElem? (i := 371) (by decide +kernel), by decide +kernel⟩
theorem ql304 : (Jvm.Cond.selects "DendroDesk" ({ cls := "DendroDesk", name := "end", desc := "(I)I" } : Jvm.MethodName) ({ cls := "DendroDesk", name := "end", desc := "(I)I" } : Jvm.MethodName)) ∈ lw_good := List.mem_filter.mpr ⟨List.mem_of_getElem? (i := 372) (by decide +kernel), by decide +kernel⟩
theorem ql305 : (Jvm.Cond.code ({ cls := "DendroDesk", name := "end", desc := "(I)I" } : Jvm.MethodName) prog_1_method_8_code (2 : Nat) (Option.some Jvm.ClassFile.FieldType.int)) ∈ lw_good := List.mem_filter.mpr ⟨List.mem_of_getElem? (i := 373) (by decide +kernel), by decide +kernel⟩
theorem ql306 : (Jvm.Cond.methodLink "DendroDeskLaw" (46 : Nat) ({ cls := "DendroDesk", name := "take", desc := "()I" } : Jvm.MethodName)) ∈ lw_good := List.mem_filter.mpr ⟨List.mem_of_getElem? (i := 374) (by decide +kernel), by decide +kernel⟩
theorem ql307 : (Jvm.Cond.instanceMethod ({ cls := "DendroDesk", name := "take", desc := "()I" } : Jvm.MethodName)) ∈ lw_good := List.mem_filter.mpr ⟨List.mem_of_getElem? (i := 375) (by decide +kernel), by decide +kernel⟩
theorem ql308 : (Jvm.Cond.selects "DendroDesk" ({ cls := "DendroDesk", name := "take", desc := "()I" } : Jvm.MethodName) ({ cls := "DendroDesk", name := "take", desc := "()I" } : Jvm.MethodName)) ∈ lw_good := List.mem_filter.mpr ⟨List.mem_of_getElem? (i := 376) (by decide +kernel), by decide +kernel⟩
theorem ql309 : (Jvm.Cond.code ({ cls := "DendroDesk", name := "take", desc := "()I" } : Jvm.MethodName) prog_1_method_9_code (1 : Nat) (Option.some Jvm.ClassFile.FieldType.int)) ∈ lw_good := List.mem_filter.mpr ⟨List.mem_of_getElem? (i := 377) (by decide +kernel), by decide +kernel⟩
theorem ql317 : (Jvm.Cond.methodLink "DendroDeskLaw" (51 : Nat) ({ cls := "DendroDesk", name := "read", desc := "()I" } : Jvm.MethodName)) ∈ lw_good := List.mem_filter.mpr ⟨List.mem_of_getElem? (i := 385) (by decide +kernel), by decide +kernel⟩
theorem ql318 : (Jvm.Cond.instanceMethod ({ cls := "DendroDesk", name := "read", desc := "()I" } : Jvm.MethodName)) ∈ lw_good := List.mem_filter.mpr ⟨List.mem_of_getElem? (i := 386) (by decide +kernel), by decide +kernel⟩
theorem ql319 : (Jvm.Cond.selects "DendroDesk" ({ cls := "DendroDesk", name := "read", desc := "()I" } : Jvm.MethodName) ({ cls := "DendroDesk", name := "read", desc := "()I" } : Jvm.MethodName)) ∈ lw_good := List.mem_filter.mpr ⟨List.mem_of_getElem? (i := 387) (by decide +kernel), by decide +kernel⟩
theorem ql320 : (Jvm.Cond.code ({ cls := "DendroDesk", name := "read", desc := "()I" } : Jvm.MethodName) prog_1_method_10_code (5 : Nat) (Option.some Jvm.ClassFile.FieldType.int)) ∈ lw_good := List.mem_filter.mpr ⟨List.mem_of_getElem? (i := 388) (by decide +kernel), by decide +kernel⟩
theorem ql344 : (Jvm.Cond.methodLink "DendroDeskLaw" (55 : Nat) ({ cls := "DendroDesk", name := "fault", desc := "()I" } : Jvm.MethodName)) ∈ lw_good := List.mem_filter.mpr ⟨List.mem_of_getElem? (i := 412) (by decide +kernel), by decide +kernel⟩
theorem ql345 : (Jvm.Cond.instanceMethod ({ cls := "DendroDesk", name := "fault", desc := "()I" } : Jvm.MethodName)) ∈ lw_good := List.mem_filter.mpr ⟨List.mem_of_getElem? (i := 413) (by decide +kernel), by decide +kernel⟩
theorem ql346 : (Jvm.Cond.selects "DendroDesk" ({ cls := "DendroDesk", name := "fault", desc := "()I" } : Jvm.MethodName) ({ cls := "DendroDesk", name := "fault", desc := "()I" } : Jvm.MethodName)) ∈ lw_good := List.mem_filter.mpr ⟨List.mem_of_getElem? (i := 414) (by decide +kernel), by decide +kernel⟩
theorem ql347 : (Jvm.Cond.code ({ cls := "DendroDesk", name := "fault", desc := "()I" } : Jvm.MethodName) prog_1_method_11_code (1 : Nat) (Option.some Jvm.ClassFile.FieldType.int)) ∈ lw_good := List.mem_filter.mpr ⟨List.mem_of_getElem? (i := 415) (by decide +kernel), by decide +kernel⟩
theorem ql348 : (Jvm.Cond.methodLink "DendroDeskLaw" (59 : Nat) ({ cls := "DendroDesk", name := "write", desc := "()I" } : Jvm.MethodName)) ∈ lw_good := List.mem_filter.mpr ⟨List.mem_of_getElem? (i := 416) (by decide +kernel), by decide +kernel⟩
theorem ql349 : (Jvm.Cond.instanceMethod ({ cls := "DendroDesk", name := "write", desc := "()I" } : Jvm.MethodName)) ∈ lw_good := List.mem_filter.mpr ⟨List.mem_of_getElem? (i := 417) (by decide +kernel), by decide +kernel⟩
theorem ql350 : (Jvm.Cond.selects "DendroDesk" ({ cls := "DendroDesk", name := "write", desc := "()I" } : Jvm.MethodName) ({ cls := "DendroDesk", name := "write", desc := "()I" } : Jvm.MethodName)) ∈ lw_good := List.mem_filter.mpr ⟨List.mem_of_getElem? (i := 418) (by decide +kernel), by decide +kernel⟩
theorem ql351 : (Jvm.Cond.code ({ cls := "DendroDesk", name := "write", desc := "()I" } : Jvm.MethodName) prog_1_method_12_code (3 : Nat) (Option.some Jvm.ClassFile.FieldType.int)) ∈ lw_good := List.mem_filter.mpr ⟨List.mem_of_getElem? (i := 419) (by decide +kernel), by decide +kernel⟩
theorem ql358 : (Jvm.Cond.methodLink "DendroDeskLaw" (63 : Nat) ({ cls := "DendroDesk", name := "out", desc := "(I)I" } : Jvm.MethodName)) ∈ lw_good := List.mem_filter.mpr ⟨List.mem_of_getElem? (i := 426) (by decide +kernel), by decide +kernel⟩
theorem ql359 : (Jvm.Cond.instanceMethod ({ cls := "DendroDesk", name := "out", desc := "(I)I" } : Jvm.MethodName)) ∈ lw_good := List.mem_filter.mpr ⟨List.mem_of_getElem? (i := 427) (by decide +kernel), by decide +kernel⟩
theorem ql360 : (Jvm.Cond.selects "DendroDesk" ({ cls := "DendroDesk", name := "out", desc := "(I)I" } : Jvm.MethodName) ({ cls := "DendroDesk", name := "out", desc := "(I)I" } : Jvm.MethodName)) ∈ lw_good := List.mem_filter.mpr ⟨List.mem_of_getElem? (i := 428) (by decide +kernel), by decide +kernel⟩
theorem ql361 : (Jvm.Cond.code ({ cls := "DendroDesk", name := "out", desc := "(I)I" } : Jvm.MethodName) prog_1_method_13_code (2 : Nat) (Option.some Jvm.ClassFile.FieldType.int)) ∈ lw_good := List.mem_filter.mpr ⟨List.mem_of_getElem? (i := 429) (by decide +kernel), by decide +kernel⟩
theorem ql363 : (Jvm.Cond.methodLink "DendroDeskLaw" (67 : Nat) ({ cls := "DendroDesk", name := "linkage", desc := "(IIII)J" } : Jvm.MethodName)) ∈ lw_good := List.mem_filter.mpr ⟨List.mem_of_getElem? (i := 431) (by decide +kernel), by decide +kernel⟩
theorem ql364 : (Jvm.Cond.instanceMethod ({ cls := "DendroDesk", name := "linkage", desc := "(IIII)J" } : Jvm.MethodName)) ∈ lw_good := List.mem_filter.mpr ⟨List.mem_of_getElem? (i := 432) (by decide +kernel), by decide +kernel⟩
theorem ql365 : (Jvm.Cond.selects "DendroDesk" ({ cls := "DendroDesk", name := "linkage", desc := "(IIII)J" } : Jvm.MethodName) ({ cls := "DendroDesk", name := "linkage", desc := "(IIII)J" } : Jvm.MethodName)) ∈ lw_good := List.mem_filter.mpr ⟨List.mem_of_getElem? (i := 433) (by decide +kernel), by decide +kernel⟩
theorem ql366 : (Jvm.Cond.code ({ cls := "DendroDesk", name := "linkage", desc := "(IIII)J" } : Jvm.MethodName) prog_1_method_14_code (15 : Nat) (Option.some Jvm.ClassFile.FieldType.long)) ∈ lw_good := List.mem_filter.mpr ⟨List.mem_of_getElem? (i := 434) (by decide +kernel), by decide +kernel⟩
theorem ql413 : (Jvm.Cond.methodLink "DendroDeskLaw" (72 : Nat) ({ cls := "DendroDesk", name := "greedy", desc := "(II)I" } : Jvm.MethodName)) ∈ lw_good := List.mem_filter.mpr ⟨List.mem_of_getElem? (i := 481) (by decide +kernel), by decide +kernel⟩
theorem ql414 : (Jvm.Cond.instanceMethod ({ cls := "DendroDesk", name := "greedy", desc := "(II)I" } : Jvm.MethodName)) ∈ lw_good := List.mem_filter.mpr ⟨List.mem_of_getElem? (i := 482) (by decide +kernel), by decide +kernel⟩
theorem ql415 : (Jvm.Cond.selects "DendroDesk" ({ cls := "DendroDesk", name := "greedy", desc := "(II)I" } : Jvm.MethodName) ({ cls := "DendroDesk", name := "greedy", desc := "(II)I" } : Jvm.MethodName)) ∈ lw_good := List.mem_filter.mpr ⟨List.mem_of_getElem? (i := 483) (by decide +kernel), by decide +kernel⟩
theorem ql416 : (Jvm.Cond.code ({ cls := "DendroDesk", name := "greedy", desc := "(II)I" } : Jvm.MethodName) prog_1_method_15_code (3 : Nat) (Option.some Jvm.ClassFile.FieldType.int)) ∈ lw_good := List.mem_filter.mpr ⟨List.mem_of_getElem? (i := 484) (by decide +kernel), by decide +kernel⟩
theorem ql502 : (Jvm.Cond.methodLink "DendroDeskLaw" (76 : Nat) ({ cls := "DendroDesk", name := "chain", desc := "(II)I" } : Jvm.MethodName)) ∈ lw_good := List.mem_filter.mpr ⟨List.mem_of_getElem? (i := 570) (by decide +kernel), by decide +kernel⟩
theorem ql503 : (Jvm.Cond.instanceMethod ({ cls := "DendroDesk", name := "chain", desc := "(II)I" } : Jvm.MethodName)) ∈ lw_good := List.mem_filter.mpr ⟨List.mem_of_getElem? (i := 571) (by decide +kernel), by decide +kernel⟩
theorem ql504 : (Jvm.Cond.selects "DendroDesk" ({ cls := "DendroDesk", name := "chain", desc := "(II)I" } : Jvm.MethodName) ({ cls := "DendroDesk", name := "chain", desc := "(II)I" } : Jvm.MethodName)) ∈ lw_good := List.mem_filter.mpr ⟨List.mem_of_getElem? (i := 572) (by decide +kernel), by decide +kernel⟩
theorem ql505 : (Jvm.Cond.code ({ cls := "DendroDesk", name := "chain", desc := "(II)I" } : Jvm.MethodName) prog_1_method_16_code (3 : Nat) (Option.some Jvm.ClassFile.FieldType.int)) ∈ lw_good := List.mem_filter.mpr ⟨List.mem_of_getElem? (i := 573) (by decide +kernel), by decide +kernel⟩
theorem ql506 : (Jvm.Cond.methodLink "DendroDeskLaw" (80 : Nat) ({ cls := "DendroDesk", name := "tree", desc := "(II)I" } : Jvm.MethodName)) ∈ lw_good := List.mem_filter.mpr ⟨List.mem_of_getElem? (i := 574) (by decide +kernel), by decide +kernel⟩
theorem ql507 : (Jvm.Cond.instanceMethod ({ cls := "DendroDesk", name := "tree", desc := "(II)I" } : Jvm.MethodName)) ∈ lw_good := List.mem_filter.mpr ⟨List.mem_of_getElem? (i := 575) (by decide +kernel), by decide +kernel⟩
theorem ql508 : (Jvm.Cond.selects "DendroDesk" ({ cls := "DendroDesk", name := "tree", desc := "(II)I" } : Jvm.MethodName) ({ cls := "DendroDesk", name := "tree", desc := "(II)I" } : Jvm.MethodName)) ∈ lw_good := List.mem_filter.mpr ⟨List.mem_of_getElem? (i := 576) (by decide +kernel), by decide +kernel⟩
theorem ql509 : (Jvm.Cond.code ({ cls := "DendroDesk", name := "tree", desc := "(II)I" } : Jvm.MethodName) prog_1_method_17_code (4 : Nat) (Option.some Jvm.ClassFile.FieldType.int)) ∈ lw_good := List.mem_filter.mpr ⟨List.mem_of_getElem? (i := 577) (by decide +kernel), by decide +kernel⟩
theorem ql514 : (Jvm.Cond.methodLink "DendroDeskLaw" (84 : Nat) ({ cls := "DendroDesk", name := "step", desc := "(III)I" } : Jvm.MethodName)) ∈ lw_good := List.mem_filter.mpr ⟨List.mem_of_getElem? (i := 582) (by decide +kernel), by decide +kernel⟩
theorem ql515 : (Jvm.Cond.instanceMethod ({ cls := "DendroDesk", name := "step", desc := "(III)I" } : Jvm.MethodName)) ∈ lw_good := List.mem_filter.mpr ⟨List.mem_of_getElem? (i := 583) (by decide +kernel), by decide +kernel⟩
theorem ql516 : (Jvm.Cond.selects "DendroDesk" ({ cls := "DendroDesk", name := "step", desc := "(III)I" } : Jvm.MethodName) ({ cls := "DendroDesk", name := "step", desc := "(III)I" } : Jvm.MethodName)) ∈ lw_good := List.mem_filter.mpr ⟨List.mem_of_getElem? (i := 584) (by decide +kernel), by decide +kernel⟩
theorem ql517 : (Jvm.Cond.code ({ cls := "DendroDesk", name := "step", desc := "(III)I" } : Jvm.MethodName) prog_1_method_18_code (5 : Nat) (Option.some Jvm.ClassFile.FieldType.int)) ∈ lw_good := List.mem_filter.mpr ⟨List.mem_of_getElem? (i := 585) (by decide +kernel), by decide +kernel⟩
theorem ql519 : (Jvm.Cond.methodLink "DendroDeskLaw" (89 : Nat) ({ cls := "DendroDesk", name := "height", desc := "(III)J" } : Jvm.MethodName)) ∈ lw_good := List.mem_filter.mpr ⟨List.mem_of_getElem? (i := 587) (by decide +kernel), by decide +kernel⟩
theorem ql520 : (Jvm.Cond.instanceMethod ({ cls := "DendroDesk", name := "height", desc := "(III)J" } : Jvm.MethodName)) ∈ lw_good := List.mem_filter.mpr ⟨List.mem_of_getElem? (i := 588) (by decide +kernel), by decide +kernel⟩
theorem ql521 : (Jvm.Cond.selects "DendroDesk" ({ cls := "DendroDesk", name := "height", desc := "(III)J" } : Jvm.MethodName) ({ cls := "DendroDesk", name := "height", desc := "(III)J" } : Jvm.MethodName)) ∈ lw_good := List.mem_filter.mpr ⟨List.mem_of_getElem? (i := 589) (by decide +kernel), by decide +kernel⟩
theorem ql522 : (Jvm.Cond.code ({ cls := "DendroDesk", name := "height", desc := "(III)J" } : Jvm.MethodName) prog_1_method_19_code (5 : Nat) (Option.some Jvm.ClassFile.FieldType.long)) ∈ lw_good := List.mem_filter.mpr ⟨List.mem_of_getElem? (i := 590) (by decide +kernel), by decide +kernel⟩
theorem ql523 : (Jvm.Cond.methodLink "DendroDeskLaw" (94 : Nat) ({ cls := "DendroDesk", name := "joins", desc := "(III)I" } : Jvm.MethodName)) ∈ lw_good := List.mem_filter.mpr ⟨List.mem_of_getElem? (i := 591) (by decide +kernel), by decide +kernel⟩
theorem ql524 : (Jvm.Cond.instanceMethod ({ cls := "DendroDesk", name := "joins", desc := "(III)I" } : Jvm.MethodName)) ∈ lw_good := List.mem_filter.mpr ⟨List.mem_of_getElem? (i := 592) (by decide +kernel), by decide +kernel⟩
theorem ql525 : (Jvm.Cond.selects "DendroDesk" ({ cls := "DendroDesk", name := "joins", desc := "(III)I" } : Jvm.MethodName) ({ cls := "DendroDesk", name := "joins", desc := "(III)I" } : Jvm.MethodName)) ∈ lw_good := List.mem_filter.mpr ⟨List.mem_of_getElem? (i := 593) (by decide +kernel), by decide +kernel⟩
theorem ql526 : (Jvm.Cond.code ({ cls := "DendroDesk", name := "joins", desc := "(III)I" } : Jvm.MethodName) prog_1_method_20_code (5 : Nat) (Option.some Jvm.ClassFile.FieldType.int)) ∈ lw_good := List.mem_filter.mpr ⟨List.mem_of_getElem? (i := 594) (by decide +kernel), by decide +kernel⟩
theorem ql535 : (Jvm.Cond.methodLink "DendroDeskLaw" (98 : Nat) ({ cls := "DendroDesk", name := "same", desc := "(II)Z" } : Jvm.MethodName)) ∈ lw_good := List.mem_filter.mpr ⟨List.mem_of_getElem? (i := 603) (by decide +kernel), by decide +kernel⟩
theorem ql536 : (Jvm.Cond.instanceMethod ({ cls := "DendroDesk", name := "same", desc := "(II)Z" } : Jvm.MethodName)) ∈ lw_good := List.mem_filter.mpr ⟨List.mem_of_getElem? (i := 604) (by decide +kernel), by decide +kernel⟩
theorem ql537 : (Jvm.Cond.selects "DendroDesk" ({ cls := "DendroDesk", name := "same", desc := "(II)Z" } : Jvm.MethodName) ({ cls := "DendroDesk", name := "same", desc := "(II)Z" } : Jvm.MethodName)) ∈ lw_good := List.mem_filter.mpr ⟨List.mem_of_getElem? (i := 605) (by decide +kernel), by decide +kernel⟩
theorem ql538 : (Jvm.Cond.code ({ cls := "DendroDesk", name := "same", desc := "(II)Z" } : Jvm.MethodName) prog_1_method_21_code (5 : Nat) (Option.some Jvm.ClassFile.FieldType.boolean)) ∈ lw_good := List.mem_filter.mpr ⟨List.mem_of_getElem? (i := 606) (by decide +kernel), by decide +kernel⟩
theorem ql543 : (Jvm.Cond.methodLink "DendroDeskLaw" (103 : Nat) ({ cls := "DendroDesk", name := "text", desc := "(I)I" } : Jvm.MethodName)) ∈ lw_good := List.mem_filter.mpr ⟨List.mem_of_getElem? (i := 611) (by decide +kernel), by decide +kernel⟩
theorem ql544 : (Jvm.Cond.instanceMethod ({ cls := "DendroDesk", name := "text", desc := "(I)I" } : Jvm.MethodName)) ∈ lw_good := List.mem_filter.mpr ⟨List.mem_of_getElem? (i := 612) (by decide +kernel), by decide +kernel⟩
theorem ql545 : (Jvm.Cond.selects "DendroDesk" ({ cls := "DendroDesk", name := "text", desc := "(I)I" } : Jvm.MethodName) ({ cls := "DendroDesk", name := "text", desc := "(I)I" } : Jvm.MethodName)) ∈ lw_good := List.mem_filter.mpr ⟨List.mem_of_getElem? (i := 613) (by decide +kernel), by decide +kernel⟩
theorem ql546 : (Jvm.Cond.code ({ cls := "DendroDesk", name := "text", desc := "(I)I" } : Jvm.MethodName) prog_1_method_22_code (3 : Nat) (Option.some Jvm.ClassFile.FieldType.int)) ∈ lw_good := List.mem_filter.mpr ⟨List.mem_of_getElem? (i := 614) (by decide +kernel), by decide +kernel⟩
theorem ql571 : (Jvm.Cond.methodLink "DendroDeskLaw" (107 : Nat) ({ cls := "DendroDesk", name := "order", desc := "(II)I" } : Jvm.MethodName)) ∈ lw_good := List.mem_filter.mpr ⟨List.mem_of_getElem? (i := 639) (by decide +kernel), by decide +kernel⟩
theorem ql572 : (Jvm.Cond.instanceMethod ({ cls := "DendroDesk", name := "order", desc := "(II)I" } : Jvm.MethodName)) ∈ lw_good := List.mem_filter.mpr ⟨List.mem_of_getElem? (i := 640) (by decide +kernel), by decide +kernel⟩
theorem ql573 : (Jvm.Cond.selects "DendroDesk" ({ cls := "DendroDesk", name := "order", desc := "(II)I" } : Jvm.MethodName) ({ cls := "DendroDesk", name := "order", desc := "(II)I" } : Jvm.MethodName)) ∈ lw_good := List.mem_filter.mpr ⟨List.mem_of_getElem? (i := 641) (by decide +kernel), by decide +kernel⟩
theorem ql574 : (Jvm.Cond.code ({ cls := "DendroDesk", name := "order", desc := "(II)I" } : Jvm.MethodName) prog_1_method_23_code (4 : Nat) (Option.some Jvm.ClassFile.FieldType.int)) ∈ lw_good := List.mem_filter.mpr ⟨List.mem_of_getElem? (i := 642) (by decide +kernel), by decide +kernel⟩
theorem ql583 : (Jvm.Cond.methodLink "DendroDeskLaw" (111 : Nat) ({ cls := "DendroDesk", name := "cut", desc := "(II)I" } : Jvm.MethodName)) ∈ lw_good := List.mem_filter.mpr ⟨List.mem_of_getElem? (i := 651) (by decide +kernel), by decide +kernel⟩
theorem ql584 : (Jvm.Cond.instanceMethod ({ cls := "DendroDesk", name := "cut", desc := "(II)I" } : Jvm.MethodName)) ∈ lw_good := List.mem_filter.mpr ⟨List.mem_of_getElem? (i := 652) (by decide +kernel), by decide +kernel⟩
theorem ql585 : (Jvm.Cond.selects "DendroDesk" ({ cls := "DendroDesk", name := "cut", desc := "(II)I" } : Jvm.MethodName) ({ cls := "DendroDesk", name := "cut", desc := "(II)I" } : Jvm.MethodName)) ∈ lw_good := List.mem_filter.mpr ⟨List.mem_of_getElem? (i := 653) (by decide +kernel), by decide +kernel⟩
theorem ql586 : (Jvm.Cond.code ({ cls := "DendroDesk", name := "cut", desc := "(II)I" } : Jvm.MethodName) prog_1_method_24_code (4 : Nat) (Option.some Jvm.ClassFile.FieldType.int)) ∈ lw_good := List.mem_filter.mpr ⟨List.mem_of_getElem? (i := 654) (by decide +kernel), by decide +kernel⟩
theorem ql600 : (Jvm.Cond.methodLink "DendroDeskLaw" (115 : Nat) ({ cls := "DendroDesk", name := "cutAt", desc := "(III)I" } : Jvm.MethodName)) ∈ lw_good := List.mem_filter.mpr ⟨List.mem_of_getElem? (i := 668) (by decide +kernel), by decide +kernel⟩
theorem ql601 : (Jvm.Cond.instanceMethod ({ cls := "DendroDesk", name := "cutAt", desc := "(III)I" } : Jvm.MethodName)) ∈ lw_good := List.mem_filter.mpr ⟨List.mem_of_getElem? (i := 669) (by decide +kernel), by decide +kernel⟩
theorem ql602 : (Jvm.Cond.selects "DendroDesk" ({ cls := "DendroDesk", name := "cutAt", desc := "(III)I" } : Jvm.MethodName) ({ cls := "DendroDesk", name := "cutAt", desc := "(III)I" } : Jvm.MethodName)) ∈ lw_good := List.mem_filter.mpr ⟨List.mem_of_getElem? (i := 670) (by decide +kernel), by decide +kernel⟩
theorem ql603 : (Jvm.Cond.code ({ cls := "DendroDesk", name := "cutAt", desc := "(III)I" } : Jvm.MethodName) prog_1_method_25_code (5 : Nat) (Option.some Jvm.ClassFile.FieldType.int)) ∈ lw_good := List.mem_filter.mpr ⟨List.mem_of_getElem? (i := 671) (by decide +kernel), by decide +kernel⟩
theorem ql609 : (Jvm.Cond.methodLink "DendroDeskLaw" (119 : Nat) ({ cls := "DendroDesk", name := "label", desc := "(II)I" } : Jvm.MethodName)) ∈ lw_good := List.mem_filter.mpr ⟨List.mem_of_getElem? (i := 677) (by decide +kernel), by decide +kernel⟩
theorem ql610 : (Jvm.Cond.instanceMethod ({ cls := "DendroDesk", name := "label", desc := "(II)I" } : Jvm.MethodName)) ∈ lw_good := List.mem_filter.mpr ⟨List.mem_of_getElem? (i := 678) (by decide +kernel), by decide +kernel⟩
theorem ql611 : (Jvm.Cond.selects "DendroDesk" ({ cls := "DendroDesk", name := "label", desc := "(II)I" } : Jvm.MethodName) ({ cls := "DendroDesk", name := "label", desc := "(II)I" } : Jvm.MethodName)) ∈ lw_good := List.mem_filter.mpr ⟨List.mem_of_getElem? (i := 679) (by decide +kernel), by decide +kernel⟩
theorem ql612 : (Jvm.Cond.code ({ cls := "DendroDesk", name := "label", desc := "(II)I" } : Jvm.MethodName) prog_1_method_26_code (4 : Nat) (Option.some Jvm.ClassFile.FieldType.int)) ∈ lw_good := List.mem_filter.mpr ⟨List.mem_of_getElem? (i := 680) (by decide +kernel), by decide +kernel⟩
theorem ql613 : (Jvm.Cond.methodLink "DendroDeskLaw" (123 : Nat) ({ cls := "DendroDesk", name := "agree", desc := "(II)I" } : Jvm.MethodName)) ∈ lw_good := List.mem_filter.mpr ⟨List.mem_of_getElem? (i := 681) (by decide +kernel), by decide +kernel⟩
theorem ql614 : (Jvm.Cond.instanceMethod ({ cls := "DendroDesk", name := "agree", desc := "(II)I" } : Jvm.MethodName)) ∈ lw_good := List.mem_filter.mpr ⟨List.mem_of_getElem? (i := 682) (by decide +kernel), by decide +kernel⟩
theorem ql615 : (Jvm.Cond.selects "DendroDesk" ({ cls := "DendroDesk", name := "agree", desc := "(II)I" } : Jvm.MethodName) ({ cls := "DendroDesk", name := "agree", desc := "(II)I" } : Jvm.MethodName)) ∈ lw_good := List.mem_filter.mpr ⟨List.mem_of_getElem? (i := 683) (by decide +kernel), by decide +kernel⟩
theorem ql616 : (Jvm.Cond.code ({ cls := "DendroDesk", name := "agree", desc := "(II)I" } : Jvm.MethodName) prog_1_method_27_code (8 : Nat) (Option.some Jvm.ClassFile.FieldType.int)) ∈ lw_good := List.mem_filter.mpr ⟨List.mem_of_getElem? (i := 684) (by decide +kernel), by decide +kernel⟩
theorem ql621 : (Jvm.Cond.methodLink "DendroDeskLaw" (127 : Nat) ({ cls := "DendroDesk", name := "middle", desc := "(II)I" } : Jvm.MethodName)) ∈ lw_good := List.mem_filter.mpr ⟨List.mem_of_getElem? (i := 689) (by decide +kernel), by decide +kernel⟩
theorem ql622 : (Jvm.Cond.instanceMethod ({ cls := "DendroDesk", name := "middle", desc := "(II)I" } : Jvm.MethodName)) ∈ lw_good := List.mem_filter.mpr ⟨List.mem_of_getElem? (i := 690) (by decide +kernel), by decide +kernel⟩
theorem ql623 : (Jvm.Cond.selects "DendroDesk" ({ cls := "DendroDesk", name := "middle", desc := "(II)I" } : Jvm.MethodName) ({ cls := "DendroDesk", name := "middle", desc := "(II)I" } : Jvm.MethodName)) ∈ lw_good := List.mem_filter.mpr ⟨List.mem_of_getElem? (i := 691) (by decide +kernel), by decide +kernel⟩
theorem ql624 : (Jvm.Cond.code ({ cls := "DendroDesk", name := "middle", desc := "(II)I" } : Jvm.MethodName) prog_1_method_28_code (8 : Nat) (Option.some Jvm.ClassFile.FieldType.int)) ∈ lw_good := List.mem_filter.mpr ⟨List.mem_of_getElem? (i := 692) (by decide +kernel), by decide +kernel⟩
theorem ql754 : (Jvm.Cond.methodLink "DendroDeskLaw" (17 : Nat) ({ cls := "DendroDeskModel", name := "points", desc := "(I)I" } : Jvm.MethodName)) ∈ lw_good := List.mem_filter.mpr ⟨List.mem_of_getElem? (i := 822) (by decide +kernel), by decide +kernel⟩
theorem ql755 : (Jvm.Cond.instanceMethod ({ cls := "DendroDeskModel", name := "points", desc := "(I)I" } : Jvm.MethodName)) ∈ lw_good := List.mem_filter.mpr ⟨List.mem_of_getElem? (i := 823) (by decide +kernel), by decide +kernel⟩
theorem ql756 : (Jvm.Cond.selects "DendroDeskModel" ({ cls := "DendroDeskModel", name := "points", desc := "(I)I" } : Jvm.MethodName) ({ cls := "DendroDeskModel", name := "points", desc := "(I)I" } : Jvm.MethodName)) ∈ lw_good := List.mem_filter.mpr ⟨List.mem_of_getElem? (i := 824) (by decide +kernel), by decide +kernel⟩
theorem ql757 : (Jvm.Cond.code ({ cls := "DendroDeskModel", name := "points", desc := "(I)I" } : Jvm.MethodName) prog_10_method_3_code (3 : Nat) (Option.some Jvm.ClassFile.FieldType.int)) ∈ lw_good := List.mem_filter.mpr ⟨List.mem_of_getElem? (i := 825) (by decide +kernel), by decide +kernel⟩
theorem ql758 : (Jvm.Cond.methodLink "DendroDeskLaw" (22 : Nat) ({ cls := "DendroDeskModel", name := "put", desc := "(III)Z" } : Jvm.MethodName)) ∈ lw_good := List.mem_filter.mpr ⟨List.mem_of_getElem? (i := 826) (by decide +kernel), by decide +kernel⟩
theorem ql759 : (Jvm.Cond.instanceMethod ({ cls := "DendroDeskModel", name := "put", desc := "(III)Z" } : Jvm.MethodName)) ∈ lw_good := List.mem_filter.mpr ⟨List.mem_of_getElem? (i := 827) (by decide +kernel), by decide +kernel⟩
theorem ql760 : (Jvm.Cond.selects "DendroDeskModel" ({ cls := "DendroDeskModel", name := "put", desc := "(III)Z" } : Jvm.MethodName) ({ cls := "DendroDeskModel", name := "put", desc := "(III)Z" } : Jvm.MethodName)) ∈ lw_good := List.mem_filter.mpr ⟨List.mem_of_getElem? (i := 828) (by decide +kernel), by decide +kernel⟩
theorem ql761 : (Jvm.Cond.code ({ cls := "DendroDeskModel", name := "put", desc := "(III)Z" } : Jvm.MethodName) prog_10_method_5_code (4 : Nat) (Option.some Jvm.ClassFile.FieldType.boolean)) ∈ lw_good := List.mem_filter.mpr ⟨List.mem_of_getElem? (i := 829) (by decide +kernel), by decide +kernel⟩
theorem ql770 : (Jvm.Cond.methodLink "DendroDeskLaw" (27 : Nat) ({ cls := "DendroDeskModel", name := "distance", desc := "(II)I" } : Jvm.MethodName)) ∈ lw_good := List.mem_filter.mpr ⟨List.mem_of_getElem? (i := 838) (by decide +kernel), by decide +kernel⟩
theorem ql771 : (Jvm.Cond.instanceMethod ({ cls := "DendroDeskModel", name := "distance", desc := "(II)I" } : Jvm.MethodName)) ∈ lw_good := List.mem_filter.mpr ⟨List.mem_of_getElem? (i := 839) (by decide +kernel), by decide +kernel⟩
theorem ql772 : (Jvm.Cond.selects "DendroDeskModel" ({ cls := "DendroDeskModel", name := "distance", desc := "(II)I" } : Jvm.MethodName) ({ cls := "DendroDeskModel", name := "distance", desc := "(II)I" } : Jvm.MethodName)) ∈ lw_good := List.mem_filter.mpr ⟨List.mem_of_getElem? (i := 840) (by decide +kernel), by decide +kernel⟩
theorem ql773 : (Jvm.Cond.code ({ cls := "DendroDeskModel", name := "distance", desc := "(II)I" } : Jvm.MethodName) prog_10_method_6_code (3 : Nat) (Option.some Jvm.ClassFile.FieldType.int)) ∈ lw_good := List.mem_filter.mpr ⟨List.mem_of_getElem? (i := 841) (by decide +kernel), by decide +kernel⟩
theorem ql774 : (Jvm.Cond.methodLink "DendroDeskLaw" (31 : Nat) ({ cls := "DendroDeskModel", name := "place", desc := "(III)Z" } : Jvm.MethodName)) ∈ lw_good := List.mem_filter.mpr ⟨List.mem_of_getElem? (i := 842) (by decide +kernel), by decide +kernel⟩
theorem ql775 : (Jvm.Cond.instanceMethod ({ cls := "DendroDeskModel", name := "place", desc := "(III)Z" } : Jvm.MethodName)) ∈ lw_good := List.mem_filter.mpr ⟨List.mem_of_getElem? (i := 843) (by decide +kernel), by decide +kernel⟩
theorem ql776 : (Jvm.Cond.selects "DendroDeskModel" ({ cls := "DendroDeskModel", name := "place", desc := "(III)Z" } : Jvm.MethodName) ({ cls := "DendroDeskModel", name := "place", desc := "(III)Z" } : Jvm.MethodName)) ∈ lw_good := List.mem_filter.mpr ⟨List.mem_of_getElem? (i := 844) (by decide +kernel), by decide +kernel⟩
theorem ql777 : (Jvm.Cond.code ({ cls := "DendroDeskModel", name := "place", desc := "(III)Z" } : Jvm.MethodName) prog_10_method_7_code (4 : Nat) (Option.some Jvm.ClassFile.FieldType.boolean)) ∈ lw_good := List.mem_filter.mpr ⟨List.mem_of_getElem? (i := 845) (by decide +kernel), by decide +kernel⟩
theorem ql778 : (Jvm.Cond.methodLink "DendroDeskLaw" (36 : Nat) ({ cls := "DendroDeskModel", name := "measure", desc := "(I)Z" } : Jvm.MethodName)) ∈ lw_good := List.mem_filter.mpr ⟨List.mem_of_getElem? (i := 846) (by decide +kernel), by decide +kernel⟩
theorem ql779 : (Jvm.Cond.instanceMethod ({ cls := "DendroDeskModel", name := "measure", desc := "(I)Z" } : Jvm.MethodName)) ∈ lw_good := List.mem_filter.mpr ⟨List.mem_of_getElem? (i := 847) (by decide +kernel), by decide +kernel⟩
theorem ql780 : (Jvm.Cond.selects "DendroDeskModel" ({ cls := "DendroDeskModel", name := "measure", desc := "(I)Z" } : Jvm.MethodName) ({ cls := "DendroDeskModel", name := "measure", desc := "(I)Z" } : Jvm.MethodName)) ∈ lw_good := List.mem_filter.mpr ⟨List.mem_of_getElem? (i := 848) (by decide +kernel), by decide +kernel⟩
theorem ql781 : (Jvm.Cond.code ({ cls := "DendroDeskModel", name := "measure", desc := "(I)Z" } : Jvm.MethodName) prog_10_method_9_code (6 : Nat) (Option.some Jvm.ClassFile.FieldType.boolean)) ∈ lw_good := List.mem_filter.mpr ⟨List.mem_of_getElem? (i := 849) (by decide +kernel), by decide +kernel⟩
theorem ql785 : (Jvm.Cond.methodLink "DendroDeskLaw" (41 : Nat) ({ cls := "DendroDeskModel", name := "feed", desc := "(IIIII)I" } : Jvm.MethodName)) ∈ lw_good := List.mem_filter.mpr ⟨List.mem_of_getElem? (i := 853) (by decide +kernel), by decide +kernel⟩
theorem ql786 : (Jvm.Cond.instanceMethod ({ cls := "DendroDeskModel", name := "feed", desc := "(IIIII)I" } : Jvm.MethodName)) ∈ lw_good := List.mem_filter.mpr ⟨List.mem_of_getElem? (i := 854) (by decide +kernel), by decide +kernel⟩
theorem ql787 : (Jvm.Cond.selects "DendroDeskModel" ({ cls := "DendroDeskModel", name := "feed", desc := "(IIIII)I" } : Jvm.MethodName) ({ cls := "DendroDeskModel", name := "feed", desc := "(IIIII)I" } : Jvm.MethodName)) ∈ lw_good := List.mem_filter.mpr ⟨List.mem_of_getElem? (i := 855) (by decide +kernel), by decide +kernel⟩
theorem ql788 : (Jvm.Cond.code ({ cls := "DendroDeskModel", name := "feed", desc := "(IIIII)I" } : Jvm.MethodName) prog_10_method_10_code (8 : Nat) (Option.some Jvm.ClassFile.FieldType.int)) ∈ lw_good := List.mem_filter.mpr ⟨List.mem_of_getElem? (i := 856) (by decide +kernel), by decide +kernel⟩
theorem ql789 : (Jvm.Cond.methodLink "DendroDeskLaw" (45 : Nat) ({ cls := "DendroDeskModel", name := "end", desc := "(I)I" } : Jvm.MethodName)) ∈ lw_good := List.mem_filter.mpr ⟨List.mem_of_getElem? (i := 857) (by decide +kernel), by decide +kernel⟩
theorem ql790 : (Jvm.Cond.instanceMethod ({ cls := "DendroDeskModel", name := "end", desc := "(I)I" } : Jvm.MethodName)) ∈ lw_good := List.mem_filter.mpr ⟨List.mem_of_getElem? (i := 858) (by decide +kernel), by decide +kernel⟩
theorem ql791 : (Jvm.Cond.selects "DendroDeskModel" ({ cls := "DendroDeskModel", name := "end", desc := "(I)I" } : Jvm.MethodName) ({ cls := "DendroDeskModel", name := "end", desc := "(I)I" } : Jvm.MethodName)) ∈ lw_good := List.mem_filter.mpr ⟨List.mem_of_getElem? (i := 859) (by decide +kernel), by decide +kernel⟩
theorem ql792 : (Jvm.Cond.code ({ cls := "DendroDeskModel", name := "end", desc := "(I)I" } : Jvm.MethodName) prog_10_method_11_code (2 : Nat) (Option.some Jvm.ClassFile.FieldType.int)) ∈ lw_good := List.mem_filter.mpr ⟨List.mem_of_getElem? (i := 860) (by decide +kernel), by decide +kernel⟩
theorem ql793 : (Jvm.Cond.methodLink "DendroDeskLaw" (50 : Nat) ({ cls := "DendroDeskModel", name := "take", desc := "()I" } : Jvm.MethodName)) ∈ lw_good := List.mem_filter.mpr ⟨List.mem_of_getElem? (i := 861) (by decide +kernel), by decide +kernel⟩
theorem ql794 : (Jvm.Cond.instanceMethod ({ cls := "DendroDeskModel", name := "take", desc := "()I" } : Jvm.MethodName)) ∈ lw_good := List.mem_filter.mpr ⟨List.mem_of_getElem? (i := 862) (by decide +kernel), by decide +kernel⟩
theorem ql795 : (Jvm.Cond.selects "DendroDeskModel" ({ cls := "DendroDeskModel", name := "take", desc := "()I" } : Jvm.MethodName) ({ cls := "DendroDeskModel", name := "take", desc := "()I" } : Jvm.MethodName)) ∈ lw_good := List.mem_filter.mpr ⟨List.mem_of_getElem? (i := 863) (by decide +kernel), by decide +kernel⟩
theorem ql796 : (Jvm.Cond.code ({ cls := "DendroDeskModel", name := "take", desc := "()I" } : Jvm.MethodName) prog_10_method_12_code (2 : Nat) (Option.some Jvm.ClassFile.FieldType.int)) ∈ lw_good := List.mem_filter.mpr ⟨List.mem_of_getElem? (i := 864) (by decide +kernel), by decide +kernel⟩
theorem ql797 : (Jvm.Cond.methodLink "DendroDeskLaw" (54 : Nat) ({ cls := "DendroDeskModel", name := "read", desc := "()I" } : Jvm.MethodName)) ∈ lw_good := List.mem_filter.mpr ⟨List.mem_of_getElem? (i := 865) (by decide +kernel), by decide +kernel⟩
theorem ql798 : (Jvm.Cond.instanceMethod ({ cls := "DendroDeskModel", name := "read", desc := "()I" } : Jvm.MethodName)) ∈ lw_good := List.mem_filter.mpr ⟨List.mem_of_getElem? (i := 866) (by decide +kernel), by decide +kernel⟩
theorem ql799 : (Jvm.Cond.selects "DendroDeskModel" ({ cls := "DendroDeskModel", name := "read", desc := "()I" } : Jvm.MethodName) ({ cls := "DendroDeskModel", name := "read", desc := "()I" } : Jvm.MethodName)) ∈ lw_good := List.mem_filter.mpr ⟨List.mem_of_getElem? (i := 867) (by decide +kernel), by decide +kernel⟩
theorem ql800 : (Jvm.Cond.code ({ cls := "DendroDeskModel", name := "read", desc := "()I" } : Jvm.MethodName) prog_10_method_13_code (9 : Nat) (Option.some Jvm.ClassFile.FieldType.int)) ∈ lw_good := List.mem_filter.mpr ⟨List.mem_of_getElem? (i := 868) (by decide +kernel), by decide +kernel⟩
theorem ql803 : (Jvm.Cond.methodLink "DendroDeskLaw" (58 : Nat) ({ cls := "DendroDeskModel", name := "fault", desc := "()I" } : Jvm.MethodName)) ∈ lw_good := List.mem_filter.mpr ⟨List.mem_of_getElem? (i := 871) (by decide +kernel), by decide +kernel⟩
theorem ql804 : (Jvm.Cond.instanceMethod ({ cls := "DendroDeskModel", name := "fault", desc := "()I" } : Jvm.MethodName)) ∈ lw_good := List.mem_filter.mpr ⟨List.mem_of_getElem? (i := 872) (by decide +kernel), by decide +kernel⟩
theorem ql805 : (Jvm.Cond.selects "DendroDeskModel" ({ cls := "DendroDeskModel", name := "fault", desc := "()I" } : Jvm.MethodName) ({ cls := "DendroDeskModel", name := "fault", desc := "()I" } : Jvm.MethodName)) ∈ lw_good := List.mem_filter.mpr ⟨List.mem_of_getElem? (i := 873) (by decide +kernel), by decide +kernel⟩
theorem ql806 : (Jvm.Cond.code ({ cls := "DendroDeskModel", name := "fault", desc := "()I" } : Jvm.MethodName) prog_10_method_14_code (1 : Nat) (Option.some Jvm.ClassFile.FieldType.int)) ∈ lw_good := List.mem_filter.mpr ⟨List.mem_of_getElem? (i := 874) (by decide +kernel), by decide +kernel⟩
theorem ql807 : (Jvm.Cond.methodLink "DendroDeskLaw" (62 : Nat) ({ cls := "DendroDeskModel", name := "write", desc := "()I" } : Jvm.MethodName)) ∈ lw_good := List.mem_filter.mpr ⟨List.mem_of_getElem? (i := 875) (by decide +kernel), by decide +kernel⟩
theorem ql808 : (Jvm.Cond.instanceMethod ({ cls := "DendroDeskModel", name := "write", desc := "()I" } : Jvm.MethodName)) ∈ lw_good := List.mem_filter.mpr ⟨List.mem_of_getElem? (i := 876) (by decide +kernel), by decide +kernel⟩
theorem ql809 : (Jvm.Cond.selects "DendroDeskModel" ({ cls := "DendroDeskModel", name := "write", desc := "()I" } : Jvm.MethodName) ({ cls := "DendroDeskModel", name := "write", desc := "()I" } : Jvm.MethodName)) ∈ lw_good := List.mem_filter.mpr ⟨List.mem_of_getElem? (i := 877) (by decide +kernel), by decide +kernel⟩
theorem ql810 : (Jvm.Cond.code ({ cls := "DendroDeskModel", name := "write", desc := "()I" } : Jvm.MethodName) prog_10_method_17_code (3 : Nat) (Option.some Jvm.ClassFile.FieldType.int)) ∈ lw_good := List.mem_filter.mpr ⟨List.mem_of_getElem? (i := 878) (by decide +kernel), by decide +kernel⟩
theorem ql822 : (Jvm.Cond.methodLink "DendroDeskLaw" (66 : Nat) ({ cls := "DendroDeskModel", name := "out", desc := "(I)I" } : Jvm.MethodName)) ∈ lw_good := List.mem_filter.mpr ⟨List.mem_of_getElem? (i := 890) (by decide +kernel), by decide +kernel⟩
theorem ql823 : (Jvm.Cond.instanceMethod ({ cls := "DendroDeskModel", name := "out", desc := "(I)I" } : Jvm.MethodName)) ∈ lw_good := List.mem_filter.mpr ⟨List.mem_of_getElem? (i := 891) (by decide +kernel), by decide +kernel⟩
theorem ql824 : (Jvm.Cond.selects "DendroDeskModel" ({ cls := "DendroDeskModel", name := "out", desc := "(I)I" } : Jvm.MethodName) ({ cls := "DendroDeskModel", name := "out", desc := "(I)I" } : Jvm.MethodName)) ∈ lw_good := List.mem_filter.mpr ⟨List.mem_of_getElem? (i := 892) (by decide +kernel), by decide +kernel⟩
theorem ql825 : (Jvm.Cond.code ({ cls := "DendroDeskModel", name := "out", desc := "(I)I" } : Jvm.MethodName) prog_10_method_18_code (2 : Nat) (Option.some Jvm.ClassFile.FieldType.int)) ∈ lw_good := List.mem_filter.mpr ⟨List.mem_of_getElem? (i := 893) (by decide +kernel), by decide +kernel⟩
theorem ql826 : (Jvm.Cond.methodLink "DendroDeskLaw" (71 : Nat) ({ cls := "DendroDeskModel", name := "linkage", desc := "(IIII)J" } : Jvm.MethodName)) ∈ lw_good := List.mem_filter.mpr ⟨List.mem_of_getElem? (i := 894) (by decide +kernel), by decide +kernel⟩
theorem ql827 : (Jvm.Cond.instanceMethod ({ cls := "DendroDeskModel", name := "linkage", desc := "(IIII)J" } : Jvm.MethodName)) ∈ lw_good := List.mem_filter.mpr ⟨List.mem_of_getElem? (i := 895) (by decide +kernel), by decide +kernel⟩
theorem ql828 : (Jvm.Cond.selects "DendroDeskModel" ({ cls := "DendroDeskModel", name := "linkage", desc := "(IIII)J" } : Jvm.MethodName) ({ cls := "DendroDeskModel", name := "linkage", desc := "(IIII)J" } : Jvm.MethodName)) ∈ lw_good := List.mem_filter.mpr ⟨List.mem_of_getElem? (i := 896) (by decide +kernel), by decide +kernel⟩
theorem ql829 : (Jvm.Cond.code ({ cls := "DendroDeskModel", name := "linkage", desc := "(IIII)J" } : Jvm.MethodName) prog_10_method_26_code (8 : Nat) (Option.some Jvm.ClassFile.FieldType.long)) ∈ lw_good := List.mem_filter.mpr ⟨List.mem_of_getElem? (i := 897) (by decide +kernel), by decide +kernel⟩
theorem ql860 : (Jvm.Cond.methodLink "DendroDeskLaw" (75 : Nat) ({ cls := "DendroDeskModel", name := "greedy", desc := "(II)I" } : Jvm.MethodName)) ∈ lw_good := List.mem_filter.mpr ⟨List.mem_of_getElem? (i := 928) (by decide +kernel), by decide +kernel⟩
theorem ql861 : (Jvm.Cond.instanceMethod ({ cls := "DendroDeskModel", name := "greedy", desc := "(II)I" } : Jvm.MethodName)) ∈ lw_good := List.mem_filter.mpr ⟨List.mem_of_getElem? (i := 929) (by decide +kernel), by decide +kernel⟩
theorem ql862 : (Jvm.Cond.selects "DendroDeskModel" ({ cls := "DendroDeskModel", name := "greedy", desc := "(II)I" } : Jvm.MethodName) ({ cls := "DendroDeskModel", name := "greedy", desc := "(II)I" } : Jvm.MethodName)) ∈ lw_good := List.mem_filter.mpr ⟨List.mem_of_getElem? (i := 930) (by decide +kernel), by decide +kernel⟩
theorem ql863 : (Jvm.Cond.code ({ cls := "DendroDeskModel", name := "greedy", desc := "(II)I" } : Jvm.MethodName) prog_10_method_33_code (3 : Nat) (Option.some Jvm.ClassFile.FieldType.int)) ∈ lw_good := List.mem_filter.mpr ⟨List.mem_of_getElem? (i := 931) (by decide +kernel), by decide +kernel⟩
theorem ql883 : (Jvm.Cond.methodLink "DendroDeskLaw" (79 : Nat) ({ cls := "DendroDeskModel", name := "chain", desc := "(II)I" } : Jvm.MethodName)) ∈ lw_good := List.mem_filter.mpr ⟨List.mem_of_getElem? (i := 951) (by decide +kernel), by decide +kernel⟩
theorem ql884 : (Jvm.Cond.instanceMethod ({ cls := "DendroDeskModel", name := "chain", desc := "(II)I" } : Jvm.MethodName)) ∈ lw_good := List.mem_filter.mpr ⟨List.mem_of_getElem? (i := 952) (by decide +kernel), by decide +kernel⟩
theorem ql885 : (Jvm.Cond.selects "DendroDeskModel" ({ cls := "DendroDeskModel", name := "chain", desc := "(II)I" } : Jvm.MethodName) ({ cls := "DendroDeskModel", name := "chain", desc := "(II)I" } : Jvm.MethodName)) ∈ lw_good := List.mem_filter.mpr ⟨List.mem_of_getElem? (i := 953) (by decide +kernel), by decide +kernel⟩
theorem ql886 : (Jvm.Cond.code ({ cls := "DendroDeskModel", name := "chain", desc := "(II)I" } : Jvm.MethodName) prog_10_method_34_code (3 : Nat) (Option.some Jvm.ClassFile.FieldType.int)) ∈ lw_good := List.mem_filter.mpr ⟨List.mem_of_getElem? (i := 954) (by decide +kernel), by decide +kernel⟩
theorem ql891 : (Jvm.Cond.methodLink "DendroDeskLaw" (83 : Nat) ({ cls := "DendroDeskModel", name := "tree", desc := "(II)I" } : Jvm.MethodName)) ∈ lw_good := List.mem_filter.mpr ⟨List.mem_of_getElem? (i := 959) (by decide +kernel), by decide +kernel⟩
theorem ql892 : (Jvm.Cond.instanceMethod ({ cls := "DendroDeskModel", name := "tree", desc := "(II)I" } : Jvm.MethodName)) ∈ lw_good := List.mem_filter.mpr ⟨List.mem_of_getElem? (i := 960) (by decide +kernel), by decide +kernel⟩
theorem ql893 : (Jvm.Cond.selects "DendroDeskModel" ({ cls := "DendroDeskModel", name := "tree", desc := "(II)I" } : Jvm.MethodName) ({ cls := "DendroDeskModel", name := "tree", desc := "(II)I" } : Jvm.MethodName)) ∈ lw_good := List.mem_filter.mpr ⟨List.mem_of_getElem? (i := 961) (by decide +kernel), by decide +kernel⟩
theorem ql894 : (Jvm.Cond.code ({ cls := "DendroDeskModel", name := "tree", desc := "(II)I" } : Jvm.MethodName) prog_10_method_38_code (3 : Nat) (Option.some Jvm.ClassFile.FieldType.int)) ∈ lw_good := List.mem_filter.mpr ⟨List.mem_of_getElem? (i := 962) (by decide +kernel), by decide +kernel⟩
theorem ql903 : (Jvm.Cond.methodLink "DendroDeskLaw" (88 : Nat) ({ cls := "DendroDeskModel", name := "step", desc := "(III)I" } : Jvm.MethodName)) ∈ lw_good := List.mem_filter.mpr ⟨List.mem_of_getElem? (i := 971) (by decide +kernel), by decide +kernel⟩
theorem ql904 : (Jvm.Cond.instanceMethod ({ cls := "DendroDeskModel", name := "step", desc := "(III)I" } : Jvm.MethodName)) ∈ lw_good := List.mem_filter.mpr ⟨List.mem_of_getElem? (i := 972) (by decide +kernel), by decide +kernel⟩
theorem ql905 : (Jvm.Cond.selects "DendroDeskModel" ({ cls := "DendroDeskModel", name := "step", desc := "(III)I" } : Jvm.MethodName) ({ cls := "DendroDeskModel", name := "step", desc := "(III)I" } : Jvm.MethodName)) ∈ lw_good := List.mem_filter.mpr ⟨List.mem_of_getElem? (i := 973) (by decide +kernel), by decide +kernel⟩
theorem ql906 : (Jvm.Cond.code ({ cls := "DendroDeskModel", name := "step", desc := "(III)I" } : Jvm.MethodName) prog_10_method_39_code (5 : Nat) (Option.some Jvm.ClassFile.FieldType.int)) ∈ lw_good := List.mem_filter.mpr ⟨List.mem_of_getElem? (i := 974) (by decide +kernel), by decide +kernel⟩
theorem ql911 : (Jvm.Cond.methodLink "DendroDeskLaw" (93 : Nat) ({ cls := "DendroDeskModel", name := "height", desc := "(III)J" } : Jvm.MethodName)) ∈ lw_good := List.mem_filter.mpr ⟨List.mem_of_getElem? (i := 979) (by decide +kernel), by decide +kernel⟩
theorem ql912 : (Jvm.Cond.instanceMethod ({ cls := "DendroDeskModel", name := "height", desc := "(III)J" } : Jvm.MethodName)) ∈ lw_good := List.mem_filter.mpr ⟨List.mem_of_getElem? (i := 980) (by decide +kernel), by decide +kernel⟩
theorem ql913 : (Jvm.Cond.selects "DendroDeskModel" ({ cls := "DendroDeskModel", name := "height", desc := "(III)J" } : Jvm.MethodName) ({ cls := "DendroDeskModel", name := "height", desc := "(III)J" } : Jvm.MethodName)) ∈ lw_good := List.mem_filter.mpr ⟨List.mem_of_getElem? (i := 981) (by decide +kernel), by decide +kernel⟩
theorem ql914 : (Jvm.Cond.code ({ cls := "DendroDeskModel", name := "height", desc := "(III)J" } : Jvm.MethodName) prog_10_method_40_code (4 : Nat) (Option.some Jvm.ClassFile.FieldType.long)) ∈ lw_good := List.mem_filter.mpr ⟨List.mem_of_getElem? (i := 982) (by decide +kernel), by decide +kernel⟩
theorem ql915 : (Jvm.Cond.methodLink "DendroDeskLaw" (97 : Nat) ({ cls := "DendroDeskModel", name := "joins", desc := "(III)I" } : Jvm.MethodName)) ∈ lw_good := List.mem_filter.mpr ⟨List.mem_of_getElem? (i := 983) (by decide +kernel), by decide +kernel⟩
theorem ql916 : (Jvm.Cond.instanceMethod ({ cls := "DendroDeskModel", name := "joins", desc := "(III)I" } : Jvm.MethodName)) ∈ lw_good := List.mem_filter.mpr ⟨List.mem_of_getElem? (i := 984) (by decide +kernel), by decide +kernel⟩
theorem ql917 : (Jvm.Cond.selects "DendroDeskModel" ({ cls := "DendroDeskModel", name := "joins", desc := "(III)I" } : Jvm.MethodName) ({ cls := "DendroDeskModel", name := "joins", desc := "(III)I" } : Jvm.MethodName)) ∈ lw_good := List.mem_filter.mpr ⟨List.mem_of_getElem? (i := 985) (by decide +kernel), by decide +kernel⟩
theorem ql918 : (Jvm.Cond.code ({ cls := "DendroDeskModel", name := "joins", desc := "(III)I" } : Jvm.MethodName) prog_10_method_41_code (6 : Nat) (Option.some Jvm.ClassFile.FieldType.int)) ∈ lw_good := List.mem_filter.mpr ⟨List.mem_of_getElem? (i := 986) (by decide +kernel), by decide +kernel⟩
theorem ql919 : (Jvm.Cond.methodLink "DendroDeskLaw" (102 : Nat) ({ cls := "DendroDeskModel", name := "same", desc := "(II)Z" } : Jvm.MethodName)) ∈ lw_good := List.mem_filter.mpr ⟨List.mem_of_getElem? (i := 987) (by decide +kernel), by decide +kernel⟩
theorem ql920 : (Jvm.Cond.instanceMethod ({ cls := "DendroDeskModel", name := "same", desc := "(II)Z" } : Jvm.MethodName)) ∈ lw_good := List.mem_filter.mpr ⟨List.mem_of_getElem? (i := 988) (by decide +kernel), by decide +kernel⟩
theorem ql921 : (Jvm.Cond.selects "DendroDeskModel" ({ cls := "DendroDeskModel", name := "same", desc := "(II)Z" } : Jvm.MethodName) ({ cls := "DendroDeskModel", name := "same", desc := "(II)Z" } : Jvm.MethodName)) ∈ lw_good := List.mem_filter.mpr ⟨List.mem_of_getElem? (i := 989) (by decide +kernel), by decide +kernel⟩
theorem ql922 : (Jvm.Cond.code ({ cls := "DendroDeskModel", name := "same", desc := "(II)Z" } : Jvm.MethodName) prog_10_method_42_code (7 : Nat) (Option.some Jvm.ClassFile.FieldType.boolean)) ∈ lw_good := List.mem_filter.mpr ⟨List.mem_of_getElem? (i := 990) (by decide +kernel), by decide +kernel⟩
theorem ql923 : (Jvm.Cond.methodLink "DendroDeskLaw" (106 : Nat) ({ cls := "DendroDeskModel", name := "text", desc := "(I)I" } : Jvm.MethodName)) ∈ lw_good := List.mem_filter.mpr ⟨List.mem_of_getElem? (i := 991) (by decide +kernel), by decide +kernel⟩
theorem ql924 : (Jvm.Cond.instanceMethod ({ cls := "DendroDeskModel", name := "text", desc := "(I)I" } : Jvm.MethodName)) ∈ lw_good := List.mem_filter.mpr ⟨List.mem_of_getElem? (i := 992) (by decide +kernel), by decide +kernel⟩
theorem ql925 : (Jvm.Cond.selects "DendroDeskModel" ({ cls := "DendroDeskModel", name := "text", desc := "(I)I" } : Jvm.MethodName) ({ cls := "DendroDeskModel", name := "text", desc := "(I)I" } : Jvm.MethodName)) ∈ lw_good := List.mem_filter.mpr ⟨List.mem_of_getElem? (i := 993) (by decide +kernel), by decide +kernel⟩
theorem ql926 : (Jvm.Cond.code ({ cls := "DendroDeskModel", name := "text", desc := "(I)I" } : Jvm.MethodName) prog_10_method_45_code (2 : Nat) (Option.some Jvm.ClassFile.FieldType.int)) ∈ lw_good := List.mem_filter.mpr ⟨List.mem_of_getElem? (i := 994) (by decide +kernel), by decide +kernel⟩
theorem ql935 : (Jvm.Cond.methodLink "DendroDeskLaw" (110 : Nat) ({ cls := "DendroDeskModel", name := "order", desc := "(II)I" } : Jvm.MethodName)) ∈ lw_good := List.mem_filter.mpr ⟨List.mem_of_getElem? (i := 1003) (by decide +kernel), by decide +kernel⟩
theorem ql936 : (Jvm.Cond.instanceMethod ({ cls := "DendroDeskModel", name := "order", desc := "(II)I" } : Jvm.MethodName)) ∈ lw_good := List.mem_filter.mpr ⟨List.mem_of_getElem? (i := 1004) (by decide +kernel), by decide +kernel⟩
theorem ql937 : (Jvm.Cond.selects "DendroDeskModel" ({ cls := "DendroDeskModel", name := "order", desc := "(II)I" } : Jvm.MethodName) ({ cls := "DendroDeskModel", name := "order", desc := "(II)I" } : Jvm.MethodName)) ∈ lw_good := List.mem_filter.mpr ⟨List.mem_of_getElem? (i := 1005) (by decide +kernel), by decide +kernel⟩
theorem ql938 : (Jvm.Cond.code ({ cls := "DendroDeskModel", name := "order", desc := "(II)I" } : Jvm.MethodName) prog_10_method_46_code (5 : Nat) (Option.some Jvm.ClassFile.FieldType.int)) ∈ lw_good := List.mem_filter.mpr ⟨List.mem_of_getElem? (i := 1006) (by decide +kernel), by decide +kernel⟩
theorem ql939 : (Jvm.Cond.methodLink "DendroDeskLaw" (114 : Nat) ({ cls := "DendroDeskModel", name := "cut", desc := "(II)I" } : Jvm.MethodName)) ∈ lw_good := List.mem_filter.mpr ⟨List.mem_of_getElem? (i := 1007) (by decide +kernel), by decide +kernel⟩
theorem ql940 : (Jvm.Cond.instanceMethod ({ cls := "DendroDeskModel", name := "cut", desc := "(II)I" } : Jvm.MethodName)) ∈ lw_good := List.mem_filter.mpr ⟨List.mem_of_getElem? (i := 1008) (by decide +kernel), by decide +kernel⟩
theorem ql941 : (Jvm.Cond.selects "DendroDeskModel" ({ cls := "DendroDeskModel", name := "cut", desc := "(II)I" } : Jvm.MethodName) ({ cls := "DendroDeskModel", name := "cut", desc := "(II)I" } : Jvm.MethodName)) ∈ lw_good := List.mem_filter.mpr ⟨List.mem_of_getElem? (i := 1009) (by decide +kernel), by decide +kernel⟩
theorem ql942 : (Jvm.Cond.code ({ cls := "DendroDeskModel", name := "cut", desc := "(II)I" } : Jvm.MethodName) prog_10_method_48_code (4 : Nat) (Option.some Jvm.ClassFile.FieldType.int)) ∈ lw_good := List.mem_filter.mpr ⟨List.mem_of_getElem? (i := 1010) (by decide +kernel), by decide +kernel⟩
theorem ql947 : (Jvm.Cond.methodLink "DendroDeskLaw" (118 : Nat) ({ cls := "DendroDeskModel", name := "cutAt", desc := "(III)I" } : Jvm.MethodName)) ∈ lw_good := List.mem_filter.mpr ⟨List.mem_of_getElem? (i := 1015) (by decide +kernel), by decide +kernel⟩
theorem ql948 : (Jvm.Cond.instanceMethod ({ cls := "DendroDeskModel", name := "cutAt", desc := "(III)I" } : Jvm.MethodName)) ∈ lw_good := List.mem_filter.mpr ⟨List.mem_of_getElem? (i := 1016) (by decide +kernel), by decide +kernel⟩
theorem ql949 : (Jvm.Cond.selects "DendroDeskModel" ({ cls := "DendroDeskModel", name := "cutAt", desc := "(III)I" } : Jvm.MethodName) ({ cls := "DendroDeskModel", name := "cutAt", desc := "(III)I" } : Jvm.MethodName)) ∈ lw_good := List.mem_filter.mpr ⟨List.mem_of_getElem? (i := 1017) (by decide +kernel), by decide +kernel⟩
theorem ql950 : (Jvm.Cond.code ({ cls := "DendroDeskModel", name := "cutAt", desc := "(III)I" } : Jvm.MethodName) prog_10_method_49_code (6 : Nat) (Option.some Jvm.ClassFile.FieldType.int)) ∈ lw_good := List.mem_filter.mpr ⟨List.mem_of_getElem? (i := 1018) (by decide +kernel), by decide +kernel⟩
theorem ql952 : (Jvm.Cond.methodLink "DendroDeskLaw" (122 : Nat) ({ cls := "DendroDeskModel", name := "label", desc := "(II)I" } : Jvm.MethodName)) ∈ lw_good := List.mem_filter.mpr ⟨List.mem_of_getElem? (i := 1020) (by decide +kernel), by decide +kernel⟩
theorem ql953 : (Jvm.Cond.instanceMethod ({ cls := "DendroDeskModel", name := "label", desc := "(II)I" } : Jvm.MethodName)) ∈ lw_good := List.mem_filter.mpr ⟨List.mem_of_getElem? (i := 1021) (by decide +kernel), by decide +kernel⟩
theorem ql954 : (Jvm.Cond.selects "DendroDeskModel" ({ cls := "DendroDeskModel", name := "label", desc := "(II)I" } : Jvm.MethodName) ({ cls := "DendroDeskModel", name := "label", desc := "(II)I" } : Jvm.MethodName)) ∈ lw_good := List.mem_filter.mpr ⟨List.mem_of_getElem? (i := 1022) (by decide +kernel), by decide +kernel⟩
theorem ql955 : (Jvm.Cond.code ({ cls := "DendroDeskModel", name := "label", desc := "(II)I" } : Jvm.MethodName) prog_10_method_50_code (3 : Nat) (Option.some Jvm.ClassFile.FieldType.int)) ∈ lw_good := List.mem_filter.mpr ⟨List.mem_of_getElem? (i := 1023) (by decide +kernel), by decide +kernel⟩
theorem ql956 : (Jvm.Cond.methodLink "DendroDeskLaw" (126 : Nat) ({ cls := "DendroDeskModel", name := "agree", desc := "(II)I" } : Jvm.MethodName)) ∈ lw_good := List.mem_filter.mpr ⟨List.mem_of_getElem? (i := 1024) (by decide +kernel), by decide +kernel⟩
theorem ql957 : (Jvm.Cond.instanceMethod ({ cls := "DendroDeskModel", name := "agree", desc := "(II)I" } : Jvm.MethodName)) ∈ lw_good := List.mem_filter.mpr ⟨List.mem_of_getElem? (i := 1025) (by decide +kernel), by decide +kernel⟩
theorem ql958 : (Jvm.Cond.selects "DendroDeskModel" ({ cls := "DendroDeskModel", name := "agree", desc := "(II)I" } : Jvm.MethodName) ({ cls := "DendroDeskModel", name := "agree", desc := "(II)I" } : Jvm.MethodName)) ∈ lw_good := List.mem_filter.mpr ⟨List.mem_of_getElem? (i := 1026) (by decide +kernel), by decide +kernel⟩
theorem ql959 : (Jvm.Cond.code ({ cls := "DendroDeskModel", name := "agree", desc := "(II)I" } : Jvm.MethodName) prog_10_method_51_code (8 : Nat) (Option.some Jvm.ClassFile.FieldType.int)) ∈ lw_good := List.mem_filter.mpr ⟨List.mem_of_getElem? (i := 1027) (by decide +kernel), by decide +kernel⟩
theorem ql960 : (Jvm.Cond.methodLink "DendroDeskLaw" (130 : Nat) ({ cls := "DendroDeskModel", name := "middle", desc := "(II)I" } : Jvm.MethodName)) ∈ lw_good := List.mem_filter.mpr ⟨List.mem_of_getElem? (i := 1028) (by decide +kernel), by decide +kernel⟩
theorem ql961 : (Jvm.Cond.instanceMethod ({ cls := "DendroDeskModel", name := "middle", desc := "(II)I" } : Jvm.MethodName)) ∈ lw_good := List.mem_filter.mpr ⟨List.mem_of_getElem? (i := 1029) (by decide +kernel), by decide +kernel⟩
theorem ql962 : (Jvm.Cond.selects "DendroDeskModel" ({ cls := "DendroDeskModel", name := "middle", desc := "(II)I" } : Jvm.MethodName) ({ cls := "DendroDeskModel", name := "middle", desc := "(II)I" } : Jvm.MethodName)) ∈ lw_good := List.mem_filter.mpr ⟨List.mem_of_getElem? (i := 1030) (by decide +kernel), by decide +kernel⟩
theorem ql963 : (Jvm.Cond.code ({ cls := "DendroDeskModel", name := "middle", desc := "(II)I" } : Jvm.MethodName) prog_10_method_52_code (10 : Nat) (Option.some Jvm.ClassFile.FieldType.int)) ∈ lw_good := List.mem_filter.mpr ⟨List.mem_of_getElem? (i := 1031) (by decide +kernel), by decide +kernel⟩
theorem lc_same (x : Int64) : lg_cmp x x = 0 := by
  unfold lg_cmp
  rw [if_neg (show ¬ x > x from Int64.lt_irrefl), if_pos rfl]
section LAW
variable {D : va_G} {cA : Nat → ClassId} {A : Nat → Prop} {a7 a8 : Nat → Nat} {σ τ : St} {b L : Nat} {xs : Nat → Int32} {i : Int32}
variable {p : Program} {l : Launch} {e : Env} {R : Room} {s : State} {m : MethodId} {args : Array Value} {below : List Frame} {meth : Method} {c : Code} {H : Heap} {locs : List Loc} {Q : State → Prop} {cells slots : Nat}
variable {rt : Option FieldType} {ls : Array Slot}
set_option maxHeartbeats 2000000 in
set_option maxRecDepth 100000 in
theorem lc_0 (hC : Cx R_law cL_law 4 rt D cA p s m args meth c) (hX : va_X b L xs s s.heap) (hbl : b < s.heap.size) (hbA : ¬ A b) (hW : Wi D A s (wl kdX 140 a7 cA σ ++ wl kdM 31 a8 cA τ) H locs) (hl : lv_has ls 4 [(3, .int i), (2, .ref (a8 0)), (1, .ref (a7 0)), (0, .ref b)]) (hin : ∀ k : Int32, 0 ≤ k → k ≤ 5 → vp_in (i + k) L) (h : Rel σ τ) (hR : 2048 ≤ R.frames ∧ 84000 ≤ R.locals) (hcs : cells ≤ R.cells ∧ slots ≤ R.slots)
    (kk : ∀ (σ τ : St) (H : Heap) (locs : List Loc), Rel σ τ → Wi D A s (wl kdX 140 a7 cA σ ++ wl kdM 31 a8 cA τ) H locs → W p l e R s m args below meth c H locs cells slots Q (F0 m 1029 ls [])) : W p l e R s m args below meth c H locs cells slots Q (F0 m 156 ls []) := by
  have hx := hC.1
  have hb := hC.2.1
  obtain ⟨r, σ1, τ1, f7, f8, hr⟩ := J_points (N := 5000) h (by decide) (xs (i + 1).toNatClampNeg)
  refine lv_aload_n hx hb dL_law_156 rfl (lv_at hl 2 rfl) ?_
  refine Lw.ld hC hX hbl hbA hW.2.2 hl (k := 1) (by decide) (hin 1 (by decide) (by decide)) rfl dL_law_157 dL_law_158 dL_law_159 dL_law_160 dL_law_161 ?_
  refine Wi.callM (n := 1) (As := [.int (xs (i + 1).toNatClampNeg)]) (rest := []) (rv := some (.int r)) hC hW 0 (kX7_points f7) (by decide) rfl rfl ql240 ql241 ql242 ql1 ql243 ⟨rfl, rfl⟩ ⟨by decide +kernel, by decide +kernel, by decide +kernel⟩ ⟨Nat.le_trans (Nat.le_of_ble_eq_true rfl) hR.1, Nat.le_trans (Nat.le_of_ble_eq_true rfl) hR.2⟩ hcs rfl hl.1 rfl (st2 := [.int r]) rfl (Nat.le_of_ble_eq_true rfl) dL_law_162 (fun H locs hW => ?_)
  have hW := hW.swap
  refine lv_aload_n hx hb dL_law_165 rfl (lv_at hl 1 rfl) ?_
  refine Lw.ld hC hX hbl hbA hW.2.2 hl (k := 1) (by decide) (hin 1 (by decide) (by decide)) rfl dL_law_166 dL_law_167 dL_law_168 dL_law_169 dL_law_170 ?_
  refine Wi.callM (n := 1) (As := [.int (xs (i + 1).toNatClampNeg)]) (rest := [.int r]) (rv := some (.int r)) hC hW 0 (kX8_points f8) (by decide) rfl rfl ql754 ql755 ql756 ql8 ql757 ⟨rfl, rfl⟩ ⟨by decide +kernel, by decide +kernel, by decide +kernel⟩ ⟨Nat.le_trans (Nat.le_of_ble_eq_true rfl) hR.1, Nat.le_trans (Nat.le_of_ble_eq_true rfl) hR.2⟩ hcs rfl hl.1 rfl (st2 := [.int r, .int r]) rfl (Nat.le_of_ble_eq_true rfl) dL_law_171 (fun H locs hW => ?_)
  have hW := hW.swap
  exact lv_icmp_eq (tgt := 1029) hx hb dL_law_174 (by decide) (fun _ => kk σ1 τ1 H locs hr hW) (fun h1 => absurd rfl h1)
set_option maxHeartbeats 2000000 in
set_option maxRecDepth 100000 in
theorem lc_1 (hC : Cx R_law cL_law 4 rt D cA p s m args meth c) (hX : va_X b L xs s s.heap) (hbl : b < s.heap.size) (hbA : ¬ A b) (hW : Wi D A s (wl kdX 140 a7 cA σ ++ wl kdM 31 a8 cA τ) H locs) (hl : lv_has ls 4 [(3, .int i), (2, .ref (a8 0)), (1, .ref (a7 0)), (0, .ref b)]) (hin : ∀ k : Int32, 0 ≤ k → k ≤ 5 → vp_in (i + k) L) (h : Rel σ τ) (hR : 2048 ≤ R.frames ∧ 84000 ≤ R.locals) (hcs : cells ≤ R.cells ∧ slots ≤ R.slots)
    (kk : ∀ (σ τ : St) (H : Heap) (locs : List Loc), Rel σ τ → Wi D A s (wl kdX 140 a7 cA σ ++ wl kdM 31 a8 cA τ) H locs → W p l e R s m args below meth c H locs cells slots Q (F0 m 1029 ls [])) : W p l e R s m args below meth c H locs cells slots Q (F0 m 179 ls []) := by
  have hx := hC.1
  have hb := hC.2.1
  obtain ⟨r, σ1, τ1, f7, f8, hr⟩ := J_put (N := 5000) h (xs (i + 1).toNatClampNeg) (xs (i + 2).toNatClampNeg) (xs (i + 3).toNatClampNeg)
  refine lv_aload_n hx hb dL_law_179 rfl (lv_at hl 2 rfl) ?_
  refine Lw.ld hC hX hbl hbA hW.2.2 hl (k := 1) (by decide) (hin 1 (by decide) (by decide)) rfl dL_law_180 dL_law_181 dL_law_182 dL_law_183 dL_law_184 ?_
  refine Lw.ld hC hX hbl hbA hW.2.2 hl (k := 2) (by decide) (hin 2 (by decide) (by decide)) rfl dL_law_185 dL_law_186 dL_law_187 dL_law_188 dL_law_189 ?_
  refine Lw.ld hC hX hbl hbA hW.2.2 hl (k := 3) (by decide) (hin 3 (by decide) (by decide)) rfl dL_law_190 dL_law_191 dL_law_192 dL_law_193 dL_law_194 ?_
  refine Wi.callM (n := 3) (As := [.int (xs (i + 1).toNatClampNeg), .int (xs (i + 2).toNatClampNeg), .int (xs (i + 3).toNatClampNeg)]) (rest := []) (rv := some (.int r)) hC hW 0 (kX7_put f7) (by decide) rfl rfl ql248 ql249 ql250 ql1 ql251 ⟨rfl, rfl⟩ ⟨by decide +kernel, by decide +kernel, by decide +kernel⟩ ⟨Nat.le_trans (Nat.le_of_ble_eq_true rfl) hR.1, Nat.le_trans (Nat.le_of_ble_eq_true rfl) hR.2⟩ hcs rfl hl.1 rfl (st2 := [.int r]) rfl (Nat.le_of_ble_eq_true rfl) dL_law_195 (fun H locs hW => ?_)
  have hW := hW.swap
  refine lv_aload_n hx hb dL_law_198 rfl (lv_at hl 1 rfl) ?_
  refine Lw.ld hC hX hbl hbA hW.2.2 hl (k := 1) (by decide) (hin 1 (by decide) (by decide)) rfl dL_law_199 dL_law_200 dL_law_201 dL_law_202 dL_law_203 ?_
  refine Lw.ld hC hX hbl hbA hW.2.2 hl (k := 2) (by decide) (hin 2 (by decide) (by decide)) rfl dL_law_204 dL_law_205 dL_law_206 dL_law_207 dL_law_208 ?_
  refine Lw.ld hC hX hbl hbA hW.2.2 hl (k := 3) (by decide) (hin 3 (by decide) (by decide)) rfl dL_law_209 dL_law_210 dL_law_211 dL_law_212 dL_law_213 ?_
  refine Wi.callM (n := 3) (As := [.int (xs (i + 1).toNatClampNeg), .int (xs (i + 2).toNatClampNeg), .int (xs (i + 3).toNatClampNeg)]) (rest := [.int r]) (rv := some (.int r)) hC hW 0 (kX8_put f8) (by decide) rfl rfl ql758 ql759 ql760 ql8 ql761 ⟨rfl, rfl⟩ ⟨by decide +kernel, by decide +kernel, by decide +kernel⟩ ⟨Nat.le_trans (Nat.le_of_ble_eq_true rfl) hR.1, Nat.le_trans (Nat.le_of_ble_eq_true rfl) hR.2⟩ hcs rfl hl.1 rfl (st2 := [.int r, .int r]) rfl (Nat.le_of_ble_eq_true rfl) dL_law_214 (fun H locs hW => ?_)
  have hW := hW.swap
  exact lv_icmp_eq (tgt := 1029) hx hb dL_law_217 (by decide) (fun _ => kk σ1 τ1 H locs hr hW) (fun h1 => absurd rfl h1)
set_option maxHeartbeats 2000000 in
set_option maxRecDepth 100000 in
theorem lc_2 (hC : Cx R_law cL_law 4 rt D cA p s m args meth c) (hX : va_X b L xs s s.heap) (hbl : b < s.heap.size) (hbA : ¬ A b) (hW : Wi D A s (wl kdX 140 a7 cA σ ++ wl kdM 31 a8 cA τ) H locs) (hl : lv_has ls 4 [(3, .int i), (2, .ref (a8 0)), (1, .ref (a7 0)), (0, .ref b)]) (hin : ∀ k : Int32, 0 ≤ k → k ≤ 5 → vp_in (i + k) L) (h : Rel σ τ) (hR : 2048 ≤ R.frames ∧ 84000 ≤ R.locals) (hcs : cells ≤ R.cells ∧ slots ≤ R.slots)
    (kk : ∀ (σ τ : St) (H : Heap) (locs : List Loc), Rel σ τ → Wi D A s (wl kdX 140 a7 cA σ ++ wl kdM 31 a8 cA τ) H locs → W p l e R s m args below meth c H locs cells slots Q (F0 m 1029 ls [])) : W p l e R s m args below meth c H locs cells slots Q (F0 m 222 ls []) := by
  have hx := hC.1
  have hb := hC.2.1
  obtain ⟨r, σ1, τ1, f7, f8, hr⟩ := J_distance (N := 5000) h (xs (i + 1).toNatClampNeg) (xs (i + 2).toNatClampNeg)
  refine lv_aload_n hx hb dL_law_222 rfl (lv_at hl 2 rfl) ?_
  refine Lw.ld hC hX hbl hbA hW.2.2 hl (k := 1) (by decide) (hin 1 (by decide) (by decide)) rfl dL_law_223 dL_law_224 dL_law_225 dL_law_226 dL_law_227 ?_
  refine Lw.ld hC hX hbl hbA hW.2.2 hl (k := 2) (by decide) (hin 2 (by decide) (by decide)) rfl dL_law_228 dL_law_229 dL_law_230 dL_law_231 dL_law_232 ?_
  refine Wi.callM (n := 2) (As := [.int (xs (i + 1).toNatClampNeg), .int (xs (i + 2).toNatClampNeg)]) (rest := []) (rv := some (.int r)) hC hW 0 (kX7_distance f7) (by decide) rfl rfl ql261 ql262 ql263 ql1 ql264 ⟨rfl, rfl⟩ ⟨by decide +kernel, by decide +kernel, by decide +kernel⟩ ⟨Nat.le_trans (Nat.le_of_ble_eq_true rfl) hR.1, Nat.le_trans (Nat.le_of_ble_eq_true rfl) hR.2⟩ hcs rfl hl.1 rfl (st2 := [.int r]) rfl (Nat.le_of_ble_eq_true rfl) dL_law_233 (fun H locs hW => ?_)
  have hW := hW.swap
  refine lv_aload_n hx hb dL_law_236 rfl (lv_at hl 1 rfl) ?_
  refine Lw.ld hC hX hbl hbA hW.2.2 hl (k := 1) (by decide) (hin 1 (by decide) (by decide)) rfl dL_law_237 dL_law_238 dL_law_239 dL_law_240 dL_law_241 ?_
  refine Lw.ld hC hX hbl hbA hW.2.2 hl (k := 2) (by decide) (hin 2 (by decide) (by decide)) rfl dL_law_242 dL_law_243 dL_law_244 dL_law_245 dL_law_246 ?_
  refine Wi.callM (n := 2) (As := [.int (xs (i + 1).toNatClampNeg), .int (xs (i + 2).toNatClampNeg)]) (rest := [.int r]) (rv := some (.int r)) hC hW 0 (kX8_distance f8) (by decide) rfl rfl ql770 ql771 ql772 ql8 ql773 ⟨rfl, rfl⟩ ⟨by decide +kernel, by decide +kernel, by decide +kernel⟩ ⟨Nat.le_trans (Nat.le_of_ble_eq_true rfl) hR.1, Nat.le_trans (Nat.le_of_ble_eq_true rfl) hR.2⟩ hcs rfl hl.1 rfl (st2 := [.int r, .int r]) rfl (Nat.le_of_ble_eq_true rfl) dL_law_247 (fun H locs hW => ?_)
  have hW := hW.swap
  exact lv_icmp_eq (tgt := 1029) hx hb dL_law_250 (by decide) (fun _ => kk σ1 τ1 H locs hr hW) (fun h1 => absurd rfl h1)
set_option maxHeartbeats 2000000 in
set_option maxRecDepth 100000 in
theorem lc_3 (hC : Cx R_law cL_law 4 rt D cA p s m args meth c) (hX : va_X b L xs s s.heap) (hbl : b < s.heap.size) (hbA : ¬ A b) (hW : Wi D A s (wl kdX 140 a7 cA σ ++ wl kdM 31 a8 cA τ) H locs) (hl : lv_has ls 4 [(3, .int i), (2, .ref (a8 0)), (1, .ref (a7 0)), (0, .ref b)]) (hin : ∀ k : Int32, 0 ≤ k → k ≤ 5 → vp_in (i + k) L) (h : Rel σ τ) (hR : 2048 ≤ R.frames ∧ 84000 ≤ R.locals) (hcs : cells ≤ R.cells ∧ slots ≤ R.slots)
    (kk : ∀ (σ τ : St) (H : Heap) (locs : List Loc), Rel σ τ → Wi D A s (wl kdX 140 a7 cA σ ++ wl kdM 31 a8 cA τ) H locs → W p l e R s m args below meth c H locs cells slots Q (F0 m 1029 ls [])) : W p l e R s m args below meth c H locs cells slots Q (F0 m 255 ls []) := by
  have hx := hC.1
  have hb := hC.2.1
  obtain ⟨r, σ1, τ1, f7, f8, hr⟩ := J_place (N := 5000) h (xs (i + 1).toNatClampNeg) (xs (i + 2).toNatClampNeg) (xs (i + 3).toNatClampNeg)
  refine lv_aload_n hx hb dL_law_255 rfl (lv_at hl 2 rfl) ?_
  refine Lw.ld hC hX hbl hbA hW.2.2 hl (k := 1) (by decide) (hin 1 (by decide) (by decide)) rfl dL_law_256 dL_law_257 dL_law_258 dL_law_259 dL_law_260 ?_
  refine Lw.ld hC hX hbl hbA hW.2.2 hl (k := 2) (by decide) (hin 2 (by decide) (by decide)) rfl dL_law_261 dL_law_262 dL_law_263 dL_law_264 dL_law_265 ?_
  refine Lw.ld hC hX hbl hbA hW.2.2 hl (k := 3) (by decide) (hin 3 (by decide) (by decide)) rfl dL_law_266 dL_law_267 dL_law_268 dL_law_269 dL_law_270 ?_
  refine Wi.callM (n := 3) (As := [.int (xs (i + 1).toNatClampNeg), .int (xs (i + 2).toNatClampNeg), .int (xs (i + 3).toNatClampNeg)]) (rest := []) (rv := some (.int r)) hC hW 0 (kX7_place f7) (by decide) rfl rfl ql265 ql266 ql267 ql1 ql268 ⟨rfl, rfl⟩ ⟨by decide +kernel, by decide +kernel, by decide +kernel⟩ ⟨Nat.le_trans (Nat.le_of_ble_eq_true rfl) hR.1, Nat.le_trans (Nat.le_of_ble_eq_true rfl) hR.2⟩ hcs rfl hl.1 rfl (st2 := [.int r]) rfl (Nat.le_of_ble_eq_true rfl) dL_law_271 (fun H locs hW => ?_)
  have hW := hW.swap
  refine lv_aload_n hx hb dL_law_274 rfl (lv_at hl 1 rfl) ?_
  refine Lw.ld hC hX hbl hbA hW.2.2 hl (k := 1) (by decide) (hin 1 (by decide) (by decide)) rfl dL_law_275 dL_law_276 dL_law_277 dL_law_278 dL_law_279 ?_
  refine Lw.ld hC hX hbl hbA hW.2.2 hl (k := 2) (by decide) (hin 2 (by decide) (by decide)) rfl dL_law_280 dL_law_281 dL_law_282 dL_law_283 dL_law_284 ?_
  refine Lw.ld hC hX hbl hbA hW.2.2 hl (k := 3) (by decide) (hin 3 (by decide) (by decide)) rfl dL_law_285 dL_law_286 dL_law_287 dL_law_288 dL_law_289 ?_
  refine Wi.callM (n := 3) (As := [.int (xs (i + 1).toNatClampNeg), .int (xs (i + 2).toNatClampNeg), .int (xs (i + 3).toNatClampNeg)]) (rest := [.int r]) (rv := some (.int r)) hC hW 0 (kX8_place f8) (by decide) rfl rfl ql774 ql775 ql776 ql8 ql777 ⟨rfl, rfl⟩ ⟨by decide +kernel, by decide +kernel, by decide +kernel⟩ ⟨Nat.le_trans (Nat.le_of_ble_eq_true rfl) hR.1, Nat.le_trans (Nat.le_of_ble_eq_true rfl) hR.2⟩ hcs rfl hl.1 rfl (st2 := [.int r, .int r]) rfl (Nat.le_of_ble_eq_true rfl) dL_law_290 (fun H locs hW => ?_)
  have hW := hW.swap
  exact lv_icmp_eq (tgt := 1029) hx hb dL_law_293 (by decide) (fun _ => kk σ1 τ1 H locs hr hW) (fun h1 => absurd rfl h1)
set_option maxHeartbeats 2000000 in
set_option maxRecDepth 100000 in
theorem lc_4 (hC : Cx R_law cL_law 4 rt D cA p s m args meth c) (hX : va_X b L xs s s.heap) (hbl : b < s.heap.size) (hbA : ¬ A b) (hW : Wi D A s (wl kdX 140 a7 cA σ ++ wl kdM 31 a8 cA τ) H locs) (hl : lv_has ls 4 [(3, .int i), (2, .ref (a8 0)), (1, .ref (a7 0)), (0, .ref b)]) (hin : ∀ k : Int32, 0 ≤ k → k ≤ 5 → vp_in (i + k) L) (h : Rel σ τ) (hR : 2048 ≤ R.frames ∧ 84000 ≤ R.locals) (hcs : cells ≤ R.cells ∧ slots ≤ R.slots)
    (kk : ∀ (σ τ : St) (H : Heap) (locs : List Loc), Rel σ τ → Wi D A s (wl kdX 140 a7 cA σ ++ wl kdM 31 a8 cA τ) H locs → W p l e R s m args below meth c H locs cells slots Q (F0 m 1029 ls [])) : W p l e R s m args below meth c H locs cells slots Q (F0 m 298 ls []) := by
  have hx := hC.1
  have hb := hC.2.1
  obtain ⟨r, σ1, τ1, f7, f8, hr⟩ := J_measure (N := 5000) h (by decide) (xs (i + 1).toNatClampNeg)
  refine lv_aload_n hx hb dL_law_298 rfl (lv_at hl 2 rfl) ?_
  refine Lw.ld hC hX hbl hbA hW.2.2 hl (k := 1) (by decide) (hin 1 (by decide) (by decide)) rfl dL_law_299 dL_law_300 dL_law_301 dL_law_302 dL_law_303 ?_
  refine Wi.callM (n := 1) (As := [.int (xs (i + 1).toNatClampNeg)]) (rest := []) (rv := some (.int r)) hC hW 0 (kX7_measure f7) (by decide) rfl rfl ql272 ql273 ql274 ql1 ql275 ⟨rfl, rfl⟩ ⟨by decide +kernel, by decide +kernel, by decide +kernel⟩ ⟨Nat.le_trans (Nat.le_of_ble_eq_true rfl) hR.1, Nat.le_trans (Nat.le_of_ble_eq_true rfl) hR.2⟩ hcs rfl hl.1 rfl (st2 := [.int r]) rfl (Nat.le_of_ble_eq_true rfl) dL_law_304 (fun H locs hW => ?_)
  have hW := hW.swap
  refine lv_aload_n hx hb dL_law_307 rfl (lv_at hl 1 rfl) ?_
  refine Lw.ld hC hX hbl hbA hW.2.2 hl (k := 1) (by decide) (hin 1 (by decide) (by decide)) rfl dL_law_308 dL_law_309 dL_law_310 dL_law_311 dL_law_312 ?_
  refine Wi.callM (n := 1) (As := [.int (xs (i + 1).toNatClampNeg)]) (rest := [.int r]) (rv := some (.int r)) hC hW 0 (kX8_measure f8) (by decide) rfl rfl ql778 ql779 ql780 ql8 ql781 ⟨rfl, rfl⟩ ⟨by decide +kernel, by decide +kernel, by decide +kernel⟩ ⟨Nat.le_trans (Nat.le_of_ble_eq_true rfl) hR.1, Nat.le_trans (Nat.le_of_ble_eq_true rfl) hR.2⟩ hcs rfl hl.1 rfl (st2 := [.int r, .int r]) rfl (Nat.le_of_ble_eq_true rfl) dL_law_313 (fun H locs hW => ?_)
  have hW := hW.swap
  exact lv_icmp_eq (tgt := 1029) hx hb dL_law_316 (by decide) (fun _ => kk σ1 τ1 H locs hr hW) (fun h1 => absurd rfl h1)
set_option maxHeartbeats 2000000 in
set_option maxRecDepth 100000 in
theorem lc_5 (hC : Cx R_law cL_law 4 rt D cA p s m args meth c) (hX : va_X b L xs s s.heap) (hbl : b < s.heap.size) (hbA : ¬ A b) (hW : Wi D A s (wl kdX 140 a7 cA σ ++ wl kdM 31 a8 cA τ) H locs) (hl : lv_has ls 4 [(3, .int i), (2, .ref (a8 0)), (1, .ref (a7 0)), (0, .ref b)]) (hin : ∀ k : Int32, 0 ≤ k → k ≤ 5 → vp_in (i + k) L) (h : Rel σ τ) (hR : 2048 ≤ R.frames ∧ 84000 ≤ R.locals) (hcs : cells ≤ R.cells ∧ slots ≤ R.slots)
    (kk : ∀ (σ τ : St) (H : Heap) (locs : List Loc), Rel σ τ → Wi D A s (wl kdX 140 a7 cA σ ++ wl kdM 31 a8 cA τ) H locs → W p l e R s m args below meth c H locs cells slots Q (F0 m 1029 ls [])) : W p l e R s m args below meth c H locs cells slots Q (F0 m 321 ls []) := by
  have hx := hC.1
  have hb := hC.2.1
  obtain ⟨r, σ1, τ1, f7, f8, hr⟩ := J_feed (N := 5000) h (by decide) (xs (i + 1).toNatClampNeg) (xs (i + 2).toNatClampNeg) (xs (i + 3).toNatClampNeg) (xs (i + 4).toNatClampNeg) (xs (i + 5).toNatClampNeg)
  refine lv_aload_n hx hb dL_law_321 rfl (lv_at hl 2 rfl) ?_
  refine Lw.ld hC hX hbl hbA hW.2.2 hl (k := 1) (by decide) (hin 1 (by decide) (by decide)) rfl dL_law_322 dL_law_323 dL_law_324 dL_law_325 dL_law_326 ?_
  refine Lw.ld hC hX hbl hbA hW.2.2 hl (k := 2) (by decide) (hin 2 (by decide) (by decide)) rfl dL_law_327 dL_law_328 dL_law_329 dL_law_330 dL_law_331 ?_
  refine Lw.ld hC hX hbl hbA hW.2.2 hl (k := 3) (by decide) (hin 3 (by decide) (by decide)) rfl dL_law_332 dL_law_333 dL_law_334 dL_law_335 dL_law_336 ?_
  refine Lw.ld hC hX hbl hbA hW.2.2 hl (k := 4) (by decide) (hin 4 (by decide) (by decide)) rfl dL_law_337 dL_law_338 dL_law_339 dL_law_340 dL_law_341 ?_
  refine Lw.ld hC hX hbl hbA hW.2.2 hl (k := 5) (by decide) (hin 5 (by decide) (by decide)) rfl dL_law_342 dL_law_343 dL_law_344 dL_law_345 dL_law_346 ?_
  refine Wi.callM (n := 5) (As := [.int (xs (i + 1).toNatClampNeg), .int (xs (i + 2).toNatClampNeg), .int (xs (i + 3).toNatClampNeg), .int (xs (i + 4).toNatClampNeg), .int (xs (i + 5).toNatClampNeg)]) (rest := []) (rv := some (.int r)) hC hW 0 (kX7_feed f7) (by decide) rfl rfl ql290 ql291 ql292 ql1 ql293 ⟨rfl, rfl⟩ ⟨by decide +kernel, by decide +kernel, by decide +kernel⟩ ⟨Nat.le_trans (Nat.le_of_ble_eq_true rfl) hR.1, Nat.le_trans (Nat.le_of_ble_eq_true rfl) hR.2⟩ hcs rfl hl.1 rfl (st2 := [.int r]) rfl (Nat.le_of_ble_eq_true rfl) dL_law_347 (fun H locs hW => ?_)
  have hW := hW.swap
  refine lv_aload_n hx hb dL_law_350 rfl (lv_at hl 1 rfl) ?_
  refine Lw.ld hC hX hbl hbA hW.2.2 hl (k := 1) (by decide) (hin 1 (by decide) (by decide)) rfl dL_law_351 dL_law_352 dL_law_353 dL_law_354 dL_law_355 ?_
  refine Lw.ld hC hX hbl hbA hW.2.2 hl (k := 2) (by decide) (hin 2 (by decide) (by decide)) rfl dL_law_356 dL_law_357 dL_law_358 dL_law_359 dL_law_360 ?_
  refine Lw.ld hC hX hbl hbA hW.2.2 hl (k := 3) (by decide) (hin 3 (by decide) (by decide)) rfl dL_law_361 dL_law_362 dL_law_363 dL_law_364 dL_law_365 ?_
  refine Lw.ld hC hX hbl hbA hW.2.2 hl (k := 4) (by decide) (hin 4 (by decide) (by decide)) rfl dL_law_366 dL_law_367 dL_law_368 dL_law_369 dL_law_370 ?_
  refine Lw.ld hC hX hbl hbA hW.2.2 hl (k := 5) (by decide) (hin 5 (by decide) (by decide)) rfl dL_law_371 dL_law_372 dL_law_373 dL_law_374 dL_law_375 ?_
  refine Wi.callM (n := 5) (As := [.int (xs (i + 1).toNatClampNeg), .int (xs (i + 2).toNatClampNeg), .int (xs (i + 3).toNatClampNeg), .int (xs (i + 4).toNatClampNeg), .int (xs (i + 5).toNatClampNeg)]) (rest := [.int r]) (rv := some (.int r)) hC hW 0 (kX8_feed f8) (by decide) rfl rfl ql785 ql786 ql787 ql8 ql788 ⟨rfl, rfl⟩ ⟨by decide +kernel, by decide +kernel, by decide +kernel⟩ ⟨Nat.le_trans (Nat.le_of_ble_eq_true rfl) hR.1, Nat.le_trans (Nat.le_of_ble_eq_true rfl) hR.2⟩ hcs rfl hl.1 rfl (st2 := [.int r, .int r]) rfl (Nat.le_of_ble_eq_true rfl) dL_law_376 (fun H locs hW => ?_)
  have hW := hW.swap
  exact lv_icmp_eq (tgt := 1029) hx hb dL_law_379 (by decide) (fun _ => kk σ1 τ1 H locs hr hW) (fun h1 => absurd rfl h1)
set_option maxHeartbeats 2000000 in
set_option maxRecDepth 100000 in
theorem lc_6 (hC : Cx R_law cL_law 4 rt D cA p s m args meth c) (hX : va_X b L xs s s.heap) (hbl : b < s.heap.size) (hbA : ¬ A b) (hW : Wi D A s (wl kdX 140 a7 cA σ ++ wl kdM 31 a8 cA τ) H locs) (hl : lv_has ls 4 [(3, .int i), (2, .ref (a8 0)), (1, .ref (a7 0)), (0, .ref b)]) (hin : ∀ k : Int32, 0 ≤ k → k ≤ 5 → vp_in (i + k) L) (h : Rel σ τ) (hR : 2048 ≤ R.frames ∧ 84000 ≤ R.locals) (hcs : cells ≤ R.cells ∧ slots ≤ R.slots)
    (kk : ∀ (σ τ : St) (H : Heap) (locs : List Loc), Rel σ τ → Wi D A s (wl kdX 140 a7 cA σ ++ wl kdM 31 a8 cA τ) H locs → W p l e R s m args below meth c H locs cells slots Q (F0 m 1029 ls [])) : W p l e R s m args below meth c H locs cells slots Q (F0 m 384 ls []) := by
  have hx := hC.1
  have hb := hC.2.1
  obtain ⟨r, σ1, τ1, f7, f8, hr⟩ := J_end (N := 5000) h (xs (i + 1).toNatClampNeg)
  refine lv_aload_n hx hb dL_law_384 rfl (lv_at hl 2 rfl) ?_
  refine Lw.ld hC hX hbl hbA hW.2.2 hl (k := 1) (by decide) (hin 1 (by decide) (by decide)) rfl dL_law_385 dL_law_386 dL_law_387 dL_law_388 dL_law_389 ?_
  refine Wi.callM (n := 1) (As := [.int (xs (i + 1).toNatClampNeg)]) (rest := []) (rv := some (.int r)) hC hW 0 (kX7_end f7) (by decide) rfl rfl ql302 ql303 ql304 ql1 ql305 ⟨rfl, rfl⟩ ⟨by decide +kernel, by decide +kernel, by decide +kernel⟩ ⟨Nat.le_trans (Nat.le_of_ble_eq_true rfl) hR.1, Nat.le_trans (Nat.le_of_ble_eq_true rfl) hR.2⟩ hcs rfl hl.1 rfl (st2 := [.int r]) rfl (Nat.le_of_ble_eq_true rfl) dL_law_390 (fun H locs hW => ?_)
  have hW := hW.swap
  refine lv_aload_n hx hb dL_law_393 rfl (lv_at hl 1 rfl) ?_
  refine Lw.ld hC hX hbl hbA hW.2.2 hl (k := 1) (by decide) (hin 1 (by decide) (by decide)) rfl dL_law_394 dL_law_395 dL_law_396 dL_law_397 dL_law_398 ?_
  refine Wi.callM (n := 1) (As := [.int (xs (i + 1).toNatClampNeg)]) (rest := [.int r]) (rv := some (.int r)) hC hW 0 (kX8_end f8) (by decide) rfl rfl ql789 ql790 ql791 ql8 ql792 ⟨rfl, rfl⟩ ⟨by decide +kernel, by decide +kernel, by decide +kernel⟩ ⟨Nat.le_trans (Nat.le_of_ble_eq_true rfl) hR.1, Nat.le_trans (Nat.le_of_ble_eq_true rfl) hR.2⟩ hcs rfl hl.1 rfl (st2 := [.int r, .int r]) rfl (Nat.le_of_ble_eq_true rfl) dL_law_399 (fun H locs hW => ?_)
  have hW := hW.swap
  exact lv_icmp_eq (tgt := 1029) hx hb dL_law_402 (by decide) (fun _ => kk σ1 τ1 H locs hr hW) (fun h1 => absurd rfl h1)
set_option maxHeartbeats 2000000 in
set_option maxRecDepth 100000 in
theorem lc_7 (hC : Cx R_law cL_law 4 rt D cA p s m args meth c) (hX : va_X b L xs s s.heap) (hbl : b < s.heap.size) (hbA : ¬ A b) (hW : Wi D A s (wl kdX 140 a7 cA σ ++ wl kdM 31 a8 cA τ) H locs) (hl : lv_has ls 4 [(3, .int i), (2, .ref (a8 0)), (1, .ref (a7 0)), (0, .ref b)]) (hin : ∀ k : Int32, 0 ≤ k → k ≤ 5 → vp_in (i + k) L) (h : Rel σ τ) (hR : 2048 ≤ R.frames ∧ 84000 ≤ R.locals) (hcs : cells ≤ R.cells ∧ slots ≤ R.slots)
    (kk : ∀ (σ τ : St) (H : Heap) (locs : List Loc), Rel σ τ → Wi D A s (wl kdX 140 a7 cA σ ++ wl kdM 31 a8 cA τ) H locs → W p l e R s m args below meth c H locs cells slots Q (F0 m 1029 ls [])) : W p l e R s m args below meth c H locs cells slots Q (F0 m 407 ls []) := by
  have hx := hC.1
  have hb := hC.2.1
  obtain ⟨r, σ1, τ1, f7, f8, hr⟩ := J_take (N := 5000) h (by decide)
  refine lv_aload_n hx hb dL_law_407 rfl (lv_at hl 2 rfl) ?_
  refine Wi.callM (n := 0) (As := []) (rest := []) (rv := some (.int r)) hC hW 0 (kX7_take f7) (by decide) rfl rfl ql306 ql307 ql308 ql1 ql309 ⟨rfl, rfl⟩ ⟨by decide +kernel, by decide +kernel, by decide +kernel⟩ ⟨Nat.le_trans (Nat.le_of_ble_eq_true rfl) hR.1, Nat.le_trans (Nat.le_of_ble_eq_true rfl) hR.2⟩ hcs rfl hl.1 rfl (st2 := [.int r]) rfl (Nat.le_of_ble_eq_true rfl) dL_law_408 (fun H locs hW => ?_)
  have hW := hW.swap
  refine lv_aload_n hx hb dL_law_411 rfl (lv_at hl 1 rfl) ?_
  refine Wi.callM (n := 0) (As := []) (rest := [.int r]) (rv := some (.int r)) hC hW 0 (kX8_take f8) (by decide) rfl rfl ql793 ql794 ql795 ql8 ql796 ⟨rfl, rfl⟩ ⟨by decide +kernel, by decide +kernel, by decide +kernel⟩ ⟨Nat.le_trans (Nat.le_of_ble_eq_true rfl) hR.1, Nat.le_trans (Nat.le_of_ble_eq_true rfl) hR.2⟩ hcs rfl hl.1 rfl (st2 := [.int r, .int r]) rfl (Nat.le_of_ble_eq_true rfl) dL_law_412 (fun H locs hW => ?_)
  have hW := hW.swap
  exact lv_icmp_eq (tgt := 1029) hx hb dL_law_415 (by decide) (fun _ => kk σ1 τ1 H locs hr hW) (fun h1 => absurd rfl h1)
set_option maxHeartbeats 2000000 in
set_option maxRecDepth 100000 in
theorem lc_8 (hC : Cx R_law cL_law 4 rt D cA p s m args meth c) (hX : va_X b L xs s s.heap) (hbl : b < s.heap.size) (hbA : ¬ A b) (hW : Wi D A s (wl kdX 140 a7 cA σ ++ wl kdM 31 a8 cA τ) H locs) (hl : lv_has ls 4 [(3, .int i), (2, .ref (a8 0)), (1, .ref (a7 0)), (0, .ref b)]) (hin : ∀ k : Int32, 0 ≤ k → k ≤ 5 → vp_in (i + k) L) (h : Rel σ τ) (hR : 2048 ≤ R.frames ∧ 84000 ≤ R.locals) (hcs : cells ≤ R.cells ∧ slots ≤ R.slots)
    (kk : ∀ (σ τ : St) (H : Heap) (locs : List Loc), Rel σ τ → Wi D A s (wl kdX 140 a7 cA σ ++ wl kdM 31 a8 cA τ) H locs → W p l e R s m args below meth c H locs cells slots Q (F0 m 1029 ls [])) : W p l e R s m args below meth c H locs cells slots Q (F0 m 420 ls []) := by
  have hx := hC.1
  have hb := hC.2.1
  obtain ⟨r, σ1, τ1, f7, f8, hr⟩ := J_read (N := 5000) h (by decide)
  refine lv_aload_n hx hb dL_law_420 rfl (lv_at hl 2 rfl) ?_
  refine Wi.callM (n := 0) (As := []) (rest := []) (rv := some (.int r)) hC hW 0 (kX7_read f7) (by decide) rfl rfl ql317 ql318 ql319 ql1 ql320 ⟨rfl, rfl⟩ ⟨by decide +kernel, by decide +kernel, by decide +kernel⟩ ⟨Nat.le_trans (Nat.le_of_ble_eq_true rfl) hR.1, Nat.le_trans (Nat.le_of_ble_eq_true rfl) hR.2⟩ hcs rfl hl.1 rfl (st2 := [.int r]) rfl (Nat.le_of_ble_eq_true rfl) dL_law_421 (fun H locs hW => ?_)
  have hW := hW.swap
  refine lv_aload_n hx hb dL_law_424 rfl (lv_at hl 1 rfl) ?_
  refine Wi.callM (n := 0) (As := []) (rest := [.int r]) (rv := some (.int r)) hC hW 0 (kX8_read f8) (by decide) rfl rfl ql797 ql798 ql799 ql8 ql800 ⟨rfl, rfl⟩ ⟨by decide +kernel, by decide +kernel, by decide +kernel⟩ ⟨Nat.le_trans (Nat.le_of_ble_eq_true rfl) hR.1, Nat.le_trans (Nat.le_of_ble_eq_true rfl) hR.2⟩ hcs rfl hl.1 rfl (st2 := [.int r, .int r]) rfl (Nat.le_of_ble_eq_true rfl) dL_law_425 (fun H locs hW => ?_)
  have hW := hW.swap
  exact lv_icmp_eq (tgt := 1029) hx hb dL_law_428 (by decide) (fun _ => kk σ1 τ1 H locs hr hW) (fun h1 => absurd rfl h1)
set_option maxHeartbeats 2000000 in
set_option maxRecDepth 100000 in
theorem lc_9 (hC : Cx R_law cL_law 4 rt D cA p s m args meth c) (hX : va_X b L xs s s.heap) (hbl : b < s.heap.size) (hbA : ¬ A b) (hW : Wi D A s (wl kdX 140 a7 cA σ ++ wl kdM 31 a8 cA τ) H locs) (hl : lv_has ls 4 [(3, .int i), (2, .ref (a8 0)), (1, .ref (a7 0)), (0, .ref b)]) (hin : ∀ k : Int32, 0 ≤ k → k ≤ 5 → vp_in (i + k) L) (h : Rel σ τ) (hR : 2048 ≤ R.frames ∧ 84000 ≤ R.locals) (hcs : cells ≤ R.cells ∧ slots ≤ R.slots)
    (kk : ∀ (σ τ : St) (H : Heap) (locs : List Loc), Rel σ τ → Wi D A s (wl kdX 140 a7 cA σ ++ wl kdM 31 a8 cA τ) H locs → W p l e R s m args below meth c H locs cells slots Q (F0 m 1029 ls [])) : W p l e R s m args below meth c H locs cells slots Q (F0 m 433 ls []) := by
  have hx := hC.1
  have hb := hC.2.1
  obtain ⟨r, σ1, τ1, f7, f8, hr⟩ := J_fault (N := 5000) h
  refine lv_aload_n hx hb dL_law_433 rfl (lv_at hl 2 rfl) ?_
  refine Wi.callM (n := 0) (As := []) (rest := []) (rv := some (.int r)) hC hW 0 (kX7_fault f7) (by decide) rfl rfl ql344 ql345 ql346 ql1 ql347 ⟨rfl, rfl⟩ ⟨by decide +kernel, by decide +kernel, by decide +kernel⟩ ⟨Nat.le_trans (Nat.le_of_ble_eq_true rfl) hR.1, Nat.le_trans (Nat.le_of_ble_eq_true rfl) hR.2⟩ hcs rfl hl.1 rfl (st2 := [.int r]) rfl (Nat.le_of_ble_eq_true rfl) dL_law_434 (fun H locs hW => ?_)
  have hW := hW.swap
  refine lv_aload_n hx hb dL_law_437 rfl (lv_at hl 1 rfl) ?_
  refine Wi.callM (n := 0) (As := []) (rest := [.int r]) (rv := some (.int r)) hC hW 0 (kX8_fault f8) (by decide) rfl rfl ql803 ql804 ql805 ql8 ql806 ⟨rfl, rfl⟩ ⟨by decide +kernel, by decide +kernel, by decide +kernel⟩ ⟨Nat.le_trans (Nat.le_of_ble_eq_true rfl) hR.1, Nat.le_trans (Nat.le_of_ble_eq_true rfl) hR.2⟩ hcs rfl hl.1 rfl (st2 := [.int r, .int r]) rfl (Nat.le_of_ble_eq_true rfl) dL_law_438 (fun H locs hW => ?_)
  have hW := hW.swap
  exact lv_icmp_eq (tgt := 1029) hx hb dL_law_441 (by decide) (fun _ => kk σ1 τ1 H locs hr hW) (fun h1 => absurd rfl h1)
set_option maxHeartbeats 2000000 in
set_option maxRecDepth 100000 in
theorem lc_10 (hC : Cx R_law cL_law 4 rt D cA p s m args meth c) (hX : va_X b L xs s s.heap) (hbl : b < s.heap.size) (hbA : ¬ A b) (hW : Wi D A s (wl kdX 140 a7 cA σ ++ wl kdM 31 a8 cA τ) H locs) (hl : lv_has ls 4 [(3, .int i), (2, .ref (a8 0)), (1, .ref (a7 0)), (0, .ref b)]) (hin : ∀ k : Int32, 0 ≤ k → k ≤ 5 → vp_in (i + k) L) (h : Rel σ τ) (hR : 2048 ≤ R.frames ∧ 84000 ≤ R.locals) (hcs : cells ≤ R.cells ∧ slots ≤ R.slots)
    (kk : ∀ (σ τ : St) (H : Heap) (locs : List Loc), Rel σ τ → Wi D A s (wl kdX 140 a7 cA σ ++ wl kdM 31 a8 cA τ) H locs → W p l e R s m args below meth c H locs cells slots Q (F0 m 1029 ls [])) : W p l e R s m args below meth c H locs cells slots Q (F0 m 446 ls []) := by
  have hx := hC.1
  have hb := hC.2.1
  obtain ⟨r, σ1, τ1, f7, f8, hr⟩ := J_write (N := 5000) h (by decide)
  refine lv_aload_n hx hb dL_law_446 rfl (lv_at hl 2 rfl) ?_
  refine Wi.callM (n := 0) (As := []) (rest := []) (rv := some (.int r)) hC hW 0 (kX7_write f7) (by decide) rfl rfl ql348 ql349 ql350 ql1 ql351 ⟨rfl, rfl⟩ ⟨by decide +kernel, by decide +kernel, by decide +kernel⟩ ⟨Nat.le_trans (Nat.le_of_ble_eq_true rfl) hR.1, Nat.le_trans (Nat.le_of_ble_eq_true rfl) hR.2⟩ hcs rfl hl.1 rfl (st2 := [.int r]) rfl (Nat.le_of_ble_eq_true rfl) dL_law_447 (fun H locs hW => ?_)
  have hW := hW.swap
  refine lv_aload_n hx hb dL_law_450 rfl (lv_at hl 1 rfl) ?_
  refine Wi.callM (n := 0) (As := []) (rest := [.int r]) (rv := some (.int r)) hC hW 0 (kX8_write f8) (by decide) rfl rfl ql807 ql808 ql809 ql8 ql810 ⟨rfl, rfl⟩ ⟨by decide +kernel, by decide +kernel, by decide +kernel⟩ ⟨Nat.le_trans (Nat.le_of_ble_eq_true rfl) hR.1, Nat.le_trans (Nat.le_of_ble_eq_true rfl) hR.2⟩ hcs rfl hl.1 rfl (st2 := [.int r, .int r]) rfl (Nat.le_of_ble_eq_true rfl) dL_law_451 (fun H locs hW => ?_)
  have hW := hW.swap
  exact lv_icmp_eq (tgt := 1029) hx hb dL_law_454 (by decide) (fun _ => kk σ1 τ1 H locs hr hW) (fun h1 => absurd rfl h1)
set_option maxHeartbeats 2000000 in
set_option maxRecDepth 100000 in
theorem lc_11 (hC : Cx R_law cL_law 4 rt D cA p s m args meth c) (hX : va_X b L xs s s.heap) (hbl : b < s.heap.size) (hbA : ¬ A b) (hW : Wi D A s (wl kdX 140 a7 cA σ ++ wl kdM 31 a8 cA τ) H locs) (hl : lv_has ls 4 [(3, .int i), (2, .ref (a8 0)), (1, .ref (a7 0)), (0, .ref b)]) (hin : ∀ k : Int32, 0 ≤ k → k ≤ 5 → vp_in (i + k) L) (h : Rel σ τ) (hR : 2048 ≤ R.frames ∧ 84000 ≤ R.locals) (hcs : cells ≤ R.cells ∧ slots ≤ R.slots)
    (kk : ∀ (σ τ : St) (H : Heap) (locs : List Loc), Rel σ τ → Wi D A s (wl kdX 140 a7 cA σ ++ wl kdM 31 a8 cA τ) H locs → W p l e R s m args below meth c H locs cells slots Q (F0 m 1029 ls [])) : W p l e R s m args below meth c H locs cells slots Q (F0 m 459 ls []) := by
  have hx := hC.1
  have hb := hC.2.1
  obtain ⟨r, σ1, τ1, f7, f8, hr⟩ := J_out (N := 5000) h (xs (i + 1).toNatClampNeg)
  refine lv_aload_n hx hb dL_law_459 rfl (lv_at hl 2 rfl) ?_
  refine Lw.ld hC hX hbl hbA hW.2.2 hl (k := 1) (by decide) (hin 1 (by decide) (by decide)) rfl dL_law_460 dL_law_461 dL_law_462 dL_law_463 dL_law_464 ?_
  refine Wi.callM (n := 1) (As := [.int (xs (i + 1).toNatClampNeg)]) (rest := []) (rv := some (.int r)) hC hW 0 (kX7_out f7) (by decide) rfl rfl ql358 ql359 ql360 ql1 ql361 ⟨rfl, rfl⟩ ⟨by decide +kernel, by decide +kernel, by decide +kernel⟩ ⟨Nat.le_trans (Nat.le_of_ble_eq_true rfl) hR.1, Nat.le_trans (Nat.le_of_ble_eq_true rfl) hR.2⟩ hcs rfl hl.1 rfl (st2 := [.int r]) rfl (Nat.le_of_ble_eq_true rfl) dL_law_465 (fun H locs hW => ?_)
  have hW := hW.swap
  refine lv_aload_n hx hb dL_law_468 rfl (lv_at hl 1 rfl) ?_
  refine Lw.ld hC hX hbl hbA hW.2.2 hl (k := 1) (by decide) (hin 1 (by decide) (by decide)) rfl dL_law_469 dL_law_470 dL_law_471 dL_law_472 dL_law_473 ?_
  refine Wi.callM (n := 1) (As := [.int (xs (i + 1).toNatClampNeg)]) (rest := [.int r]) (rv := some (.int r)) hC hW 0 (kX8_out f8) (by decide) rfl rfl ql822 ql823 ql824 ql8 ql825 ⟨rfl, rfl⟩ ⟨by decide +kernel, by decide +kernel, by decide +kernel⟩ ⟨Nat.le_trans (Nat.le_of_ble_eq_true rfl) hR.1, Nat.le_trans (Nat.le_of_ble_eq_true rfl) hR.2⟩ hcs rfl hl.1 rfl (st2 := [.int r, .int r]) rfl (Nat.le_of_ble_eq_true rfl) dL_law_474 (fun H locs hW => ?_)
  have hW := hW.swap
  exact lv_icmp_eq (tgt := 1029) hx hb dL_law_477 (by decide) (fun _ => kk σ1 τ1 H locs hr hW) (fun h1 => absurd rfl h1)
set_option maxHeartbeats 2000000 in
set_option maxRecDepth 100000 in
theorem lc_12 (hC : Cx R_law cL_law 4 rt D cA p s m args meth c) (hX : va_X b L xs s s.heap) (hbl : b < s.heap.size) (hbA : ¬ A b) (hW : Wi D A s (wl kdX 140 a7 cA σ ++ wl kdM 31 a8 cA τ) H locs) (hl : lv_has ls 4 [(3, .int i), (2, .ref (a8 0)), (1, .ref (a7 0)), (0, .ref b)]) (hin : ∀ k : Int32, 0 ≤ k → k ≤ 5 → vp_in (i + k) L) (h : Rel σ τ) (hR : 2048 ≤ R.frames ∧ 84000 ≤ R.locals) (hcs : cells ≤ R.cells ∧ slots ≤ R.slots)
    (kk : ∀ (σ τ : St) (H : Heap) (locs : List Loc), Rel σ τ → Wi D A s (wl kdX 140 a7 cA σ ++ wl kdM 31 a8 cA τ) H locs → W p l e R s m args below meth c H locs cells slots Q (F0 m 1029 ls [])) : W p l e R s m args below meth c H locs cells slots Q (F0 m 482 ls []) := by
  have hx := hC.1
  have hb := hC.2.1
  obtain ⟨r, σ1, τ1, f7, f8, hr⟩ := J_linkage (N := 5000) h (by decide) (xs (i + 1).toNatClampNeg) (xs (i + 2).toNatClampNeg) (xs (i + 3).toNatClampNeg) (xs (i + 4).toNatClampNeg)
  refine lv_aload_n hx hb dL_law_482 rfl (lv_at hl 2 rfl) ?_
  refine Lw.ld hC hX hbl hbA hW.2.2 hl (k := 1) (by decide) (hin 1 (by decide) (by decide)) rfl dL_law_483 dL_law_484 dL_law_485 dL_law_486 dL_law_487 ?_
  refine Lw.ld hC hX hbl hbA hW.2.2 hl (k := 2) (by decide) (hin 2 (by decide) (by decide)) rfl dL_law_488 dL_law_489 dL_law_490 dL_law_491 dL_law_492 ?_
  refine Lw.ld hC hX hbl hbA hW.2.2 hl (k := 3) (by decide) (hin 3 (by decide) (by decide)) rfl dL_law_493 dL_law_494 dL_law_495 dL_law_496 dL_law_497 ?_
  refine Lw.ld hC hX hbl hbA hW.2.2 hl (k := 4) (by decide) (hin 4 (by decide) (by decide)) rfl dL_law_498 dL_law_499 dL_law_500 dL_law_501 dL_law_502 ?_
  refine Wi.callM (n := 4) (As := [.int (xs (i + 1).toNatClampNeg), .int (xs (i + 2).toNatClampNeg), .int (xs (i + 3).toNatClampNeg), .int (xs (i + 4).toNatClampNeg)]) (rest := []) (rv := some (.long r)) hC hW 0 (kX7_linkage f7) (by decide) rfl rfl ql363 ql364 ql365 ql1 ql366 ⟨rfl, rfl⟩ ⟨by decide +kernel, by decide +kernel, by decide +kernel⟩ ⟨Nat.le_trans (Nat.le_of_ble_eq_true rfl) hR.1, Nat.le_trans (Nat.le_of_ble_eq_true rfl) hR.2⟩ hcs rfl hl.1 rfl (st2 := [.long r]) rfl (Nat.le_of_ble_eq_true rfl) dL_law_503 (fun H locs hW => ?_)
  have hW := hW.swap
  refine lv_aload_n hx hb dL_law_506 rfl (lv_at hl 1 rfl) ?_
  refine Lw.ld hC hX hbl hbA hW.2.2 hl (k := 1) (by decide) (hin 1 (by decide) (by decide)) rfl dL_law_507 dL_law_508 dL_law_509 dL_law_510 dL_law_511 ?_
  refine Lw.ld hC hX hbl hbA hW.2.2 hl (k := 2) (by decide) (hin 2 (by decide) (by decide)) rfl dL_law_512 dL_law_513 dL_law_514 dL_law_515 dL_law_516 ?_
  refine Lw.ld hC hX hbl hbA hW.2.2 hl (k := 3) (by decide) (hin 3 (by decide) (by decide)) rfl dL_law_517 dL_law_518 dL_law_519 dL_law_520 dL_law_521 ?_
  refine Lw.ld hC hX hbl hbA hW.2.2 hl (k := 4) (by decide) (hin 4 (by decide) (by decide)) rfl dL_law_522 dL_law_523 dL_law_524 dL_law_525 dL_law_526 ?_
  refine Wi.callM (n := 4) (As := [.int (xs (i + 1).toNatClampNeg), .int (xs (i + 2).toNatClampNeg), .int (xs (i + 3).toNatClampNeg), .int (xs (i + 4).toNatClampNeg)]) (rest := [.long r]) (rv := some (.long r)) hC hW 0 (kX8_linkage f8) (by decide) rfl rfl ql826 ql827 ql828 ql8 ql829 ⟨rfl, rfl⟩ ⟨by decide +kernel, by decide +kernel, by decide +kernel⟩ ⟨Nat.le_trans (Nat.le_of_ble_eq_true rfl) hR.1, Nat.le_trans (Nat.le_of_ble_eq_true rfl) hR.2⟩ hcs rfl hl.1 rfl (st2 := [.long r, .long r]) rfl (Nat.le_of_ble_eq_true rfl) dL_law_527 (fun H locs hW => ?_)
  have hW := hW.swap
  refine W.lcmp hx hb dL_law_530 ?_
  exact lv_if_eq (tgt := 1029) hx hb dL_law_531 (by decide) (fun _ => kk σ1 τ1 H locs hr hW) (fun h1 => absurd (lc_same r) h1)
set_option maxHeartbeats 2000000 in
set_option maxRecDepth 100000 in
theorem lc_13 (hC : Cx R_law cL_law 4 rt D cA p s m args meth c) (hX : va_X b L xs s s.heap) (hbl : b < s.heap.size) (hbA : ¬ A b) (hW : Wi D A s (wl kdX 140 a7 cA σ ++ wl kdM 31 a8 cA τ) H locs) (hl : lv_has ls 4 [(3, .int i), (2, .ref (a8 0)), (1, .ref (a7 0)), (0, .ref b)]) (hin : ∀ k : Int32, 0 ≤ k → k ≤ 5 → vp_in (i + k) L) (h : Rel σ τ) (hR : 2048 ≤ R.frames ∧ 84000 ≤ R.locals) (hcs : cells ≤ R.cells ∧ slots ≤ R.slots)
    (kk : ∀ (σ τ : St) (H : Heap) (locs : List Loc), Rel σ τ → Wi D A s (wl kdX 140 a7 cA σ ++ wl kdM 31 a8 cA τ) H locs → W p l e R s m args below meth c H locs cells slots Q (F0 m 1029 ls [])) : W p l e R s m args below meth c H locs cells slots Q (F0 m 536 ls []) := by
  have hx := hC.1
  have hb := hC.2.1
  obtain ⟨r, σ1, τ1, f7, f8, hr⟩ := J_greedy (N := 5000) h (by decide) (xs (i + 1).toNatClampNeg) (xs (i + 2).toNatClampNeg)
  refine lv_aload_n hx hb dL_law_536 rfl (lv_at hl 2 rfl) ?_
  refine Lw.ld hC hX hbl hbA hW.2.2 hl (k := 1) (by decide) (hin 1 (by decide) (by decide)) rfl dL_law_537 dL_law_538 dL_law_539 dL_law_540 dL_law_541 ?_
  refine Lw.ld hC hX hbl hbA hW.2.2 hl (k := 2) (by decide) (hin 2 (by decide) (by decide)) rfl dL_law_542 dL_law_543 dL_law_544 dL_law_545 dL_law_546 ?_
  refine Wi.callM (n := 2) (As := [.int (xs (i + 1).toNatClampNeg), .int (xs (i + 2).toNatClampNeg)]) (rest := []) (rv := some (.int r)) hC hW 0 (kX7_greedy f7) (by decide) rfl rfl ql413 ql414 ql415 ql1 ql416 ⟨rfl, rfl⟩ ⟨by decide +kernel, by decide +kernel, by decide +kernel⟩ ⟨Nat.le_trans (Nat.le_of_ble_eq_true rfl) hR.1, Nat.le_trans (Nat.le_of_ble_eq_true rfl) hR.2⟩ hcs rfl hl.1 rfl (st2 := [.int r]) rfl (Nat.le_of_ble_eq_true rfl) dL_law_547 (fun H locs hW => ?_)
  have hW := hW.swap
  refine lv_aload_n hx hb dL_law_550 rfl (lv_at hl 1 rfl) ?_
  refine Lw.ld hC hX hbl hbA hW.2.2 hl (k := 1) (by decide) (hin 1 (by decide) (by decide)) rfl dL_law_551 dL_law_552 dL_law_553 dL_law_554 dL_law_555 ?_
  refine Lw.ld hC hX hbl hbA hW.2.2 hl (k := 2) (by decide) (hin 2 (by decide) (by decide)) rfl dL_law_556 dL_law_557 dL_law_558 dL_law_559 dL_law_560 ?_
  refine Wi.callM (n := 2) (As := [.int (xs (i + 1).toNatClampNeg), .int (xs (i + 2).toNatClampNeg)]) (rest := [.int r]) (rv := some (.int r)) hC hW 0 (kX8_greedy f8) (by decide) rfl rfl ql860 ql861 ql862 ql8 ql863 ⟨rfl, rfl⟩ ⟨by decide +kernel, by decide +kernel, by decide +kernel⟩ ⟨Nat.le_trans (Nat.le_of_ble_eq_true rfl) hR.1, Nat.le_trans (Nat.le_of_ble_eq_true rfl) hR.2⟩ hcs rfl hl.1 rfl (st2 := [.int r, .int r]) rfl (Nat.le_of_ble_eq_true rfl) dL_law_561 (fun H locs hW => ?_)
  have hW := hW.swap
  exact lv_icmp_eq (tgt := 1029) hx hb dL_law_564 (by decide) (fun _ => kk σ1 τ1 H locs hr hW) (fun h1 => absurd rfl h1)
set_option maxHeartbeats 2000000 in
set_option maxRecDepth 100000 in
theorem lc_14 (hC : Cx R_law cL_law 4 rt D cA p s m args meth c) (hX : va_X b L xs s s.heap) (hbl : b < s.heap.size) (hbA : ¬ A b) (hW : Wi D A s (wl kdX 140 a7 cA σ ++ wl kdM 31 a8 cA τ) H locs) (hl : lv_has ls 4 [(3, .int i), (2, .ref (a8 0)), (1, .ref (a7 0)), (0, .ref b)]) (hin : ∀ k : Int32, 0 ≤ k → k ≤ 5 → vp_in (i + k) L) (h : Rel σ τ) (hR : 2048 ≤ R.frames ∧ 84000 ≤ R.locals) (hcs : cells ≤ R.cells ∧ slots ≤ R.slots)
    (kk : ∀ (σ τ : St) (H : Heap) (locs : List Loc), Rel σ τ → Wi D A s (wl kdX 140 a7 cA σ ++ wl kdM 31 a8 cA τ) H locs → W p l e R s m args below meth c H locs cells slots Q (F0 m 1029 ls [])) : W p l e R s m args below meth c H locs cells slots Q (F0 m 569 ls []) := by
  have hx := hC.1
  have hb := hC.2.1
  obtain ⟨r, σ1, τ1, f7, f8, hr⟩ := J_chain (N := 5000) h (by decide) (xs (i + 1).toNatClampNeg) (xs (i + 2).toNatClampNeg)
  refine lv_aload_n hx hb dL_law_569 rfl (lv_at hl 2 rfl) ?_
  refine Lw.ld hC hX hbl hbA hW.2.2 hl (k := 1) (by decide) (hin 1 (by decide) (by decide)) rfl dL_law_570 dL_law_571 dL_law_572 dL_law_573 dL_law_574 ?_
  refine Lw.ld hC hX hbl hbA hW.2.2 hl (k := 2) (by decide) (hin 2 (by decide) (by decide)) rfl dL_law_575 dL_law_576 dL_law_577 dL_law_578 dL_law_579 ?_
  refine Wi.callM (n := 2) (As := [.int (xs (i + 1).toNatClampNeg), .int (xs (i + 2).toNatClampNeg)]) (rest := []) (rv := some (.int r)) hC hW 0 (kX7_chain f7) (by decide) rfl rfl ql502 ql503 ql504 ql1 ql505 ⟨rfl, rfl⟩ ⟨by decide +kernel, by decide +kernel, by decide +kernel⟩ ⟨Nat.le_trans (Nat.le_of_ble_eq_true rfl) hR.1, Nat.le_trans (Nat.le_of_ble_eq_true rfl) hR.2⟩ hcs rfl hl.1 rfl (st2 := [.int r]) rfl (Nat.le_of_ble_eq_true rfl) dL_law_580 (fun H locs hW => ?_)
  have hW := hW.swap
  refine lv_aload_n hx hb dL_law_583 rfl (lv_at hl 1 rfl) ?_
  refine Lw.ld hC hX hbl hbA hW.2.2 hl (k := 1) (by decide) (hin 1 (by decide) (by decide)) rfl dL_law_584 dL_law_585 dL_law_586 dL_law_587 dL_law_588 ?_
  refine Lw.ld hC hX hbl hbA hW.2.2 hl (k := 2) (by decide) (hin 2 (by decide) (by decide)) rfl dL_law_589 dL_law_590 dL_law_591 dL_law_592 dL_law_593 ?_
  refine Wi.callM (n := 2) (As := [.int (xs (i + 1).toNatClampNeg), .int (xs (i + 2).toNatClampNeg)]) (rest := [.int r]) (rv := some (.int r)) hC hW 0 (kX8_chain f8) (by decide) rfl rfl ql883 ql884 ql885 ql8 ql886 ⟨rfl, rfl⟩ ⟨by decide +kernel, by decide +kernel, by decide +kernel⟩ ⟨Nat.le_trans (Nat.le_of_ble_eq_true rfl) hR.1, Nat.le_trans (Nat.le_of_ble_eq_true rfl) hR.2⟩ hcs rfl hl.1 rfl (st2 := [.int r, .int r]) rfl (Nat.le_of_ble_eq_true rfl) dL_law_594 (fun H locs hW => ?_)
  have hW := hW.swap
  exact lv_icmp_eq (tgt := 1029) hx hb dL_law_597 (by decide) (fun _ => kk σ1 τ1 H locs hr hW) (fun h1 => absurd rfl h1)
set_option maxHeartbeats 2000000 in
set_option maxRecDepth 100000 in
theorem lc_15 (hC : Cx R_law cL_law 4 rt D cA p s m args meth c) (hX : va_X b L xs s s.heap) (hbl : b < s.heap.size) (hbA : ¬ A b) (hW : Wi D A s (wl kdX 140 a7 cA σ ++ wl kdM 31 a8 cA τ) H locs) (hl : lv_has ls 4 [(3, .int i), (2, .ref (a8 0)), (1, .ref (a7 0)), (0, .ref b)]) (hin : ∀ k : Int32, 0 ≤ k → k ≤ 5 → vp_in (i + k) L) (h : Rel σ τ) (hR : 2048 ≤ R.frames ∧ 84000 ≤ R.locals) (hcs : cells ≤ R.cells ∧ slots ≤ R.slots)
    (kk : ∀ (σ τ : St) (H : Heap) (locs : List Loc), Rel σ τ → Wi D A s (wl kdX 140 a7 cA σ ++ wl kdM 31 a8 cA τ) H locs → W p l e R s m args below meth c H locs cells slots Q (F0 m 1029 ls [])) : W p l e R s m args below meth c H locs cells slots Q (F0 m 602 ls []) := by
  have hx := hC.1
  have hb := hC.2.1
  obtain ⟨r, σ1, τ1, f7, f8, hr⟩ := J_tree (N := 5000) h (xs (i + 1).toNatClampNeg) (xs (i + 2).toNatClampNeg)
  refine lv_aload_n hx hb dL_law_602 rfl (lv_at hl 2 rfl) ?_
  refine Lw.ld hC hX hbl hbA hW.2.2 hl (k := 1) (by decide) (hin 1 (by decide) (by decide)) rfl dL_law_603 dL_law_604 dL_law_605 dL_law_606 dL_law_607 ?_
  refine Lw.ld hC hX hbl hbA hW.2.2 hl (k := 2) (by decide) (hin 2 (by decide) (by decide)) rfl dL_law_608 dL_law_609 dL_law_610 dL_law_611 dL_law_612 ?_
  refine Wi.callM (n := 2) (As := [.int (xs (i + 1).toNatClampNeg), .int (xs (i + 2).toNatClampNeg)]) (rest := []) (rv := some (.int r)) hC hW 0 (kX7_tree f7) (by decide) rfl rfl ql506 ql507 ql508 ql1 ql509 ⟨rfl, rfl⟩ ⟨by decide +kernel, by decide +kernel, by decide +kernel⟩ ⟨Nat.le_trans (Nat.le_of_ble_eq_true rfl) hR.1, Nat.le_trans (Nat.le_of_ble_eq_true rfl) hR.2⟩ hcs rfl hl.1 rfl (st2 := [.int r]) rfl (Nat.le_of_ble_eq_true rfl) dL_law_613 (fun H locs hW => ?_)
  have hW := hW.swap
  refine lv_aload_n hx hb dL_law_616 rfl (lv_at hl 1 rfl) ?_
  refine Lw.ld hC hX hbl hbA hW.2.2 hl (k := 1) (by decide) (hin 1 (by decide) (by decide)) rfl dL_law_617 dL_law_618 dL_law_619 dL_law_620 dL_law_621 ?_
  refine Lw.ld hC hX hbl hbA hW.2.2 hl (k := 2) (by decide) (hin 2 (by decide) (by decide)) rfl dL_law_622 dL_law_623 dL_law_624 dL_law_625 dL_law_626 ?_
  refine Wi.callM (n := 2) (As := [.int (xs (i + 1).toNatClampNeg), .int (xs (i + 2).toNatClampNeg)]) (rest := [.int r]) (rv := some (.int r)) hC hW 0 (kX8_tree f8) (by decide) rfl rfl ql891 ql892 ql893 ql8 ql894 ⟨rfl, rfl⟩ ⟨by decide +kernel, by decide +kernel, by decide +kernel⟩ ⟨Nat.le_trans (Nat.le_of_ble_eq_true rfl) hR.1, Nat.le_trans (Nat.le_of_ble_eq_true rfl) hR.2⟩ hcs rfl hl.1 rfl (st2 := [.int r, .int r]) rfl (Nat.le_of_ble_eq_true rfl) dL_law_627 (fun H locs hW => ?_)
  have hW := hW.swap
  exact lv_icmp_eq (tgt := 1029) hx hb dL_law_630 (by decide) (fun _ => kk σ1 τ1 H locs hr hW) (fun h1 => absurd rfl h1)
set_option maxHeartbeats 2000000 in
set_option maxRecDepth 100000 in
theorem lc_16 (hC : Cx R_law cL_law 4 rt D cA p s m args meth c) (hX : va_X b L xs s s.heap) (hbl : b < s.heap.size) (hbA : ¬ A b) (hW : Wi D A s (wl kdX 140 a7 cA σ ++ wl kdM 31 a8 cA τ) H locs) (hl : lv_has ls 4 [(3, .int i), (2, .ref (a8 0)), (1, .ref (a7 0)), (0, .ref b)]) (hin : ∀ k : Int32, 0 ≤ k → k ≤ 5 → vp_in (i + k) L) (h : Rel σ τ) (hR : 2048 ≤ R.frames ∧ 84000 ≤ R.locals) (hcs : cells ≤ R.cells ∧ slots ≤ R.slots)
    (kk : ∀ (σ τ : St) (H : Heap) (locs : List Loc), Rel σ τ → Wi D A s (wl kdX 140 a7 cA σ ++ wl kdM 31 a8 cA τ) H locs → W p l e R s m args below meth c H locs cells slots Q (F0 m 1029 ls [])) : W p l e R s m args below meth c H locs cells slots Q (F0 m 635 ls []) := by
  have hx := hC.1
  have hb := hC.2.1
  obtain ⟨r, σ1, τ1, f7, f8, hr⟩ := J_step (N := 5000) h (by decide) (xs (i + 1).toNatClampNeg) (xs (i + 2).toNatClampNeg) (xs (i + 3).toNatClampNeg)
  refine lv_aload_n hx hb dL_law_635 rfl (lv_at hl 2 rfl) ?_
  refine Lw.ld hC hX hbl hbA hW.2.2 hl (k := 1) (by decide) (hin 1 (by decide) (by decide)) rfl dL_law_636 dL_law_637 dL_law_638 dL_law_639 dL_law_640 ?_
  refine Lw.ld hC hX hbl hbA hW.2.2 hl (k := 2) (by decide) (hin 2 (by decide) (by decide)) rfl dL_law_641 dL_law_642 dL_law_643 dL_law_644 dL_law_645 ?_
  refine Lw.ld hC hX hbl hbA hW.2.2 hl (k := 3) (by decide) (hin 3 (by decide) (by decide)) rfl dL_law_646 dL_law_647 dL_law_648 dL_law_649 dL_law_650 ?_
  refine Wi.callM (n := 3) (As := [.int (xs (i + 1).toNatClampNeg), .int (xs (i + 2).toNatClampNeg), .int (xs (i + 3).toNatClampNeg)]) (rest := []) (rv := some (.int r)) hC hW 0 (kX7_step f7) (by decide) rfl rfl ql514 ql515 ql516 ql1 ql517 ⟨rfl, rfl⟩ ⟨by decide +kernel, by decide +kernel, by decide +kernel⟩ ⟨Nat.le_trans (Nat.le_of_ble_eq_true rfl) hR.1, Nat.le_trans (Nat.le_of_ble_eq_true rfl) hR.2⟩ hcs rfl hl.1 rfl (st2 := [.int r]) rfl (Nat.le_of_ble_eq_true rfl) dL_law_651 (fun H locs hW => ?_)
  have hW := hW.swap
  refine lv_aload_n hx hb dL_law_654 rfl (lv_at hl 1 rfl) ?_
  refine Lw.ld hC hX hbl hbA hW.2.2 hl (k := 1) (by decide) (hin 1 (by decide) (by decide)) rfl dL_law_655 dL_law_656 dL_law_657 dL_law_658 dL_law_659 ?_
  refine Lw.ld hC hX hbl hbA hW.2.2 hl (k := 2) (by decide) (hin 2 (by decide) (by decide)) rfl dL_law_660 dL_law_661 dL_law_662 dL_law_663 dL_law_664 ?_
  refine Lw.ld hC hX hbl hbA hW.2.2 hl (k := 3) (by decide) (hin 3 (by decide) (by decide)) rfl dL_law_665 dL_law_666 dL_law_667 dL_law_668 dL_law_669 ?_
  refine Wi.callM (n := 3) (As := [.int (xs (i + 1).toNatClampNeg), .int (xs (i + 2).toNatClampNeg), .int (xs (i + 3).toNatClampNeg)]) (rest := [.int r]) (rv := some (.int r)) hC hW 0 (kX8_step f8) (by decide) rfl rfl ql903 ql904 ql905 ql8 ql906 ⟨rfl, rfl⟩ ⟨by decide +kernel, by decide +kernel, by decide +kernel⟩ ⟨Nat.le_trans (Nat.le_of_ble_eq_true rfl) hR.1, Nat.le_trans (Nat.le_of_ble_eq_true rfl) hR.2⟩ hcs rfl hl.1 rfl (st2 := [.int r, .int r]) rfl (Nat.le_of_ble_eq_true rfl) dL_law_670 (fun H locs hW => ?_)
  have hW := hW.swap
  exact lv_icmp_eq (tgt := 1029) hx hb dL_law_673 (by decide) (fun _ => kk σ1 τ1 H locs hr hW) (fun h1 => absurd rfl h1)
set_option maxHeartbeats 2000000 in
set_option maxRecDepth 100000 in
theorem lc_17 (hC : Cx R_law cL_law 4 rt D cA p s m args meth c) (hX : va_X b L xs s s.heap) (hbl : b < s.heap.size) (hbA : ¬ A b) (hW : Wi D A s (wl kdX 140 a7 cA σ ++ wl kdM 31 a8 cA τ) H locs) (hl : lv_has ls 4 [(3, .int i), (2, .ref (a8 0)), (1, .ref (a7 0)), (0, .ref b)]) (hin : ∀ k : Int32, 0 ≤ k → k ≤ 5 → vp_in (i + k) L) (h : Rel σ τ) (hR : 2048 ≤ R.frames ∧ 84000 ≤ R.locals) (hcs : cells ≤ R.cells ∧ slots ≤ R.slots)
    (kk : ∀ (σ τ : St) (H : Heap) (locs : List Loc), Rel σ τ → Wi D A s (wl kdX 140 a7 cA σ ++ wl kdM 31 a8 cA τ) H locs → W p l e R s m args below meth c H locs cells slots Q (F0 m 1029 ls [])) : W p l e R s m args below meth c H locs cells slots Q (F0 m 678 ls []) := by
  have hx := hC.1
  have hb := hC.2.1
  obtain ⟨r, σ1, τ1, f7, f8, hr⟩ := J_height (N := 5000) h (xs (i + 1).toNatClampNeg) (xs (i + 2).toNatClampNeg) (xs (i + 3).toNatClampNeg)
  refine lv_aload_n hx hb dL_law_678 rfl (lv_at hl 2 rfl) ?_
  refine Lw.ld hC hX hbl hbA hW.2.2 hl (k := 1) (by decide) (hin 1 (by decide) (by decide)) rfl dL_law_679 dL_law_680 dL_law_681 dL_law_682 dL_law_683 ?_
  refine Lw.ld hC hX hbl hbA hW.2.2 hl (k := 2) (by decide) (hin 2 (by decide) (by decide)) rfl dL_law_684 dL_law_685 dL_law_686 dL_law_687 dL_law_688 ?_
  refine Lw.ld hC hX hbl hbA hW.2.2 hl (k := 3) (by decide) (hin 3 (by decide) (by decide)) rfl dL_law_689 dL_law_690 dL_law_691 dL_law_692 dL_law_693 ?_
  refine Wi.callM (n := 3) (As := [.int (xs (i + 1).toNatClampNeg), .int (xs (i + 2).toNatClampNeg), .int (xs (i + 3).toNatClampNeg)]) (rest := []) (rv := some (.long r)) hC hW 0 (kX7_height f7) (by decide) rfl rfl ql519 ql520 ql521 ql1 ql522 ⟨rfl, rfl⟩ ⟨by decide +kernel, by decide +kernel, by decide +kernel⟩ ⟨Nat.le_trans (Nat.le_of_ble_eq_true rfl) hR.1, Nat.le_trans (Nat.le_of_ble_eq_true rfl) hR.2⟩ hcs rfl hl.1 rfl (st2 := [.long r]) rfl (Nat.le_of_ble_eq_true rfl) dL_law_694 (fun H locs hW => ?_)
  have hW := hW.swap
  refine lv_aload_n hx hb dL_law_697 rfl (lv_at hl 1 rfl) ?_
  refine Lw.ld hC hX hbl hbA hW.2.2 hl (k := 1) (by decide) (hin 1 (by decide) (by decide)) rfl dL_law_698 dL_law_699 dL_law_700 dL_law_701 dL_law_702 ?_
  refine Lw.ld hC hX hbl hbA hW.2.2 hl (k := 2) (by decide) (hin 2 (by decide) (by decide)) rfl dL_law_703 dL_law_704 dL_law_705 dL_law_706 dL_law_707 ?_
  refine Lw.ld hC hX hbl hbA hW.2.2 hl (k := 3) (by decide) (hin 3 (by decide) (by decide)) rfl dL_law_708 dL_law_709 dL_law_710 dL_law_711 dL_law_712 ?_
  refine Wi.callM (n := 3) (As := [.int (xs (i + 1).toNatClampNeg), .int (xs (i + 2).toNatClampNeg), .int (xs (i + 3).toNatClampNeg)]) (rest := [.long r]) (rv := some (.long r)) hC hW 0 (kX8_height f8) (by decide) rfl rfl ql911 ql912 ql913 ql8 ql914 ⟨rfl, rfl⟩ ⟨by decide +kernel, by decide +kernel, by decide +kernel⟩ ⟨Nat.le_trans (Nat.le_of_ble_eq_true rfl) hR.1, Nat.le_trans (Nat.le_of_ble_eq_true rfl) hR.2⟩ hcs rfl hl.1 rfl (st2 := [.long r, .long r]) rfl (Nat.le_of_ble_eq_true rfl) dL_law_713 (fun H locs hW => ?_)
  have hW := hW.swap
  refine W.lcmp hx hb dL_law_716 ?_
  exact lv_if_eq (tgt := 1029) hx hb dL_law_717 (by decide) (fun _ => kk σ1 τ1 H locs hr hW) (fun h1 => absurd (lc_same r) h1)
set_option maxHeartbeats 2000000 in
set_option maxRecDepth 100000 in
theorem lc_18 (hC : Cx R_law cL_law 4 rt D cA p s m args meth c) (hX : va_X b L xs s s.heap) (hbl : b < s.heap.size) (hbA : ¬ A b) (hW : Wi D A s (wl kdX 140 a7 cA σ ++ wl kdM 31 a8 cA τ) H locs) (hl : lv_has ls 4 [(3, .int i), (2, .ref (a8 0)), (1, .ref (a7 0)), (0, .ref b)]) (hin : ∀ k : Int32, 0 ≤ k → k ≤ 5 → vp_in (i + k) L) (h : Rel σ τ) (hR : 2048 ≤ R.frames ∧ 84000 ≤ R.locals) (hcs : cells ≤ R.cells ∧ slots ≤ R.slots)
    (kk : ∀ (σ τ : St) (H : Heap) (locs : List Loc), Rel σ τ → Wi D A s (wl kdX 140 a7 cA σ ++ wl kdM 31 a8 cA τ) H locs → W p l e R s m args below meth c H locs cells slots Q (F0 m 1029 ls [])) : W p l e R s m args below meth c H locs cells slots Q (F0 m 722 ls []) := by
  have hx := hC.1
  have hb := hC.2.1
  obtain ⟨r, σ1, τ1, f7, f8, hr⟩ := J_joins (N := 5000) h (by decide) (xs (i + 1).toNatClampNeg) (xs (i + 2).toNatClampNeg) (xs (i + 3).toNatClampNeg)
  refine lv_aload_n hx hb dL_law_722 rfl (lv_at hl 2 rfl) ?_
  refine Lw.ld hC hX hbl hbA hW.2.2 hl (k := 1) (by decide) (hin 1 (by decide) (by decide)) rfl dL_law_723 dL_law_724 dL_law_725 dL_law_726 dL_law_727 ?_
  refine Lw.ld hC hX hbl hbA hW.2.2 hl (k := 2) (by decide) (hin 2 (by decide) (by decide)) rfl dL_law_728 dL_law_729 dL_law_730 dL_law_731 dL_law_732 ?_
  refine Lw.ld hC hX hbl hbA hW.2.2 hl (k := 3) (by decide) (hin 3 (by decide) (by decide)) rfl dL_law_733 dL_law_734 dL_law_735 dL_law_736 dL_law_737 ?_
  refine Wi.callM (n := 3) (As := [.int (xs (i + 1).toNatClampNeg), .int (xs (i + 2).toNatClampNeg), .int (xs (i + 3).toNatClampNeg)]) (rest := []) (rv := some (.int r)) hC hW 0 (kX7_joins f7) (by decide) rfl rfl ql523 ql524 ql525 ql1 ql526 ⟨rfl, rfl⟩ ⟨by decide +kernel, by decide +kernel, by decide +kernel⟩ ⟨Nat.le_trans (Nat.le_of_ble_eq_true rfl) hR.1, Nat.le_trans (Nat.le_of_ble_eq_true rfl) hR.2⟩ hcs rfl hl.1 rfl (st2 := [.int r]) rfl (Nat.le_of_ble_eq_true rfl) dL_law_738 (fun H locs hW => ?_)
  have hW := hW.swap
  refine lv_aload_n hx hb dL_law_741 rfl (lv_at hl 1 rfl) ?_
  refine Lw.ld hC hX hbl hbA hW.2.2 hl (k := 1) (by decide) (hin 1 (by decide) (by decide)) rfl dL_law_742 dL_law_743 dL_law_744 dL_law_745 dL_law_746 ?_
  refine Lw.ld hC hX hbl hbA hW.2.2 hl (k := 2) (by decide) (hin 2 (by decide) (by decide)) rfl dL_law_747 dL_law_748 dL_law_749 dL_law_750 dL_law_751 ?_
  refine Lw.ld hC hX hbl hbA hW.2.2 hl (k := 3) (by decide) (hin 3 (by decide) (by decide)) rfl dL_law_752 dL_law_753 dL_law_754 dL_law_755 dL_law_756 ?_
  refine Wi.callM (n := 3) (As := [.int (xs (i + 1).toNatClampNeg), .int (xs (i + 2).toNatClampNeg), .int (xs (i + 3).toNatClampNeg)]) (rest := [.int r]) (rv := some (.int r)) hC hW 0 (kX8_joins f8) (by decide) rfl rfl ql915 ql916 ql917 ql8 ql918 ⟨rfl, rfl⟩ ⟨by decide +kernel, by decide +kernel, by decide +kernel⟩ ⟨Nat.le_trans (Nat.le_of_ble_eq_true rfl) hR.1, Nat.le_trans (Nat.le_of_ble_eq_true rfl) hR.2⟩ hcs rfl hl.1 rfl (st2 := [.int r, .int r]) rfl (Nat.le_of_ble_eq_true rfl) dL_law_757 (fun H locs hW => ?_)
  have hW := hW.swap
  exact lv_icmp_eq (tgt := 1029) hx hb dL_law_760 (by decide) (fun _ => kk σ1 τ1 H locs hr hW) (fun h1 => absurd rfl h1)
set_option maxHeartbeats 2000000 in
set_option maxRecDepth 100000 in
theorem lc_19 (hC : Cx R_law cL_law 4 rt D cA p s m args meth c) (hX : va_X b L xs s s.heap) (hbl : b < s.heap.size) (hbA : ¬ A b) (hW : Wi D A s (wl kdX 140 a7 cA σ ++ wl kdM 31 a8 cA τ) H locs) (hl : lv_has ls 4 [(3, .int i), (2, .ref (a8 0)), (1, .ref (a7 0)), (0, .ref b)]) (hin : ∀ k : Int32, 0 ≤ k → k ≤ 5 → vp_in (i + k) L) (h : Rel σ τ) (hR : 2048 ≤ R.frames ∧ 84000 ≤ R.locals) (hcs : cells ≤ R.cells ∧ slots ≤ R.slots)
    (kk : ∀ (σ τ : St) (H : Heap) (locs : List Loc), Rel σ τ → Wi D A s (wl kdX 140 a7 cA σ ++ wl kdM 31 a8 cA τ) H locs → W p l e R s m args below meth c H locs cells slots Q (F0 m 1029 ls [])) : W p l e R s m args below meth c H locs cells slots Q (F0 m 765 ls []) := by
  have hx := hC.1
  have hb := hC.2.1
  obtain ⟨r, σ1, τ1, f7, f8, hr⟩ := J_same (N := 5000) h (by decide) (xs (i + 1).toNatClampNeg) (xs (i + 2).toNatClampNeg)
  refine lv_aload_n hx hb dL_law_765 rfl (lv_at hl 2 rfl) ?_
  refine Lw.ld hC hX hbl hbA hW.2.2 hl (k := 1) (by decide) (hin 1 (by decide) (by decide)) rfl dL_law_766 dL_law_767 dL_law_768 dL_law_769 dL_law_770 ?_
  refine Lw.ld hC hX hbl hbA hW.2.2 hl (k := 2) (by decide) (hin 2 (by decide) (by decide)) rfl dL_law_771 dL_law_772 dL_law_773 dL_law_774 dL_law_775 ?_
  refine Wi.callM (n := 2) (As := [.int (xs (i + 1).toNatClampNeg), .int (xs (i + 2).toNatClampNeg)]) (rest := []) (rv := some (.int r)) hC hW 0 (kX7_same f7) (by decide) rfl rfl ql535 ql536 ql537 ql1 ql538 ⟨rfl, rfl⟩ ⟨by decide +kernel, by decide +kernel, by decide +kernel⟩ ⟨Nat.le_trans (Nat.le_of_ble_eq_true rfl) hR.1, Nat.le_trans (Nat.le_of_ble_eq_true rfl) hR.2⟩ hcs rfl hl.1 rfl (st2 := [.int r]) rfl (Nat.le_of_ble_eq_true rfl) dL_law_776 (fun H locs hW => ?_)
  have hW := hW.swap
  refine lv_aload_n hx hb dL_law_779 rfl (lv_at hl 1 rfl) ?_
  refine Lw.ld hC hX hbl hbA hW.2.2 hl (k := 1) (by decide) (hin 1 (by decide) (by decide)) rfl dL_law_780 dL_law_781 dL_law_782 dL_law_783 dL_law_784 ?_
  refine Lw.ld hC hX hbl hbA hW.2.2 hl (k := 2) (by decide) (hin 2 (by decide) (by decide)) rfl dL_law_785 dL_law_786 dL_law_787 dL_law_788 dL_law_789 ?_
  refine Wi.callM (n := 2) (As := [.int (xs (i + 1).toNatClampNeg), .int (xs (i + 2).toNatClampNeg)]) (rest := [.int r]) (rv := some (.int r)) hC hW 0 (kX8_same f8) (by decide) rfl rfl ql919 ql920 ql921 ql8 ql922 ⟨rfl, rfl⟩ ⟨by decide +kernel, by decide +kernel, by decide +kernel⟩ ⟨Nat.le_trans (Nat.le_of_ble_eq_true rfl) hR.1, Nat.le_trans (Nat.le_of_ble_eq_true rfl) hR.2⟩ hcs rfl hl.1 rfl (st2 := [.int r, .int r]) rfl (Nat.le_of_ble_eq_true rfl) dL_law_790 (fun H locs hW => ?_)
  have hW := hW.swap
  exact lv_icmp_eq (tgt := 1029) hx hb dL_law_793 (by decide) (fun _ => kk σ1 τ1 H locs hr hW) (fun h1 => absurd rfl h1)
set_option maxHeartbeats 2000000 in
set_option maxRecDepth 100000 in
theorem lc_20 (hC : Cx R_law cL_law 4 rt D cA p s m args meth c) (hX : va_X b L xs s s.heap) (hbl : b < s.heap.size) (hbA : ¬ A b) (hW : Wi D A s (wl kdX 140 a7 cA σ ++ wl kdM 31 a8 cA τ) H locs) (hl : lv_has ls 4 [(3, .int i), (2, .ref (a8 0)), (1, .ref (a7 0)), (0, .ref b)]) (hin : ∀ k : Int32, 0 ≤ k → k ≤ 5 → vp_in (i + k) L) (h : Rel σ τ) (hR : 2048 ≤ R.frames ∧ 84000 ≤ R.locals) (hcs : cells ≤ R.cells ∧ slots ≤ R.slots)
    (kk : ∀ (σ τ : St) (H : Heap) (locs : List Loc), Rel σ τ → Wi D A s (wl kdX 140 a7 cA σ ++ wl kdM 31 a8 cA τ) H locs → W p l e R s m args below meth c H locs cells slots Q (F0 m 1029 ls [])) : W p l e R s m args below meth c H locs cells slots Q (F0 m 798 ls []) := by
  have hx := hC.1
  have hb := hC.2.1
  obtain ⟨r, σ1, τ1, f7, f8, hr⟩ := J_text (N := 5000) h (by decide) (xs (i + 1).toNatClampNeg)
  refine lv_aload_n hx hb dL_law_798 rfl (lv_at hl 2 rfl) ?_
  refine Lw.ld hC hX hbl hbA hW.2.2 hl (k := 1) (by decide) (hin 1 (by decide) (by decide)) rfl dL_law_799 dL_law_800 dL_law_801 dL_law_802 dL_law_803 ?_
  refine Wi.callM (n := 1) (As := [.int (xs (i + 1).toNatClampNeg)]) (rest := []) (rv := some (.int r)) hC hW 0 (kX7_text f7) (by decide) rfl rfl ql543 ql544 ql545 ql1 ql546 ⟨rfl, rfl⟩ ⟨by decide +kernel, by decide +kernel, by decide +kernel⟩ ⟨Nat.le_trans (Nat.le_of_ble_eq_true rfl) hR.1, Nat.le_trans (Nat.le_of_ble_eq_true rfl) hR.2⟩ hcs rfl hl.1 rfl (st2 := [.int r]) rfl (Nat.le_of_ble_eq_true rfl) dL_law_804 (fun H locs hW => ?_)
  have hW := hW.swap
  refine lv_aload_n hx hb dL_law_807 rfl (lv_at hl 1 rfl) ?_
  refine Lw.ld hC hX hbl hbA hW.2.2 hl (k := 1) (by decide) (hin 1 (by decide) (by decide)) rfl dL_law_808 dL_law_809 dL_law_810 dL_law_811 dL_law_812 ?_
  refine Wi.callM (n := 1) (As := [.int (xs (i + 1).toNatClampNeg)]) (rest := [.int r]) (rv := some (.int r)) hC hW 0 (kX8_text f8) (by decide) rfl rfl ql923 ql924 ql925 ql8 ql926 ⟨rfl, rfl⟩ ⟨by decide +kernel, by decide +kernel, by decide +kernel⟩ ⟨Nat.le_trans (Nat.le_of_ble_eq_true rfl) hR.1, Nat.le_trans (Nat.le_of_ble_eq_true rfl) hR.2⟩ hcs rfl hl.1 rfl (st2 := [.int r, .int r]) rfl (Nat.le_of_ble_eq_true rfl) dL_law_813 (fun H locs hW => ?_)
  have hW := hW.swap
  exact lv_icmp_eq (tgt := 1029) hx hb dL_law_816 (by decide) (fun _ => kk σ1 τ1 H locs hr hW) (fun h1 => absurd rfl h1)
set_option maxHeartbeats 2000000 in
set_option maxRecDepth 100000 in
theorem lc_21 (hC : Cx R_law cL_law 4 rt D cA p s m args meth c) (hX : va_X b L xs s s.heap) (hbl : b < s.heap.size) (hbA : ¬ A b) (hW : Wi D A s (wl kdX 140 a7 cA σ ++ wl kdM 31 a8 cA τ) H locs) (hl : lv_has ls 4 [(3, .int i), (2, .ref (a8 0)), (1, .ref (a7 0)), (0, .ref b)]) (hin : ∀ k : Int32, 0 ≤ k → k ≤ 5 → vp_in (i + k) L) (h : Rel σ τ) (hR : 2048 ≤ R.frames ∧ 84000 ≤ R.locals) (hcs : cells ≤ R.cells ∧ slots ≤ R.slots)
    (kk : ∀ (σ τ : St) (H : Heap) (locs : List Loc), Rel σ τ → Wi D A s (wl kdX 140 a7 cA σ ++ wl kdM 31 a8 cA τ) H locs → W p l e R s m args below meth c H locs cells slots Q (F0 m 1029 ls [])) : W p l e R s m args below meth c H locs cells slots Q (F0 m 821 ls []) := by
  have hx := hC.1
  have hb := hC.2.1
  obtain ⟨r, σ1, τ1, f7, f8, hr⟩ := J_order (N := 5000) h (by decide) (xs (i + 1).toNatClampNeg) (xs (i + 2).toNatClampNeg)
  refine lv_aload_n hx hb dL_law_821 rfl (lv_at hl 2 rfl) ?_
  refine Lw.ld hC hX hbl hbA hW.2.2 hl (k := 1) (by decide) (hin 1 (by decide) (by decide)) rfl dL_law_822 dL_law_823 dL_law_824 dL_law_825 dL_law_826 ?_
  refine Lw.ld hC hX hbl hbA hW.2.2 hl (k := 2) (by decide) (hin 2 (by decide) (by decide)) rfl dL_law_827 dL_law_828 dL_law_829 dL_law_830 dL_law_831 ?_
  refine Wi.callM (n := 2) (As := [.int (xs (i + 1).toNatClampNeg), .int (xs (i + 2).toNatClampNeg)]) (rest := []) (rv := some (.int r)) hC hW 0 (kX7_order f7) (by decide) rfl rfl ql571 ql572 ql573 ql1 ql574 ⟨rfl, rfl⟩ ⟨by decide +kernel, by decide +kernel, by decide +kernel⟩ ⟨Nat.le_trans (Nat.le_of_ble_eq_true rfl) hR.1, Nat.le_trans (Nat.le_of_ble_eq_true rfl) hR.2⟩ hcs rfl hl.1 rfl (st2 := [.int r]) rfl (Nat.le_of_ble_eq_true rfl) dL_law_832 (fun H locs hW => ?_)
  have hW := hW.swap
  refine lv_aload_n hx hb dL_law_835 rfl (lv_at hl 1 rfl) ?_
  refine Lw.ld hC hX hbl hbA hW.2.2 hl (k := 1) (by decide) (hin 1 (by decide) (by decide)) rfl dL_law_836 dL_law_837 dL_law_838 dL_law_839 dL_law_840 ?_
  refine Lw.ld hC hX hbl hbA hW.2.2 hl (k := 2) (by decide) (hin 2 (by decide) (by decide)) rfl dL_law_841 dL_law_842 dL_law_843 dL_law_844 dL_law_845 ?_
  refine Wi.callM (n := 2) (As := [.int (xs (i + 1).toNatClampNeg), .int (xs (i + 2).toNatClampNeg)]) (rest := [.int r]) (rv := some (.int r)) hC hW 0 (kX8_order f8) (by decide) rfl rfl ql935 ql936 ql937 ql8 ql938 ⟨rfl, rfl⟩ ⟨by decide +kernel, by decide +kernel, by decide +kernel⟩ ⟨Nat.le_trans (Nat.le_of_ble_eq_true rfl) hR.1, Nat.le_trans (Nat.le_of_ble_eq_true rfl) hR.2⟩ hcs rfl hl.1 rfl (st2 := [.int r, .int r]) rfl (Nat.le_of_ble_eq_true rfl) dL_law_846 (fun H locs hW => ?_)
  have hW := hW.swap
  exact lv_icmp_eq (tgt := 1029) hx hb dL_law_849 (by decide) (fun _ => kk σ1 τ1 H locs hr hW) (fun h1 => absurd rfl h1)
set_option maxHeartbeats 2000000 in
set_option maxRecDepth 100000 in
theorem lc_22 (hC : Cx R_law cL_law 4 rt D cA p s m args meth c) (hX : va_X b L xs s s.heap) (hbl : b < s.heap.size) (hbA : ¬ A b) (hW : Wi D A s (wl kdX 140 a7 cA σ ++ wl kdM 31 a8 cA τ) H locs) (hl : lv_has ls 4 [(3, .int i), (2, .ref (a8 0)), (1, .ref (a7 0)), (0, .ref b)]) (hin : ∀ k : Int32, 0 ≤ k → k ≤ 5 → vp_in (i + k) L) (h : Rel σ τ) (hR : 2048 ≤ R.frames ∧ 84000 ≤ R.locals) (hcs : cells ≤ R.cells ∧ slots ≤ R.slots)
    (kk : ∀ (σ τ : St) (H : Heap) (locs : List Loc), Rel σ τ → Wi D A s (wl kdX 140 a7 cA σ ++ wl kdM 31 a8 cA τ) H locs → W p l e R s m args below meth c H locs cells slots Q (F0 m 1029 ls [])) : W p l e R s m args below meth c H locs cells slots Q (F0 m 854 ls []) := by
  have hx := hC.1
  have hb := hC.2.1
  obtain ⟨r, σ1, τ1, f7, f8, hr⟩ := J_cut (N := 5000) h (by decide) (xs (i + 1).toNatClampNeg) (xs (i + 2).toNatClampNeg)
  refine lv_aload_n hx hb dL_law_854 rfl (lv_at hl 2 rfl) ?_
  refine Lw.ld hC hX hbl hbA hW.2.2 hl (k := 1) (by decide) (hin 1 (by decide) (by decide)) rfl dL_law_855 dL_law_856 dL_law_857 dL_law_858 dL_law_859 ?_
  refine Lw.ld hC hX hbl hbA hW.2.2 hl (k := 2) (by decide) (hin 2 (by decide) (by decide)) rfl dL_law_860 dL_law_861 dL_law_862 dL_law_863 dL_law_864 ?_
  refine Wi.callM (n := 2) (As := [.int (xs (i + 1).toNatClampNeg), .int (xs (i + 2).toNatClampNeg)]) (rest := []) (rv := some (.int r)) hC hW 0 (kX7_cut f7) (by decide) rfl rfl ql583 ql584 ql585 ql1 ql586 ⟨rfl, rfl⟩ ⟨by decide +kernel, by decide +kernel, by decide +kernel⟩ ⟨Nat.le_trans (Nat.le_of_ble_eq_true rfl) hR.1, Nat.le_trans (Nat.le_of_ble_eq_true rfl) hR.2⟩ hcs rfl hl.1 rfl (st2 := [.int r]) rfl (Nat.le_of_ble_eq_true rfl) dL_law_865 (fun H locs hW => ?_)
  have hW := hW.swap
  refine lv_aload_n hx hb dL_law_868 rfl (lv_at hl 1 rfl) ?_
  refine Lw.ld hC hX hbl hbA hW.2.2 hl (k := 1) (by decide) (hin 1 (by decide) (by decide)) rfl dL_law_869 dL_law_870 dL_law_871 dL_law_872 dL_law_873 ?_
  refine Lw.ld hC hX hbl hbA hW.2.2 hl (k := 2) (by decide) (hin 2 (by decide) (by decide)) rfl dL_law_874 dL_law_875 dL_law_876 dL_law_877 dL_law_878 ?_
  refine Wi.callM (n := 2) (As := [.int (xs (i + 1).toNatClampNeg), .int (xs (i + 2).toNatClampNeg)]) (rest := [.int r]) (rv := some (.int r)) hC hW 0 (kX8_cut f8) (by decide) rfl rfl ql939 ql940 ql941 ql8 ql942 ⟨rfl, rfl⟩ ⟨by decide +kernel, by decide +kernel, by decide +kernel⟩ ⟨Nat.le_trans (Nat.le_of_ble_eq_true rfl) hR.1, Nat.le_trans (Nat.le_of_ble_eq_true rfl) hR.2⟩ hcs rfl hl.1 rfl (st2 := [.int r, .int r]) rfl (Nat.le_of_ble_eq_true rfl) dL_law_879 (fun H locs hW => ?_)
  have hW := hW.swap
  exact lv_icmp_eq (tgt := 1029) hx hb dL_law_882 (by decide) (fun _ => kk σ1 τ1 H locs hr hW) (fun h1 => absurd rfl h1)
set_option maxHeartbeats 2000000 in
set_option maxRecDepth 100000 in
theorem lc_23 (hC : Cx R_law cL_law 4 rt D cA p s m args meth c) (hX : va_X b L xs s s.heap) (hbl : b < s.heap.size) (hbA : ¬ A b) (hW : Wi D A s (wl kdX 140 a7 cA σ ++ wl kdM 31 a8 cA τ) H locs) (hl : lv_has ls 4 [(3, .int i), (2, .ref (a8 0)), (1, .ref (a7 0)), (0, .ref b)]) (hin : ∀ k : Int32, 0 ≤ k → k ≤ 5 → vp_in (i + k) L) (h : Rel σ τ) (hR : 2048 ≤ R.frames ∧ 84000 ≤ R.locals) (hcs : cells ≤ R.cells ∧ slots ≤ R.slots)
    (kk : ∀ (σ τ : St) (H : Heap) (locs : List Loc), Rel σ τ → Wi D A s (wl kdX 140 a7 cA σ ++ wl kdM 31 a8 cA τ) H locs → W p l e R s m args below meth c H locs cells slots Q (F0 m 1029 ls [])) : W p l e R s m args below meth c H locs cells slots Q (F0 m 887 ls []) := by
  have hx := hC.1
  have hb := hC.2.1
  obtain ⟨r, σ1, τ1, f7, f8, hr⟩ := J_cutAt (N := 5000) h (by decide) (xs (i + 1).toNatClampNeg) (xs (i + 2).toNatClampNeg) (xs (i + 3).toNatClampNeg)
  refine lv_aload_n hx hb dL_law_887 rfl (lv_at hl 2 rfl) ?_
  refine Lw.ld hC hX hbl hbA hW.2.2 hl (k := 1) (by decide) (hin 1 (by decide) (by decide)) rfl dL_law_888 dL_law_889 dL_law_890 dL_law_891 dL_law_892 ?_
  refine Lw.ld hC hX hbl hbA hW.2.2 hl (k := 2) (by decide) (hin 2 (by decide) (by decide)) rfl dL_law_893 dL_law_894 dL_law_895 dL_law_896 dL_law_897 ?_
  refine Lw.ld hC hX hbl hbA hW.2.2 hl (k := 3) (by decide) (hin 3 (by decide) (by decide)) rfl dL_law_898 dL_law_899 dL_law_900 dL_law_901 dL_law_902 ?_
  refine Wi.callM (n := 3) (As := [.int (xs (i + 1).toNatClampNeg), .int (xs (i + 2).toNatClampNeg), .int (xs (i + 3).toNatClampNeg)]) (rest := []) (rv := some (.int r)) hC hW 0 (kX7_cutAt f7) (by decide) rfl rfl ql600 ql601 ql602 ql1 ql603 ⟨rfl, rfl⟩ ⟨by decide +kernel, by decide +kernel, by decide +kernel⟩ ⟨Nat.le_trans (Nat.le_of_ble_eq_true rfl) hR.1, Nat.le_trans (Nat.le_of_ble_eq_true rfl) hR.2⟩ hcs rfl hl.1 rfl (st2 := [.int r]) rfl (Nat.le_of_ble_eq_true rfl) dL_law_903 (fun H locs hW => ?_)
  have hW := hW.swap
  refine lv_aload_n hx hb dL_law_906 rfl (lv_at hl 1 rfl) ?_
  refine Lw.ld hC hX hbl hbA hW.2.2 hl (k := 1) (by decide) (hin 1 (by decide) (by decide)) rfl dL_law_907 dL_law_908 dL_law_909 dL_law_910 dL_law_911 ?_
  refine Lw.ld hC hX hbl hbA hW.2.2 hl (k := 2) (by decide) (hin 2 (by decide) (by decide)) rfl dL_law_912 dL_law_913 dL_law_914 dL_law_915 dL_law_916 ?_
  refine Lw.ld hC hX hbl hbA hW.2.2 hl (k := 3) (by decide) (hin 3 (by decide) (by decide)) rfl dL_law_917 dL_law_918 dL_law_919 dL_law_920 dL_law_921 ?_
  refine Wi.callM (n := 3) (As := [.int (xs (i + 1).toNatClampNeg), .int (xs (i + 2).toNatClampNeg), .int (xs (i + 3).toNatClampNeg)]) (rest := [.int r]) (rv := some (.int r)) hC hW 0 (kX8_cutAt f8) (by decide) rfl rfl ql947 ql948 ql949 ql8 ql950 ⟨rfl, rfl⟩ ⟨by decide +kernel, by decide +kernel, by decide +kernel⟩ ⟨Nat.le_trans (Nat.le_of_ble_eq_true rfl) hR.1, Nat.le_trans (Nat.le_of_ble_eq_true rfl) hR.2⟩ hcs rfl hl.1 rfl (st2 := [.int r, .int r]) rfl (Nat.le_of_ble_eq_true rfl) dL_law_922 (fun H locs hW => ?_)
  have hW := hW.swap
  exact lv_icmp_eq (tgt := 1029) hx hb dL_law_925 (by decide) (fun _ => kk σ1 τ1 H locs hr hW) (fun h1 => absurd rfl h1)
set_option maxHeartbeats 2000000 in
set_option maxRecDepth 100000 in
theorem lc_24 (hC : Cx R_law cL_law 4 rt D cA p s m args meth c) (hX : va_X b L xs s s.heap) (hbl : b < s.heap.size) (hbA : ¬ A b) (hW : Wi D A s (wl kdX 140 a7 cA σ ++ wl kdM 31 a8 cA τ) H locs) (hl : lv_has ls 4 [(3, .int i), (2, .ref (a8 0)), (1, .ref (a7 0)), (0, .ref b)]) (hin : ∀ k : Int32, 0 ≤ k → k ≤ 5 → vp_in (i + k) L) (h : Rel σ τ) (hR : 2048 ≤ R.frames ∧ 84000 ≤ R.locals) (hcs : cells ≤ R.cells ∧ slots ≤ R.slots)
    (kk : ∀ (σ τ : St) (H : Heap) (locs : List Loc), Rel σ τ → Wi D A s (wl kdX 140 a7 cA σ ++ wl kdM 31 a8 cA τ) H locs → W p l e R s m args below meth c H locs cells slots Q (F0 m 1029 ls [])) : W p l e R s m args below meth c H locs cells slots Q (F0 m 930 ls []) := by
  have hx := hC.1
  have hb := hC.2.1
  obtain ⟨r, σ1, τ1, f7, f8, hr⟩ := J_label (N := 5000) h (xs (i + 1).toNatClampNeg) (xs (i + 2).toNatClampNeg)
  refine lv_aload_n hx hb dL_law_930 rfl (lv_at hl 2 rfl) ?_
  refine Lw.ld hC hX hbl hbA hW.2.2 hl (k := 1) (by decide) (hin 1 (by decide) (by decide)) rfl dL_law_931 dL_law_932 dL_law_933 dL_law_934 dL_law_935 ?_
  refine Lw.ld hC hX hbl hbA hW.2.2 hl (k := 2) (by decide) (hin 2 (by decide) (by decide)) rfl dL_law_936 dL_law_937 dL_law_938 dL_law_939 dL_law_940 ?_
  refine Wi.callM (n := 2) (As := [.int (xs (i + 1).toNatClampNeg), .int (xs (i + 2).toNatClampNeg)]) (rest := []) (rv := some (.int r)) hC hW 0 (kX7_label f7) (by decide) rfl rfl ql609 ql610 ql611 ql1 ql612 ⟨rfl, rfl⟩ ⟨by decide +kernel, by decide +kernel, by decide +kernel⟩ ⟨Nat.le_trans (Nat.le_of_ble_eq_true rfl) hR.1, Nat.le_trans (Nat.le_of_ble_eq_true rfl) hR.2⟩ hcs rfl hl.1 rfl (st2 := [.int r]) rfl (Nat.le_of_ble_eq_true rfl) dL_law_941 (fun H locs hW => ?_)
  have hW := hW.swap
  refine lv_aload_n hx hb dL_law_944 rfl (lv_at hl 1 rfl) ?_
  refine Lw.ld hC hX hbl hbA hW.2.2 hl (k := 1) (by decide) (hin 1 (by decide) (by decide)) rfl dL_law_945 dL_law_946 dL_law_947 dL_law_948 dL_law_949 ?_
  refine Lw.ld hC hX hbl hbA hW.2.2 hl (k := 2) (by decide) (hin 2 (by decide) (by decide)) rfl dL_law_950 dL_law_951 dL_law_952 dL_law_953 dL_law_954 ?_
  refine Wi.callM (n := 2) (As := [.int (xs (i + 1).toNatClampNeg), .int (xs (i + 2).toNatClampNeg)]) (rest := [.int r]) (rv := some (.int r)) hC hW 0 (kX8_label f8) (by decide) rfl rfl ql952 ql953 ql954 ql8 ql955 ⟨rfl, rfl⟩ ⟨by decide +kernel, by decide +kernel, by decide +kernel⟩ ⟨Nat.le_trans (Nat.le_of_ble_eq_true rfl) hR.1, Nat.le_trans (Nat.le_of_ble_eq_true rfl) hR.2⟩ hcs rfl hl.1 rfl (st2 := [.int r, .int r]) rfl (Nat.le_of_ble_eq_true rfl) dL_law_955 (fun H locs hW => ?_)
  have hW := hW.swap
  exact lv_icmp_eq (tgt := 1029) hx hb dL_law_958 (by decide) (fun _ => kk σ1 τ1 H locs hr hW) (fun h1 => absurd rfl h1)
set_option maxHeartbeats 2000000 in
set_option maxRecDepth 100000 in
theorem lc_25 (hC : Cx R_law cL_law 4 rt D cA p s m args meth c) (hX : va_X b L xs s s.heap) (hbl : b < s.heap.size) (hbA : ¬ A b) (hW : Wi D A s (wl kdX 140 a7 cA σ ++ wl kdM 31 a8 cA τ) H locs) (hl : lv_has ls 4 [(3, .int i), (2, .ref (a8 0)), (1, .ref (a7 0)), (0, .ref b)]) (hin : ∀ k : Int32, 0 ≤ k → k ≤ 5 → vp_in (i + k) L) (h : Rel σ τ) (hR : 2048 ≤ R.frames ∧ 84000 ≤ R.locals) (hcs : cells ≤ R.cells ∧ slots ≤ R.slots)
    (kk : ∀ (σ τ : St) (H : Heap) (locs : List Loc), Rel σ τ → Wi D A s (wl kdX 140 a7 cA σ ++ wl kdM 31 a8 cA τ) H locs → W p l e R s m args below meth c H locs cells slots Q (F0 m 1029 ls [])) : W p l e R s m args below meth c H locs cells slots Q (F0 m 963 ls []) := by
  have hx := hC.1
  have hb := hC.2.1
  obtain ⟨r, σ1, τ1, f7, f8, hr⟩ := J_agree (N := 5000) h (by decide) (xs (i + 1).toNatClampNeg) (xs (i + 2).toNatClampNeg)
  refine lv_aload_n hx hb dL_law_963 rfl (lv_at hl 2 rfl) ?_
  refine Lw.ld hC hX hbl hbA hW.2.2 hl (k := 1) (by decide) (hin 1 (by decide) (by decide)) rfl dL_law_964 dL_law_965 dL_law_966 dL_law_967 dL_law_968 ?_
  refine Lw.ld hC hX hbl hbA hW.2.2 hl (k := 2) (by decide) (hin 2 (by decide) (by decide)) rfl dL_law_969 dL_law_970 dL_law_971 dL_law_972 dL_law_973 ?_
  refine Wi.callM (n := 2) (As := [.int (xs (i + 1).toNatClampNeg), .int (xs (i + 2).toNatClampNeg)]) (rest := []) (rv := some (.int r)) hC hW 0 (kX7_agree f7) (by decide) rfl rfl ql613 ql614 ql615 ql1 ql616 ⟨rfl, rfl⟩ ⟨by decide +kernel, by decide +kernel, by decide +kernel⟩ ⟨Nat.le_trans (Nat.le_of_ble_eq_true rfl) hR.1, Nat.le_trans (Nat.le_of_ble_eq_true rfl) hR.2⟩ hcs rfl hl.1 rfl (st2 := [.int r]) rfl (Nat.le_of_ble_eq_true rfl) dL_law_974 (fun H locs hW => ?_)
  have hW := hW.swap
  refine lv_aload_n hx hb dL_law_977 rfl (lv_at hl 1 rfl) ?_
  refine Lw.ld hC hX hbl hbA hW.2.2 hl (k := 1) (by decide) (hin 1 (by decide) (by decide)) rfl dL_law_978 dL_law_979 dL_law_980 dL_law_981 dL_law_982 ?_
  refine Lw.ld hC hX hbl hbA hW.2.2 hl (k := 2) (by decide) (hin 2 (by decide) (by decide)) rfl dL_law_983 dL_law_984 dL_law_985 dL_law_986 dL_law_987 ?_
  refine Wi.callM (n := 2) (As := [.int (xs (i + 1).toNatClampNeg), .int (xs (i + 2).toNatClampNeg)]) (rest := [.int r]) (rv := some (.int r)) hC hW 0 (kX8_agree f8) (by decide) rfl rfl ql956 ql957 ql958 ql8 ql959 ⟨rfl, rfl⟩ ⟨by decide +kernel, by decide +kernel, by decide +kernel⟩ ⟨Nat.le_trans (Nat.le_of_ble_eq_true rfl) hR.1, Nat.le_trans (Nat.le_of_ble_eq_true rfl) hR.2⟩ hcs rfl hl.1 rfl (st2 := [.int r, .int r]) rfl (Nat.le_of_ble_eq_true rfl) dL_law_988 (fun H locs hW => ?_)
  have hW := hW.swap
  exact lv_icmp_eq (tgt := 1029) hx hb dL_law_991 (by decide) (fun _ => kk σ1 τ1 H locs hr hW) (fun h1 => absurd rfl h1)
set_option maxHeartbeats 2000000 in
set_option maxRecDepth 100000 in
theorem lc_26 (hC : Cx R_law cL_law 4 rt D cA p s m args meth c) (hX : va_X b L xs s s.heap) (hbl : b < s.heap.size) (hbA : ¬ A b) (hW : Wi D A s (wl kdX 140 a7 cA σ ++ wl kdM 31 a8 cA τ) H locs) (hl : lv_has ls 4 [(3, .int i), (2, .ref (a8 0)), (1, .ref (a7 0)), (0, .ref b)]) (hin : ∀ k : Int32, 0 ≤ k → k ≤ 5 → vp_in (i + k) L) (h : Rel σ τ) (hR : 2048 ≤ R.frames ∧ 84000 ≤ R.locals) (hcs : cells ≤ R.cells ∧ slots ≤ R.slots)
    (kk : ∀ (σ τ : St) (H : Heap) (locs : List Loc), Rel σ τ → Wi D A s (wl kdX 140 a7 cA σ ++ wl kdM 31 a8 cA τ) H locs → W p l e R s m args below meth c H locs cells slots Q (F0 m 1029 ls [])) : W p l e R s m args below meth c H locs cells slots Q (F0 m 996 ls []) := by
  have hx := hC.1
  have hb := hC.2.1
  obtain ⟨r, σ1, τ1, f7, f8, hr⟩ := J_middle (N := 5000) h (by decide) (xs (i + 1).toNatClampNeg) (xs (i + 2).toNatClampNeg)
  refine lv_aload_n hx hb dL_law_996 rfl (lv_at hl 2 rfl) ?_
  refine Lw.ld hC hX hbl hbA hW.2.2 hl (k := 1) (by decide) (hin 1 (by decide) (by decide)) rfl dL_law_997 dL_law_998 dL_law_999 dL_law_1000 dL_law_1001 ?_
  refine Lw.ld hC hX hbl hbA hW.2.2 hl (k := 2) (by decide) (hin 2 (by decide) (by decide)) rfl dL_law_1002 dL_law_1003 dL_law_1004 dL_law_1005 dL_law_1006 ?_
  refine Wi.callM (n := 2) (As := [.int (xs (i + 1).toNatClampNeg), .int (xs (i + 2).toNatClampNeg)]) (rest := []) (rv := some (.int r)) hC hW 0 (kX7_middle f7) (by decide) rfl rfl ql621 ql622 ql623 ql1 ql624 ⟨rfl, rfl⟩ ⟨by decide +kernel, by decide +kernel, by decide +kernel⟩ ⟨Nat.le_trans (Nat.le_of_ble_eq_true rfl) hR.1, Nat.le_trans (Nat.le_of_ble_eq_true rfl) hR.2⟩ hcs rfl hl.1 rfl (st2 := [.int r]) rfl (Nat.le_of_ble_eq_true rfl) dL_law_1007 (fun H locs hW => ?_)
  have hW := hW.swap
  refine lv_aload_n hx hb dL_law_1010 rfl (lv_at hl 1 rfl) ?_
  refine Lw.ld hC hX hbl hbA hW.2.2 hl (k := 1) (by decide) (hin 1 (by decide) (by decide)) rfl dL_law_1011 dL_law_1012 dL_law_1013 dL_law_1014 dL_law_1015 ?_
  refine Lw.ld hC hX hbl hbA hW.2.2 hl (k := 2) (by decide) (hin 2 (by decide) (by decide)) rfl dL_law_1016 dL_law_1017 dL_law_1018 dL_law_1019 dL_law_1020 ?_
  refine Wi.callM (n := 2) (As := [.int (xs (i + 1).toNatClampNeg), .int (xs (i + 2).toNatClampNeg)]) (rest := [.int r]) (rv := some (.int r)) hC hW 0 (kX8_middle f8) (by decide) rfl rfl ql960 ql961 ql962 ql8 ql963 ⟨rfl, rfl⟩ ⟨by decide +kernel, by decide +kernel, by decide +kernel⟩ ⟨Nat.le_trans (Nat.le_of_ble_eq_true rfl) hR.1, Nat.le_trans (Nat.le_of_ble_eq_true rfl) hR.2⟩ hcs rfl hl.1 rfl (st2 := [.int r, .int r]) rfl (Nat.le_of_ble_eq_true rfl) dL_law_1021 (fun H locs hW => ?_)
  have hW := hW.swap
  exact lv_icmp_eq (tgt := 1029) hx hb dL_law_1024 (by decide) (fun _ => kk σ1 τ1 H locs hr hW) (fun h1 => absurd rfl h1)
end LAW
