theorem q_33 : Cond.methodLink RX11 1 objectInit ∈ nm_big := nm_in (List.mem_append_right _ (List.mem_of_getElem? (i := 33) (by decide +kernel))) (by decide +kernel)
theorem q_34 : Cond.instanceMethod objectInit ∈ nm_big := nm_in (List.mem_append_right _ (List.mem_of_getElem? (i := 34) (by decide +kernel))) (by decide +kernel)
theorem q_35 : Cond.code objectInit ⟨#[0xb1]⟩ 1 none ∈ nm_big := nm_in (List.mem_append_right _ (List.mem_of_getElem? (i := 35) (by decide +kernel))) (by decide +kernel)
theorem q_36 : Cond.classLink RX11 7 RX0 ∈ nm_big := nm_in (List.mem_append_right _ (List.mem_of_getElem? (i := 36) (by decide +kernel))) (by decide +kernel)
theorem q_37 : Cond.instantiable RX0 2 ∈ nm_big := nm_in (List.mem_append_right _ (List.mem_of_getElem? (i := 37) (by decide +kernel))) (by decide +kernel)
theorem q_2 : Cond.initialized RX0 ∈ nm_big := nm_in (List.mem_append_right _ (List.mem_of_getElem? (i := 2) (by decide +kernel))) (by decide +kernel)
theorem q_41 : Cond.methodLink RX0 3 objectInit ∈ nm_big := nm_in (List.mem_append_right _ (List.mem_of_getElem? (i := 41) (by decide +kernel))) (by decide +kernel)
theorem q_52 : Cond.arrayClass .byte ∈ nm_big := nm_in (List.mem_append_right _ (List.mem_of_getElem? (i := 52) (by decide +kernel))) (by decide +kernel)
theorem q_42 : Cond.fieldLink RX0 9 "NameMangler$Bytes" "row" "[B" ∈ nm_big := nm_in (List.mem_append_right _ (List.mem_of_getElem? (i := 42) (by decide +kernel))) (by decide +kernel)
theorem q_43 : Cond.fieldLink RX0 15 "NameMangler$Bytes" "size" "I" ∈ nm_big := nm_in (List.mem_append_right _ (List.mem_of_getElem? (i := 43) (by decide +kernel))) (by decide +kernel)
theorem q_381 : Cond.fieldLink RX11 10 "NameMangler" "tape" "LNameMangler$Bytes;" ∈ nm_big := nm_in (List.mem_append_right _ (List.mem_of_getElem? (i := 381) (by decide +kernel))) (by decide +kernel)
theorem q_53 : Cond.classLink RX11 16 RX5 ∈ nm_big := nm_in (List.mem_append_right _ (List.mem_of_getElem? (i := 53) (by decide +kernel))) (by decide +kernel)
theorem q_382 : Cond.fieldLink RX11 18 "NameMangler" "ring" "[LNameMangler$State;" ∈ nm_big := nm_in (List.mem_append_right _ (List.mem_of_getElem? (i := 382) (by decide +kernel))) (by decide +kernel)
theorem q_383 : Cond.fieldLink RX11 22 "NameMangler" "present" "I" ∈ nm_big := nm_in (List.mem_append_right _ (List.mem_of_getElem? (i := 383) (by decide +kernel))) (by decide +kernel)
theorem q_384 : Cond.fieldLink RX11 26 "NameMangler" "steps" "I" ∈ nm_big := nm_in (List.mem_append_right _ (List.mem_of_getElem? (i := 384) (by decide +kernel))) (by decide +kernel)
theorem q_385 : Cond.fieldLink RX11 29 "NameMangler" "place" "I" ∈ nm_big := nm_in (List.mem_append_right _ (List.mem_of_getElem? (i := 385) (by decide +kernel))) (by decide +kernel)
theorem q_83 : Cond.arrayClass .int ∈ nm_big := nm_in (List.mem_append_right _ (List.mem_of_getElem? (i := 83) (by decide +kernel))) (by decide +kernel)
theorem q_386 : Cond.fieldLink RX11 32 "NameMangler" "refused" "[I" ∈ nm_big := nm_in (List.mem_append_right _ (List.mem_of_getElem? (i := 386) (by decide +kernel))) (by decide +kernel)
theorem q_55 : Cond.classLink RX11 36 RX6 ∈ nm_big := nm_in (List.mem_append_right _ (List.mem_of_getElem? (i := 55) (by decide +kernel))) (by decide +kernel)
theorem q_56 : Cond.instantiable RX6 18 ∈ nm_big := nm_in (List.mem_append_right _ (List.mem_of_getElem? (i := 56) (by decide +kernel))) (by decide +kernel)
theorem q_3 : Cond.initialized RX6 ∈ nm_big := nm_in (List.mem_append_right _ (List.mem_of_getElem? (i := 3) (by decide +kernel))) (by decide +kernel)
theorem q_60 : Cond.methodLink RX6 3 objectInit ∈ nm_big := nm_in (List.mem_append_right _ (List.mem_of_getElem? (i := 60) (by decide +kernel))) (by decide +kernel)
theorem q_61 : Cond.classLink RX6 9 RX1 ∈ nm_big := nm_in (List.mem_append_right _ (List.mem_of_getElem? (i := 61) (by decide +kernel))) (by decide +kernel)
theorem q_62 : Cond.instantiable RX1 2 ∈ nm_big := nm_in (List.mem_append_right _ (List.mem_of_getElem? (i := 62) (by decide +kernel))) (by decide +kernel)
theorem q_4 : Cond.initialized RX1 ∈ nm_big := nm_in (List.mem_append_right _ (List.mem_of_getElem? (i := 4) (by decide +kernel))) (by decide +kernel)
theorem q_66 : Cond.methodLink RX1 3 objectInit ∈ nm_big := nm_in (List.mem_append_right _ (List.mem_of_getElem? (i := 66) (by decide +kernel))) (by decide +kernel)
theorem q_67 : Cond.fieldLink RX1 9 "NameMangler$Ints" "row" "[I" ∈ nm_big := nm_in (List.mem_append_right _ (List.mem_of_getElem? (i := 67) (by decide +kernel))) (by decide +kernel)
theorem q_68 : Cond.fieldLink RX1 15 "NameMangler$Ints" "size" "I" ∈ nm_big := nm_in (List.mem_append_right _ (List.mem_of_getElem? (i := 68) (by decide +kernel))) (by decide +kernel)
theorem q_86 : Cond.fieldLink RX6 12 "NameMangler$Store" "kind" "LNameMangler$Ints;" ∈ nm_big := nm_in (List.mem_append_right _ (List.mem_of_getElem? (i := 86) (by decide +kernel))) (by decide +kernel)
theorem q_91 : Cond.fieldLink RX6 18 "NameMangler$Store" "inner" "LNameMangler$Ints;" ∈ nm_big := nm_in (List.mem_append_right _ (List.mem_of_getElem? (i := 91) (by decide +kernel))) (by decide +kernel)
theorem q_94 : Cond.fieldLink RX6 21 "NameMangler$Store" "value" "LNameMangler$Ints;" ∈ nm_big := nm_in (List.mem_append_right _ (List.mem_of_getElem? (i := 94) (by decide +kernel))) (by decide +kernel)
theorem q_97 : Cond.fieldLink RX6 24 "NameMangler$Store" "from" "LNameMangler$Ints;" ∈ nm_big := nm_in (List.mem_append_right _ (List.mem_of_getElem? (i := 97) (by decide +kernel))) (by decide +kernel)
theorem q_98 : Cond.fieldLink RX6 27 "NameMangler$Store" "count" "LNameMangler$Ints;" ∈ nm_big := nm_in (List.mem_append_right _ (List.mem_of_getElem? (i := 98) (by decide +kernel))) (by decide +kernel)
theorem q_101 : Cond.fieldLink RX6 30 "NameMangler$Store" "parts" "LNameMangler$Ints;" ∈ nm_big := nm_in (List.mem_append_right _ (List.mem_of_getElem? (i := 101) (by decide +kernel))) (by decide +kernel)
theorem q_102 : Cond.fieldLink RX6 33 "NameMangler$Store" "next" "LNameMangler$Ints;" ∈ nm_big := nm_in (List.mem_append_right _ (List.mem_of_getElem? (i := 102) (by decide +kernel))) (by decide +kernel)
theorem q_103 : Cond.fieldLink RX6 36 "NameMangler$Store" "heads" "[I" ∈ nm_big := nm_in (List.mem_append_right _ (List.mem_of_getElem? (i := 103) (by decide +kernel))) (by decide +kernel)
theorem q_104 : Cond.fieldLink RX6 40 "NameMangler$Store" "text" "LNameMangler$Ints;" ∈ nm_big := nm_in (List.mem_append_right _ (List.mem_of_getElem? (i := 104) (by decide +kernel))) (by decide +kernel)
theorem q_107 : Cond.fieldLink RX6 43 "NameMangler$Store" "full" "LNameMangler$Ints;" ∈ nm_big := nm_in (List.mem_append_right _ (List.mem_of_getElem? (i := 107) (by decide +kernel))) (by decide +kernel)
theorem q_109 : Cond.fieldLink RX6 46 "NameMangler$Store" "height" "LNameMangler$Ints;" ∈ nm_big := nm_in (List.mem_append_right _ (List.mem_of_getElem? (i := 109) (by decide +kernel))) (by decide +kernel)
theorem q_112 : Cond.fieldLink RX6 49 "NameMangler$Store" "names" "LNameMangler$Ints;" ∈ nm_big := nm_in (List.mem_append_right _ (List.mem_of_getElem? (i := 112) (by decide +kernel))) (by decide +kernel)
theorem q_116 : Cond.fieldLink RX6 52 "NameMangler$Store" "basics" "LNameMangler$Ints;" ∈ nm_big := nm_in (List.mem_append_right _ (List.mem_of_getElem? (i := 116) (by decide +kernel))) (by decide +kernel)
theorem q_118 : Cond.fieldLink RX6 55 "NameMangler$Store" "tally" "LNameMangler$Ints;" ∈ nm_big := nm_in (List.mem_append_right _ (List.mem_of_getElem? (i := 118) (by decide +kernel))) (by decide +kernel)
theorem q_120 : Cond.fieldLink RX6 58 "NameMangler$Store" "open" "LNameMangler$Ints;" ∈ nm_big := nm_in (List.mem_append_right _ (List.mem_of_getElem? (i := 120) (by decide +kernel))) (by decide +kernel)
theorem q_124 : Cond.fieldLink RX6 61 "NameMangler$Store" "wordFrom" "LNameMangler$Ints;" ∈ nm_big := nm_in (List.mem_append_right _ (List.mem_of_getElem? (i := 124) (by decide +kernel))) (by decide +kernel)
theorem q_127 : Cond.fieldLink RX6 64 "NameMangler$Store" "wordLength" "LNameMangler$Ints;" ∈ nm_big := nm_in (List.mem_append_right _ (List.mem_of_getElem? (i := 127) (by decide +kernel))) (by decide +kernel)
theorem q_84 : Cond.classLink RX6 67 RX0 ∈ nm_big := nm_in (List.mem_append_right _ (List.mem_of_getElem? (i := 84) (by decide +kernel))) (by decide +kernel)
theorem q_130 : Cond.fieldLink RX6 70 "NameMangler$Store" "letters" "LNameMangler$Bytes;" ∈ nm_big := nm_in (List.mem_append_right _ (List.mem_of_getElem? (i := 130) (by decide +kernel))) (by decide +kernel)
theorem q_387 : Cond.fieldLink RX11 39 "NameMangler" "store" "LNameMangler$Store;" ∈ nm_big := nm_in (List.mem_append_right _ (List.mem_of_getElem? (i := 387) (by decide +kernel))) (by decide +kernel)
theorem q_170 : Cond.classLink RX11 43 RX7 ∈ nm_big := nm_in (List.mem_append_right _ (List.mem_of_getElem? (i := 170) (by decide +kernel))) (by decide +kernel)
theorem q_171 : Cond.instantiable RX7 5 ∈ nm_big := nm_in (List.mem_append_right _ (List.mem_of_getElem? (i := 171) (by decide +kernel))) (by decide +kernel)
theorem q_5 : Cond.initialized RX7 ∈ nm_big := nm_in (List.mem_append_right _ (List.mem_of_getElem? (i := 5) (by decide +kernel))) (by decide +kernel)
theorem q_175 : Cond.methodLink RX7 3 objectInit ∈ nm_big := nm_in (List.mem_append_right _ (List.mem_of_getElem? (i := 175) (by decide +kernel))) (by decide +kernel)
theorem q_176 : Cond.classLink RX7 9 RX8 ∈ nm_big := nm_in (List.mem_append_right _ (List.mem_of_getElem? (i := 176) (by decide +kernel))) (by decide +kernel)
theorem q_177 : Cond.instantiable RX8 6 ∈ nm_big := nm_in (List.mem_append_right _ (List.mem_of_getElem? (i := 177) (by decide +kernel))) (by decide +kernel)
theorem q_6 : Cond.initialized RX8 ∈ nm_big := nm_in (List.mem_append_right _ (List.mem_of_getElem? (i := 6) (by decide +kernel))) (by decide +kernel)
theorem q_181 : Cond.methodLink RX8 3 objectInit ∈ nm_big := nm_in (List.mem_append_right _ (List.mem_of_getElem? (i := 181) (by decide +kernel))) (by decide +kernel)
theorem q_182 : Cond.classLink RX8 9 RX1 ∈ nm_big := nm_in (List.mem_append_right _ (List.mem_of_getElem? (i := 182) (by decide +kernel))) (by decide +kernel)
theorem q_184 : Cond.fieldLink RX8 12 "NameMangler$Table" "held" "LNameMangler$Ints;" ∈ nm_big := nm_in (List.mem_append_right _ (List.mem_of_getElem? (i := 184) (by decide +kernel))) (by decide +kernel)
theorem q_187 : Cond.fieldLink RX8 18 "NameMangler$Table" "start" "LNameMangler$Ints;" ∈ nm_big := nm_in (List.mem_append_right _ (List.mem_of_getElem? (i := 187) (by decide +kernel))) (by decide +kernel)
theorem q_189 : Cond.fieldLink RX8 21 "NameMangler$Table" "uses" "LNameMangler$Ints;" ∈ nm_big := nm_in (List.mem_append_right _ (List.mem_of_getElem? (i := 189) (by decide +kernel))) (by decide +kernel)
theorem q_191 : Cond.fieldLink RX8 24 "NameMangler$Table" "numberOf" "LNameMangler$Ints;" ∈ nm_big := nm_in (List.mem_append_right _ (List.mem_of_getElem? (i := 191) (by decide +kernel))) (by decide +kernel)
theorem q_192 : Cond.fieldLink RX8 27 "NameMangler$Table" "referredAt" "LNameMangler$Ints;" ∈ nm_big := nm_in (List.mem_append_right _ (List.mem_of_getElem? (i := 192) (by decide +kernel))) (by decide +kernel)
theorem q_194 : Cond.fieldLink RX8 30 "NameMangler$Table" "referredTo" "LNameMangler$Ints;" ∈ nm_big := nm_in (List.mem_append_right _ (List.mem_of_getElem? (i := 194) (by decide +kernel))) (by decide +kernel)
theorem q_211 : Cond.fieldLink RX7 12 "NameMangler$Symbol" "table" "LNameMangler$Table;" ∈ nm_big := nm_in (List.mem_append_right _ (List.mem_of_getElem? (i := 211) (by decide +kernel))) (by decide +kernel)
theorem q_208 : Cond.classLink RX7 18 RX1 ∈ nm_big := nm_in (List.mem_append_right _ (List.mem_of_getElem? (i := 208) (by decide +kernel))) (by decide +kernel)
theorem q_214 : Cond.fieldLink RX7 21 "NameMangler$Symbol" "members" "LNameMangler$Ints;" ∈ nm_big := nm_in (List.mem_append_right _ (List.mem_of_getElem? (i := 214) (by decide +kernel))) (by decide +kernel)
theorem q_219 : Cond.fieldLink RX7 25 "NameMangler$Symbol" "path" "I" ∈ nm_big := nm_in (List.mem_append_right _ (List.mem_of_getElem? (i := 219) (by decide +kernel))) (by decide +kernel)
theorem q_224 : Cond.fieldLink RX7 29 "NameMangler$Symbol" "listed" "Z" ∈ nm_big := nm_in (List.mem_append_right _ (List.mem_of_getElem? (i := 224) (by decide +kernel))) (by decide +kernel)
theorem q_210 : Cond.fieldLink RX7 33 "NameMangler$Symbol" "store" "LNameMangler$Store;" ∈ nm_big := nm_in (List.mem_append_right _ (List.mem_of_getElem? (i := 210) (by decide +kernel))) (by decide +kernel)
theorem q_388 : Cond.fieldLink RX11 48 "NameMangler" "first" "LNameMangler$Symbol;" ∈ nm_big := nm_in (List.mem_append_right _ (List.mem_of_getElem? (i := 388) (by decide +kernel))) (by decide +kernel)
theorem q_389 : Cond.fieldLink RX11 52 "NameMangler" "second" "LNameMangler$Symbol;" ∈ nm_big := nm_in (List.mem_append_right _ (List.mem_of_getElem? (i := 389) (by decide +kernel))) (by decide +kernel)
theorem q_241 : Cond.classLink RX11 55 RX2 ∈ nm_big := nm_in (List.mem_append_right _ (List.mem_of_getElem? (i := 241) (by decide +kernel))) (by decide +kernel)
theorem q_242 : Cond.instantiable RX2 8 ∈ nm_big := nm_in (List.mem_append_right _ (List.mem_of_getElem? (i := 242) (by decide +kernel))) (by decide +kernel)
theorem q_8 : Cond.initialized RX2 ∈ nm_big := nm_in (List.mem_append_right _ (List.mem_of_getElem? (i := 8) (by decide +kernel))) (by decide +kernel)
theorem q_249 : Cond.methodLink RX4 3 objectInit ∈ nm_big := nm_in (List.mem_append_right _ (List.mem_of_getElem? (i := 249) (by decide +kernel))) (by decide +kernel)
theorem q_250 : Cond.classLink RX4 9 RX0 ∈ nm_big := nm_in (List.mem_append_right _ (List.mem_of_getElem? (i := 250) (by decide +kernel))) (by decide +kernel)
theorem q_261 : Cond.fieldLink RX4 12 "NameMangler$Reader" "source" "LNameMangler$Bytes;" ∈ nm_big := nm_in (List.mem_append_right _ (List.mem_of_getElem? (i := 261) (by decide +kernel))) (by decide +kernel)
theorem q_266 : Cond.fieldLink RX4 18 "NameMangler$Reader" "length" "I" ∈ nm_big := nm_in (List.mem_append_right _ (List.mem_of_getElem? (i := 266) (by decide +kernel))) (by decide +kernel)
theorem q_271 : Cond.fieldLink RX4 22 "NameMangler$Reader" "at" "I" ∈ nm_big := nm_in (List.mem_append_right _ (List.mem_of_getElem? (i := 271) (by decide +kernel))) (by decide +kernel)
theorem q_276 : Cond.fieldLink RX4 25 "NameMangler$Reader" "kind" "I" ∈ nm_big := nm_in (List.mem_append_right _ (List.mem_of_getElem? (i := 276) (by decide +kernel))) (by decide +kernel)
theorem q_280 : Cond.fieldLink RX4 28 "NameMangler$Reader" "place" "I" ∈ nm_big := nm_in (List.mem_append_right _ (List.mem_of_getElem? (i := 280) (by decide +kernel))) (by decide +kernel)
theorem q_256 : Cond.fieldLink RX4 31 "NameMangler$Reader" "store" "LNameMangler$Store;" ∈ nm_big := nm_in (List.mem_append_right _ (List.mem_of_getElem? (i := 256) (by decide +kernel))) (by decide +kernel)
theorem q_252 : Cond.classLink RX2 9 RX8 ∈ nm_big := nm_in (List.mem_append_right _ (List.mem_of_getElem? (i := 252) (by decide +kernel))) (by decide +kernel)
theorem q_254 : Cond.fieldLink RX2 14 "NameMangler$NameReader" "table" "LNameMangler$Table;" ∈ nm_big := nm_in (List.mem_append_right _ (List.mem_of_getElem? (i := 254) (by decide +kernel))) (by decide +kernel)
theorem q_255 : Cond.fieldLink RX2 20 "NameMangler$NameReader" "lenient" "Z" ∈ nm_big := nm_in (List.mem_append_right _ (List.mem_of_getElem? (i := 255) (by decide +kernel))) (by decide +kernel)
theorem q_390 : Cond.fieldLink RX11 58 "NameMangler" "names" "LNameMangler$NameReader;" ∈ nm_big := nm_in (List.mem_append_right _ (List.mem_of_getElem? (i := 390) (by decide +kernel))) (by decide +kernel)
theorem q_299 : Cond.classLink RX11 62 RX9 ∈ nm_big := nm_in (List.mem_append_right _ (List.mem_of_getElem? (i := 299) (by decide +kernel))) (by decide +kernel)
theorem q_300 : Cond.instantiable RX9 6 ∈ nm_big := nm_in (List.mem_append_right _ (List.mem_of_getElem? (i := 300) (by decide +kernel))) (by decide +kernel)
theorem q_9 : Cond.initialized RX9 ∈ nm_big := nm_in (List.mem_append_right _ (List.mem_of_getElem? (i := 9) (by decide +kernel))) (by decide +kernel)
theorem q_391 : Cond.fieldLink RX11 65 "NameMangler" "texts" "LNameMangler$TextReader;" ∈ nm_big := nm_in (List.mem_append_right _ (List.mem_of_getElem? (i := 391) (by decide +kernel))) (by decide +kernel)
theorem q_312 : Cond.classLink RX11 69 RX3 ∈ nm_big := nm_in (List.mem_append_right _ (List.mem_of_getElem? (i := 312) (by decide +kernel))) (by decide +kernel)
theorem q_313 : Cond.instantiable RX3 5 ∈ nm_big := nm_in (List.mem_append_right _ (List.mem_of_getElem? (i := 313) (by decide +kernel))) (by decide +kernel)
theorem q_10 : Cond.initialized RX3 ∈ nm_big := nm_in (List.mem_append_right _ (List.mem_of_getElem? (i := 10) (by decide +kernel))) (by decide +kernel)
theorem q_317 : Cond.methodLink RX3 3 objectInit ∈ nm_big := nm_in (List.mem_append_right _ (List.mem_of_getElem? (i := 317) (by decide +kernel))) (by decide +kernel)
theorem q_318 : Cond.classLink RX3 9 RX8 ∈ nm_big := nm_in (List.mem_append_right _ (List.mem_of_getElem? (i := 318) (by decide +kernel))) (by decide +kernel)
theorem q_325 : Cond.fieldLink RX3 12 "NameMangler$NameWriter" "table" "LNameMangler$Table;" ∈ nm_big := nm_in (List.mem_append_right _ (List.mem_of_getElem? (i := 325) (by decide +kernel))) (by decide +kernel)
theorem q_320 : Cond.classLink RX3 18 RX1 ∈ nm_big := nm_in (List.mem_append_right _ (List.mem_of_getElem? (i := 320) (by decide +kernel))) (by decide +kernel)
theorem q_326 : Cond.fieldLink RX3 21 "NameMangler$NameWriter" "chain" "LNameMangler$Ints;" ∈ nm_big := nm_in (List.mem_append_right _ (List.mem_of_getElem? (i := 326) (by decide +kernel))) (by decide +kernel)
theorem q_322 : Cond.classLink RX3 25 RX0 ∈ nm_big := nm_in (List.mem_append_right _ (List.mem_of_getElem? (i := 322) (by decide +kernel))) (by decide +kernel)
theorem q_327 : Cond.fieldLink RX3 28 "NameMangler$NameWriter" "out" "LNameMangler$Bytes;" ∈ nm_big := nm_in (List.mem_append_right _ (List.mem_of_getElem? (i := 327) (by decide +kernel))) (by decide +kernel)
theorem q_328 : Cond.fieldLink RX3 32 "NameMangler$NameWriter" "pathEnd" "I" ∈ nm_big := nm_in (List.mem_append_right _ (List.mem_of_getElem? (i := 328) (by decide +kernel))) (by decide +kernel)
theorem q_324 : Cond.fieldLink RX3 36 "NameMangler$NameWriter" "store" "LNameMangler$Store;" ∈ nm_big := nm_in (List.mem_append_right _ (List.mem_of_getElem? (i := 324) (by decide +kernel))) (by decide +kernel)
theorem q_392 : Cond.fieldLink RX11 72 "NameMangler" "speller" "LNameMangler$NameWriter;" ∈ nm_big := nm_in (List.mem_append_right _ (List.mem_of_getElem? (i := 392) (by decide +kernel))) (by decide +kernel)
theorem q_341 : Cond.classLink RX11 76 RX10 ∈ nm_big := nm_in (List.mem_append_right _ (List.mem_of_getElem? (i := 341) (by decide +kernel))) (by decide +kernel)
theorem q_342 : Cond.instantiable RX10 3 ∈ nm_big := nm_in (List.mem_append_right _ (List.mem_of_getElem? (i := 342) (by decide +kernel))) (by decide +kernel)
theorem q_11 : Cond.initialized RX10 ∈ nm_big := nm_in (List.mem_append_right _ (List.mem_of_getElem? (i := 11) (by decide +kernel))) (by decide +kernel)
theorem q_346 : Cond.methodLink RX10 3 objectInit ∈ nm_big := nm_in (List.mem_append_right _ (List.mem_of_getElem? (i := 346) (by decide +kernel))) (by decide +kernel)
theorem q_347 : Cond.classLink RX10 9 RX1 ∈ nm_big := nm_in (List.mem_append_right _ (List.mem_of_getElem? (i := 347) (by decide +kernel))) (by decide +kernel)
theorem q_352 : Cond.fieldLink RX10 12 "NameMangler$TextWriter" "chain" "LNameMangler$Ints;" ∈ nm_big := nm_in (List.mem_append_right _ (List.mem_of_getElem? (i := 352) (by decide +kernel))) (by decide +kernel)
theorem q_349 : Cond.classLink RX10 18 RX0 ∈ nm_big := nm_in (List.mem_append_right _ (List.mem_of_getElem? (i := 349) (by decide +kernel))) (by decide +kernel)
theorem q_353 : Cond.fieldLink RX10 21 "NameMangler$TextWriter" "out" "LNameMangler$Bytes;" ∈ nm_big := nm_in (List.mem_append_right _ (List.mem_of_getElem? (i := 353) (by decide +kernel))) (by decide +kernel)
theorem q_351 : Cond.fieldLink RX10 25 "NameMangler$TextWriter" "store" "LNameMangler$Store;" ∈ nm_big := nm_in (List.mem_append_right _ (List.mem_of_getElem? (i := 351) (by decide +kernel))) (by decide +kernel)
theorem q_393 : Cond.fieldLink RX11 79 "NameMangler" "teller" "LNameMangler$TextWriter;" ∈ nm_big := nm_in (List.mem_append_right _ (List.mem_of_getElem? (i := 393) (by decide +kernel))) (by decide +kernel)
theorem q_394 : Cond.fieldLink RX11 83 "NameMangler" "spelled" "LNameMangler$Bytes;" ∈ nm_big := nm_in (List.mem_append_right _ (List.mem_of_getElem? (i := 394) (by decide +kernel))) (by decide +kernel)
theorem q_395 : Cond.fieldLink RX11 86 "NameMangler" "respelled" "LNameMangler$Bytes;" ∈ nm_big := nm_in (List.mem_append_right _ (List.mem_of_getElem? (i := 395) (by decide +kernel))) (by decide +kernel)
theorem q_396 : Cond.fieldLink RX11 89 "NameMangler" "text" "LNameMangler$Bytes;" ∈ nm_big := nm_in (List.mem_append_right _ (List.mem_of_getElem? (i := 396) (by decide +kernel))) (by decide +kernel)
theorem q_361 : Cond.classLink RX11 92 RX1 ∈ nm_big := nm_in (List.mem_append_right _ (List.mem_of_getElem? (i := 361) (by decide +kernel))) (by decide +kernel)
theorem q_397 : Cond.fieldLink RX11 95 "NameMangler" "renamed" "LNameMangler$Ints;" ∈ nm_big := nm_in (List.mem_append_right _ (List.mem_of_getElem? (i := 397) (by decide +kernel))) (by decide +kernel)
theorem q_398 : Cond.fieldLink RX11 99 "NameMangler" "shown" "I" ∈ nm_big := nm_in (List.mem_append_right _ (List.mem_of_getElem? (i := 398) (by decide +kernel))) (by decide +kernel)
theorem q_363 : Cond.instantiable RX5 3 ∈ nm_big := nm_in (List.mem_append_right _ (List.mem_of_getElem? (i := 363) (by decide +kernel))) (by decide +kernel)
theorem q_12 : Cond.initialized RX5 ∈ nm_big := nm_in (List.mem_append_right _ (List.mem_of_getElem? (i := 12) (by decide +kernel))) (by decide +kernel)
theorem q_367 : Cond.methodLink RX5 3 objectInit ∈ nm_big := nm_in (List.mem_append_right _ (List.mem_of_getElem? (i := 367) (by decide +kernel))) (by decide +kernel)
theorem q_368 : Cond.classLink RX5 9 RX0 ∈ nm_big := nm_in (List.mem_append_right _ (List.mem_of_getElem? (i := 368) (by decide +kernel))) (by decide +kernel)
theorem q_370 : Cond.fieldLink RX5 11 "NameMangler$State" "names" "[LNameMangler$Bytes;" ∈ nm_big := nm_in (List.mem_append_right _ (List.mem_of_getElem? (i := 370) (by decide +kernel))) (by decide +kernel)
theorem q_371 : Cond.fieldLink RX5 17 "NameMangler$State" "pathEnd" "[I" ∈ nm_big := nm_in (List.mem_append_right _ (List.mem_of_getElem? (i := 371) (by decide +kernel))) (by decide +kernel)
theorem q_372 : Cond.fieldLink RX5 21 "NameMangler$State" "count" "I" ∈ nm_big := nm_in (List.mem_append_right _ (List.mem_of_getElem? (i := 372) (by decide +kernel))) (by decide +kernel)
theorem q_40 : Cond.code yX0_init cX0_init 1 none ∈ nm_big := nm_in (List.mem_append_right _ (List.mem_of_getElem? (i := 40) rfl)) (by decide +kernel)
theorem nn_0 {D : va_G} {cI cB cJ cS : ClassId} {s : State} (hM : nm_Amb D cI cB cJ cS s) : va_Nw (.methodLinkNest RX11 9 yX0_init "NameMangler") s := hM.2.1 (RX11, 9, yX0_init, "NameMangler") (List.mem_of_getElem? (i := 0) (by decide +kernel))
theorem q_39 : Cond.instanceMethod yX0_init ∈ nm_big := nm_in (List.mem_append_right _ (List.mem_of_getElem? (i := 39) (by decide +kernel))) (by decide +kernel)
theorem q_65 : Cond.code yX1_init cX1_init 1 none ∈ nm_big := nm_in (List.mem_append_right _ (List.mem_of_getElem? (i := 65) rfl)) (by decide +kernel)
theorem nn_2 {D : va_G} {cI cB cJ cS : ClassId} {s : State} (hM : nm_Amb D cI cB cJ cS s) : va_Nw (.methodLinkNest RX6 11 yX1_init "NameMangler") s := hM.2.1 (RX6, 11, yX1_init, "NameMangler") (List.mem_of_getElem? (i := 2) (by decide +kernel))
theorem q_64 : Cond.instanceMethod yX1_init ∈ nm_big := nm_in (List.mem_append_right _ (List.mem_of_getElem? (i := 64) (by decide +kernel))) (by decide +kernel)
theorem nn_3 {D : va_G} {cI cB cJ cS : ClassId} {s : State} (hM : nm_Amb D cI cB cJ cS s) : va_Nw (.methodLinkNest RX6 69 yX0_init "NameMangler") s := hM.2.1 (RX6, 69, yX0_init, "NameMangler") (List.mem_of_getElem? (i := 3) (by decide +kernel))
theorem q_59 : Cond.code yX6_init cX6_init 1 none ∈ nm_big := nm_in (List.mem_append_right _ (List.mem_of_getElem? (i := 59) rfl)) (by decide +kernel)
theorem nn_1 {D : va_G} {cI cB cJ cS : ClassId} {s : State} (hM : nm_Amb D cI cB cJ cS s) : va_Nw (.methodLinkNest RX11 38 yX6_init "NameMangler") s := hM.2.1 (RX11, 38, yX6_init, "NameMangler") (List.mem_of_getElem? (i := 1) (by decide +kernel))
theorem q_58 : Cond.instanceMethod yX6_init ∈ nm_big := nm_in (List.mem_append_right _ (List.mem_of_getElem? (i := 58) (by decide +kernel))) (by decide +kernel)
theorem nn_5 {D : va_G} {cI cB cJ cS : ClassId} {s : State} (hM : nm_Amb D cI cB cJ cS s) : va_Nw (.methodLinkNest RX8 11 yX1_init "NameMangler") s := hM.2.1 (RX8, 11, yX1_init, "NameMangler") (List.mem_of_getElem? (i := 5) (by decide +kernel))
theorem q_180 : Cond.code yX8_init cX8_init 1 none ∈ nm_big := nm_in (List.mem_append_right _ (List.mem_of_getElem? (i := 180) rfl)) (by decide +kernel)
theorem nn_4 {D : va_G} {cI cB cJ cS : ClassId} {s : State} (hM : nm_Amb D cI cB cJ cS s) : va_Nw (.methodLinkNest RX7 11 yX8_init "NameMangler") s := hM.2.1 (RX7, 11, yX8_init, "NameMangler") (List.mem_of_getElem? (i := 4) (by decide +kernel))
theorem q_179 : Cond.instanceMethod yX8_init ∈ nm_big := nm_in (List.mem_append_right _ (List.mem_of_getElem? (i := 179) (by decide +kernel))) (by decide +kernel)
theorem nn_6 {D : va_G} {cI cB cJ cS : ClassId} {s : State} (hM : nm_Amb D cI cB cJ cS s) : va_Nw (.methodLinkNest RX7 20 yX1_init "NameMangler") s := hM.2.1 (RX7, 20, yX1_init, "NameMangler") (List.mem_of_getElem? (i := 6) (by decide +kernel))
theorem q_174 : Cond.code yX7_init cX7_init 2 none ∈ nm_big := nm_in (List.mem_append_right _ (List.mem_of_getElem? (i := 174) rfl)) (by decide +kernel)
theorem q_172 : Cond.methodLink RX11 45 yX7_init ∈ nm_big := nm_in (List.mem_append_right _ (List.mem_of_getElem? (i := 172) (by decide +kernel))) (by decide +kernel)
theorem q_173 : Cond.instanceMethod yX7_init ∈ nm_big := nm_in (List.mem_append_right _ (List.mem_of_getElem? (i := 173) (by decide +kernel))) (by decide +kernel)
theorem nn_7 {D : va_G} {cI cB cJ cS : ClassId} {s : State} (hM : nm_Amb D cI cB cJ cS s) : va_Nw (.methodLinkNest RX4 11 yX0_init "NameMangler") s := hM.2.1 (RX4, 11, yX0_init, "NameMangler") (List.mem_of_getElem? (i := 7) (by decide +kernel))
theorem q_248 : Cond.code yX4_init cX4_init 2 none ∈ nm_big := nm_in (List.mem_append_right _ (List.mem_of_getElem? (i := 248) rfl)) (by decide +kernel)
theorem q_7 : Cond.initialized RX4 ∈ nm_big := nm_in (List.mem_append_right _ (List.mem_of_getElem? (i := 7) (by decide +kernel))) (by decide +kernel)
theorem q_246 : Cond.methodLink RX2 3 yX4_init ∈ nm_big := nm_in (List.mem_append_right _ (List.mem_of_getElem? (i := 246) (by decide +kernel))) (by decide +kernel)
theorem q_247 : Cond.instanceMethod yX4_init ∈ nm_big := nm_in (List.mem_append_right _ (List.mem_of_getElem? (i := 247) (by decide +kernel))) (by decide +kernel)
theorem nn_8 {D : va_G} {cI cB cJ cS : ClassId} {s : State} (hM : nm_Amb D cI cB cJ cS s) : va_Nw (.methodLinkNest RX2 11 yX8_init "NameMangler") s := hM.2.1 (RX2, 11, yX8_init, "NameMangler") (List.mem_of_getElem? (i := 8) (by decide +kernel))
theorem q_245 : Cond.code yX2_init cX2_init 2 none ∈ nm_big := nm_in (List.mem_append_right _ (List.mem_of_getElem? (i := 245) rfl)) (by decide +kernel)
theorem q_243 : Cond.methodLink RX11 57 yX2_init ∈ nm_big := nm_in (List.mem_append_right _ (List.mem_of_getElem? (i := 243) (by decide +kernel))) (by decide +kernel)
theorem q_244 : Cond.instanceMethod yX2_init ∈ nm_big := nm_in (List.mem_append_right _ (List.mem_of_getElem? (i := 244) (by decide +kernel))) (by decide +kernel)
theorem q_304 : Cond.methodLink RX9 3 yX4_init ∈ nm_big := nm_in (List.mem_append_right _ (List.mem_of_getElem? (i := 304) (by decide +kernel))) (by decide +kernel)
theorem q_303 : Cond.code yX9_init cX9_init 2 none ∈ nm_big := nm_in (List.mem_append_right _ (List.mem_of_getElem? (i := 303) rfl)) (by decide +kernel)
theorem q_301 : Cond.methodLink RX11 64 yX9_init ∈ nm_big := nm_in (List.mem_append_right _ (List.mem_of_getElem? (i := 301) (by decide +kernel))) (by decide +kernel)
theorem q_302 : Cond.instanceMethod yX9_init ∈ nm_big := nm_in (List.mem_append_right _ (List.mem_of_getElem? (i := 302) (by decide +kernel))) (by decide +kernel)
theorem nn_9 {D : va_G} {cI cB cJ cS : ClassId} {s : State} (hM : nm_Amb D cI cB cJ cS s) : va_Nw (.methodLinkNest RX3 11 yX8_init "NameMangler") s := hM.2.1 (RX3, 11, yX8_init, "NameMangler") (List.mem_of_getElem? (i := 9) (by decide +kernel))
theorem nn_10 {D : va_G} {cI cB cJ cS : ClassId} {s : State} (hM : nm_Amb D cI cB cJ cS s) : va_Nw (.methodLinkNest RX3 20 yX1_init "NameMangler") s := hM.2.1 (RX3, 20, yX1_init, "NameMangler") (List.mem_of_getElem? (i := 10) (by decide +kernel))
theorem nn_11 {D : va_G} {cI cB cJ cS : ClassId} {s : State} (hM : nm_Amb D cI cB cJ cS s) : va_Nw (.methodLinkNest RX3 27 yX0_init "NameMangler") s := hM.2.1 (RX3, 27, yX0_init, "NameMangler") (List.mem_of_getElem? (i := 11) (by decide +kernel))
theorem q_316 : Cond.code yX3_init cX3_init 2 none ∈ nm_big := nm_in (List.mem_append_right _ (List.mem_of_getElem? (i := 316) rfl)) (by decide +kernel)
theorem q_314 : Cond.methodLink RX11 71 yX3_init ∈ nm_big := nm_in (List.mem_append_right _ (List.mem_of_getElem? (i := 314) (by decide +kernel))) (by decide +kernel)
theorem q_315 : Cond.instanceMethod yX3_init ∈ nm_big := nm_in (List.mem_append_right _ (List.mem_of_getElem? (i := 315) (by decide +kernel))) (by decide +kernel)
theorem nn_12 {D : va_G} {cI cB cJ cS : ClassId} {s : State} (hM : nm_Amb D cI cB cJ cS s) : va_Nw (.methodLinkNest RX10 11 yX1_init "NameMangler") s := hM.2.1 (RX10, 11, yX1_init, "NameMangler") (List.mem_of_getElem? (i := 12) (by decide +kernel))
theorem nn_13 {D : va_G} {cI cB cJ cS : ClassId} {s : State} (hM : nm_Amb D cI cB cJ cS s) : va_Nw (.methodLinkNest RX10 20 yX0_init "NameMangler") s := hM.2.1 (RX10, 20, yX0_init, "NameMangler") (List.mem_of_getElem? (i := 13) (by decide +kernel))
theorem q_345 : Cond.code yX10_init cX10_init 2 none ∈ nm_big := nm_in (List.mem_append_right _ (List.mem_of_getElem? (i := 345) rfl)) (by decide +kernel)
theorem q_343 : Cond.methodLink RX11 78 yX10_init ∈ nm_big := nm_in (List.mem_append_right _ (List.mem_of_getElem? (i := 343) (by decide +kernel))) (by decide +kernel)
theorem q_344 : Cond.instanceMethod yX10_init ∈ nm_big := nm_in (List.mem_append_right _ (List.mem_of_getElem? (i := 344) (by decide +kernel))) (by decide +kernel)
theorem nn_14 {D : va_G} {cI cB cJ cS : ClassId} {s : State} (hM : nm_Amb D cI cB cJ cS s) : va_Nw (.methodLinkNest RX11 94 yX1_init "NameMangler") s := hM.2.1 (RX11, 94, yX1_init, "NameMangler") (List.mem_of_getElem? (i := 14) (by decide +kernel))
theorem q_366 : Cond.code yX5_init cX5_init 1 none ∈ nm_big := nm_in (List.mem_append_right _ (List.mem_of_getElem? (i := 366) rfl)) (by decide +kernel)
theorem nn_15 {D : va_G} {cI cB cJ cS : ClassId} {s : State} (hM : nm_Amb D cI cB cJ cS s) : va_Nw (.methodLinkNest RX11 102 yX5_init "NameMangler") s := hM.2.1 (RX11, 102, yX5_init, "NameMangler") (List.mem_of_getElem? (i := 15) (by decide +kernel))
theorem q_365 : Cond.instanceMethod yX5_init ∈ nm_big := nm_in (List.mem_append_right _ (List.mem_of_getElem? (i := 365) (by decide +kernel))) (by decide +kernel)
theorem iw_X0 : ∀ w ∈ u_ws RX0 TX0 2, w ∈ nm_big := nm_lay [47, 49] (by decide +kernel) (by decide +kernel)
theorem df_X0 : ∀ j, j < 2 → defaultValue (tyX0 j) = vp_V [.null, .int 0] j := by decide +kernel
theorem iw_X11 : ∀ w ∈ u_ws RX11 TX11 18, w ∈ nm_big := nm_lay [399, 401, 403, 405, 407, 409, 411, 413, 415, 417, 419, 421, 423, 425, 427, 429, 431, 433] (by decide +kernel) (by decide +kernel)
theorem df_X11 : ∀ j, j < 18 → defaultValue (tyX11 j) = vp_V [.null, .null, .int 0, .int 0, .int 0, .null, .null, .null, .null, .null, .null, .null, .null, .null, .null, .null, .null, .int 0] j := by decide +kernel
theorem iw_X6 : ∀ w ∈ u_ws RX6 TX6 18, w ∈ nm_big := nm_lay [133, 135, 137, 139, 141, 143, 145, 147, 149, 151, 153, 155, 157, 159, 161, 163, 165, 167] (by decide +kernel) (by decide +kernel)
theorem df_X6 : ∀ j, j < 18 → defaultValue (tyX6 j) = vp_V [.null, .null, .null, .null, .null, .null, .null, .null, .null, .null, .null, .null, .null, .null, .null, .null, .null, .null] j := by decide +kernel
theorem iw_X1 : ∀ w ∈ u_ws RX1 TX1 2, w ∈ nm_big := nm_lay [78, 80] (by decide +kernel) (by decide +kernel)
theorem df_X1 : ∀ j, j < 2 → defaultValue (tyX1 j) = vp_V [.null, .int 0] j := by decide +kernel
theorem iw_X7 : ∀ w ∈ u_ws RX7 TX7 5, w ∈ nm_big := nm_lay [230, 232, 234, 236, 238] (by decide +kernel) (by decide +kernel)
theorem df_X7 : ∀ j, j < 5 → defaultValue (tyX7 j) = vp_V [.null, .null, .null, .int 0, .int 0] j := by decide +kernel
theorem iw_X8 : ∀ w ∈ u_ws RX8 TX8 6, w ∈ nm_big := nm_lay [195, 197, 199, 201, 203, 205] (by decide +kernel) (by decide +kernel)
theorem df_X8 : ∀ j, j < 6 → defaultValue (tyX8 j) = vp_V [.null, .null, .null, .null, .null, .null] j := by decide +kernel
theorem iw_X2 : ∀ w ∈ u_ws RX2 TX2 8, w ∈ nm_big := nm_lay [286, 288, 290, 292, 294, 296, 282, 284] (by decide +kernel) (by decide +kernel)
theorem df_X2 : ∀ j, j < 8 → defaultValue (tyX2 j) = vp_V [.null, .null, .int 0, .int 0, .int 0, .int 0, .null, .int 0] j := by decide +kernel
theorem iw_X9 : ∀ w ∈ u_ws RX9 TX9 6, w ∈ nm_big := nm_lay [305, 306, 307, 308, 309, 310] (by decide +kernel) (by decide +kernel)
theorem df_X9 : ∀ j, j < 6 → defaultValue (tyX9 j) = vp_V [.null, .null, .int 0, .int 0, .int 0, .int 0] j := by decide +kernel
theorem iw_X3 : ∀ w ∈ u_ws RX3 TX3 5, w ∈ nm_big := nm_lay [330, 332, 334, 336, 338] (by decide +kernel) (by decide +kernel)
theorem df_X3 : ∀ j, j < 5 → defaultValue (tyX3 j) = vp_V [.null, .null, .null, .null, .int 0] j := by decide +kernel
theorem iw_X10 : ∀ w ∈ u_ws RX10 TX10 3, w ∈ nm_big := nm_lay [354, 356, 358] (by decide +kernel) (by decide +kernel)
theorem df_X10 : ∀ j, j < 3 → defaultValue (tyX10 j) = vp_V [.null, .null, .null] j := by decide +kernel
theorem iw_X5 : ∀ w ∈ u_ws RX5 TX5 3, w ∈ nm_big := nm_lay [374, 376, 378] (by decide +kernel) (by decide +kernel)
theorem df_X5 : ∀ j, j < 3 → defaultValue (tyX5 j) = vp_V [.null, .null, .int 0] j := by decide +kernel
theorem dX11_init_0 : decode cX11_init 0 = .ok (.aload_n 0, 1) := by decide +kernel
theorem dX11_init_1 : decode cX11_init 1 = .ok (.invokespecial 1, 3) := by decide +kernel
theorem dX11_init_4 : decode cX11_init 4 = .ok (.aload_n 0, 1) := by decide +kernel
theorem dX11_init_5 : decode cX11_init 5 = .ok (.new 7, 3) := by decide +kernel
theorem dX11_init_8 : decode cX11_init 8 = .ok (.dup, 1) := by decide +kernel
theorem dX0_init_0 : decode cX0_init 0 = .ok (.aload_n 0, 1) := by decide +kernel
theorem dX0_init_1 : decode cX0_init 1 = .ok (.invokespecial 3, 3) := by decide +kernel
theorem dX0_init_4 : decode cX0_init 4 = .ok (.aload_n 0, 1) := by decide +kernel
theorem dX0_init_5 : decode cX0_init 5 = .ok (.bipush 16, 2) := by decide +kernel
theorem dX0_init_7 : decode cX0_init 7 = .ok (.newarray .byte, 2) := by decide +kernel
theorem dX0_init_9 : decode cX0_init 9 = .ok (.putfield 9, 3) := by decide +kernel
theorem dX0_init_12 : decode cX0_init 12 = .ok (.aload_n 0, 1) := by decide +kernel
theorem dX0_init_13 : decode cX0_init 13 = .ok (.iconst 0, 1) := by decide +kernel
theorem dX0_init_14 : decode cX0_init 14 = .ok (.putfield 15, 3) := by decide +kernel
theorem dX11_init_12 : decode cX11_init 12 = .ok (.putfield 10, 3) := by decide +kernel
theorem dX11_init_15 : decode cX11_init 15 = .ok (.aload_n 0, 1) := by decide +kernel
theorem dX11_init_16 : decode cX11_init 16 = .ok (.bipush 10, 2) := by decide +kernel
theorem dX11_init_18 : decode cX11_init 18 = .ok (.anewarray 16, 3) := by decide +kernel
theorem dX11_init_21 : decode cX11_init 21 = .ok (.putfield 18, 3) := by decide +kernel
theorem dX11_init_24 : decode cX11_init 24 = .ok (.aload_n 0, 1) := by decide +kernel
theorem dX11_init_25 : decode cX11_init 25 = .ok (.iconst 0, 1) := by decide +kernel
theorem dX11_init_26 : decode cX11_init 26 = .ok (.putfield 22, 3) := by decide +kernel
theorem dX11_init_29 : decode cX11_init 29 = .ok (.aload_n 0, 1) := by decide +kernel
theorem dX11_init_30 : decode cX11_init 30 = .ok (.iconst 0, 1) := by decide +kernel
theorem dX11_init_31 : decode cX11_init 31 = .ok (.putfield 26, 3) := by decide +kernel
theorem dX11_init_34 : decode cX11_init 34 = .ok (.aload_n 0, 1) := by decide +kernel
theorem dX11_init_35 : decode cX11_init 35 = .ok (.iconst (-1), 1) := by decide +kernel
theorem dX11_init_36 : decode cX11_init 36 = .ok (.putfield 29, 3) := by decide +kernel
theorem dX11_init_39 : decode cX11_init 39 = .ok (.aload_n 0, 1) := by decide +kernel
theorem dX11_init_40 : decode cX11_init 40 = .ok (.iconst 3, 1) := by decide +kernel
theorem dX11_init_41 : decode cX11_init 41 = .ok (.newarray .int, 2) := by decide +kernel
theorem dX11_init_43 : decode cX11_init 43 = .ok (.putfield 32, 3) := by decide +kernel
theorem dX11_init_46 : decode cX11_init 46 = .ok (.aload_n 0, 1) := by decide +kernel
theorem dX11_init_47 : decode cX11_init 47 = .ok (.new 36, 3) := by decide +kernel
theorem dX11_init_50 : decode cX11_init 50 = .ok (.dup, 1) := by decide +kernel
theorem dX6_init_0 : decode cX6_init 0 = .ok (.aload_n 0, 1) := by decide +kernel
theorem dX6_init_1 : decode cX6_init 1 = .ok (.invokespecial 3, 3) := by decide +kernel
theorem dX6_init_4 : decode cX6_init 4 = .ok (.aload_n 0, 1) := by decide +kernel
theorem dX6_init_5 : decode cX6_init 5 = .ok (.new 9, 3) := by decide +kernel
theorem dX6_init_8 : decode cX6_init 8 = .ok (.dup, 1) := by decide +kernel
theorem dX1_init_0 : decode cX1_init 0 = .ok (.aload_n 0, 1) := by decide +kernel
theorem dX1_init_1 : decode cX1_init 1 = .ok (.invokespecial 3, 3) := by decide +kernel
theorem dX1_init_4 : decode cX1_init 4 = .ok (.aload_n 0, 1) := by decide +kernel
theorem dX1_init_5 : decode cX1_init 5 = .ok (.bipush 16, 2) := by decide +kernel
theorem dX1_init_7 : decode cX1_init 7 = .ok (.newarray .int, 2) := by decide +kernel
theorem dX1_init_9 : decode cX1_init 9 = .ok (.putfield 9, 3) := by decide +kernel
theorem dX1_init_12 : decode cX1_init 12 = .ok (.aload_n 0, 1) := by decide +kernel
theorem dX1_init_13 : decode cX1_init 13 = .ok (.iconst 0, 1) := by decide +kernel
theorem dX1_init_14 : decode cX1_init 14 = .ok (.putfield 15, 3) := by decide +kernel
theorem dX6_init_12 : decode cX6_init 12 = .ok (.putfield 12, 3) := by decide +kernel
theorem dX6_init_15 : decode cX6_init 15 = .ok (.aload_n 0, 1) := by decide +kernel
theorem dX6_init_16 : decode cX6_init 16 = .ok (.new 9, 3) := by decide +kernel
theorem dX6_init_19 : decode cX6_init 19 = .ok (.dup, 1) := by decide +kernel
theorem dX6_init_23 : decode cX6_init 23 = .ok (.putfield 18, 3) := by decide +kernel
theorem dX6_init_26 : decode cX6_init 26 = .ok (.aload_n 0, 1) := by decide +kernel
theorem dX6_init_27 : decode cX6_init 27 = .ok (.new 9, 3) := by decide +kernel
theorem dX6_init_30 : decode cX6_init 30 = .ok (.dup, 1) := by decide +kernel
theorem dX6_init_34 : decode cX6_init 34 = .ok (.putfield 21, 3) := by decide +kernel
theorem dX6_init_37 : decode cX6_init 37 = .ok (.aload_n 0, 1) := by decide +kernel
theorem dX6_init_38 : decode cX6_init 38 = .ok (.new 9, 3) := by decide +kernel
theorem dX6_init_41 : decode cX6_init 41 = .ok (.dup, 1) := by decide +kernel
theorem dX6_init_45 : decode cX6_init 45 = .ok (.putfield 24, 3) := by decide +kernel
theorem dX6_init_48 : decode cX6_init 48 = .ok (.aload_n 0, 1) := by decide +kernel
theorem dX6_init_49 : decode cX6_init 49 = .ok (.new 9, 3) := by decide +kernel
theorem dX6_init_52 : decode cX6_init 52 = .ok (.dup, 1) := by decide +kernel
theorem dX6_init_56 : decode cX6_init 56 = .ok (.putfield 27, 3) := by decide +kernel
theorem dX6_init_59 : decode cX6_init 59 = .ok (.aload_n 0, 1) := by decide +kernel
theorem dX6_init_60 : decode cX6_init 60 = .ok (.new 9, 3) := by decide +kernel
theorem dX6_init_63 : decode cX6_init 63 = .ok (.dup, 1) := by decide +kernel
theorem dX6_init_67 : decode cX6_init 67 = .ok (.putfield 30, 3) := by decide +kernel
theorem dX6_init_70 : decode cX6_init 70 = .ok (.aload_n 0, 1) := by decide +kernel
theorem dX6_init_71 : decode cX6_init 71 = .ok (.new 9, 3) := by decide +kernel
theorem dX6_init_74 : decode cX6_init 74 = .ok (.dup, 1) := by decide +kernel
theorem dX6_init_78 : decode cX6_init 78 = .ok (.putfield 33, 3) := by decide +kernel
theorem dX6_init_81 : decode cX6_init 81 = .ok (.aload_n 0, 1) := by decide +kernel
theorem dX6_init_82 : decode cX6_init 82 = .ok (.bipush 64, 2) := by decide +kernel
theorem dX6_init_84 : decode cX6_init 84 = .ok (.newarray .int, 2) := by decide +kernel
theorem dX6_init_86 : decode cX6_init 86 = .ok (.putfield 36, 3) := by decide +kernel
theorem dX6_init_89 : decode cX6_init 89 = .ok (.aload_n 0, 1) := by decide +kernel
theorem dX6_init_90 : decode cX6_init 90 = .ok (.new 9, 3) := by decide +kernel
theorem dX6_init_93 : decode cX6_init 93 = .ok (.dup, 1) := by decide +kernel
theorem dX6_init_97 : decode cX6_init 97 = .ok (.putfield 40, 3) := by decide +kernel
theorem dX6_init_100 : decode cX6_init 100 = .ok (.aload_n 0, 1) := by decide +kernel
theorem dX6_init_101 : decode cX6_init 101 = .ok (.new 9, 3) := by decide +kernel
theorem dX6_init_104 : decode cX6_init 104 = .ok (.dup, 1) := by decide +kernel
theorem dX6_init_108 : decode cX6_init 108 = .ok (.putfield 43, 3) := by decide +kernel
theorem dX6_init_111 : decode cX6_init 111 = .ok (.aload_n 0, 1) := by decide +kernel
theorem dX6_init_112 : decode cX6_init 112 = .ok (.new 9, 3) := by decide +kernel
theorem dX6_init_115 : decode cX6_init 115 = .ok (.dup, 1) := by decide +kernel
theorem dX6_init_119 : decode cX6_init 119 = .ok (.putfield 46, 3) := by decide +kernel
theorem dX6_init_122 : decode cX6_init 122 = .ok (.aload_n 0, 1) := by decide +kernel
theorem dX6_init_123 : decode cX6_init 123 = .ok (.new 9, 3) := by decide +kernel
theorem dX6_init_126 : decode cX6_init 126 = .ok (.dup, 1) := by decide +kernel
theorem dX6_init_130 : decode cX6_init 130 = .ok (.putfield 49, 3) := by decide +kernel
theorem dX6_init_133 : decode cX6_init 133 = .ok (.aload_n 0, 1) := by decide +kernel
theorem dX6_init_134 : decode cX6_init 134 = .ok (.new 9, 3) := by decide +kernel
theorem dX6_init_137 : decode cX6_init 137 = .ok (.dup, 1) := by decide +kernel
theorem dX6_init_141 : decode cX6_init 141 = .ok (.putfield 52, 3) := by decide +kernel
theorem dX6_init_144 : decode cX6_init 144 = .ok (.aload_n 0, 1) := by decide +kernel
theorem dX6_init_145 : decode cX6_init 145 = .ok (.new 9, 3) := by decide +kernel
theorem dX6_init_148 : decode cX6_init 148 = .ok (.dup, 1) := by decide +kernel
theorem dX6_init_152 : decode cX6_init 152 = .ok (.putfield 55, 3) := by decide +kernel
theorem dX6_init_155 : decode cX6_init 155 = .ok (.aload_n 0, 1) := by decide +kernel
theorem dX6_init_156 : decode cX6_init 156 = .ok (.new 9, 3) := by decide +kernel
theorem dX6_init_159 : decode cX6_init 159 = .ok (.dup, 1) := by decide +kernel
theorem dX6_init_163 : decode cX6_init 163 = .ok (.putfield 58, 3) := by decide +kernel
theorem dX6_init_166 : decode cX6_init 166 = .ok (.aload_n 0, 1) := by decide +kernel
theorem dX6_init_167 : decode cX6_init 167 = .ok (.new 9, 3) := by decide +kernel
theorem dX6_init_170 : decode cX6_init 170 = .ok (.dup, 1) := by decide +kernel
theorem dX6_init_174 : decode cX6_init 174 = .ok (.putfield 61, 3) := by decide +kernel
theorem dX6_init_177 : decode cX6_init 177 = .ok (.aload_n 0, 1) := by decide +kernel
theorem dX6_init_178 : decode cX6_init 178 = .ok (.new 9, 3) := by decide +kernel
theorem dX6_init_181 : decode cX6_init 181 = .ok (.dup, 1) := by decide +kernel
theorem dX6_init_185 : decode cX6_init 185 = .ok (.putfield 64, 3) := by decide +kernel
theorem dX6_init_188 : decode cX6_init 188 = .ok (.aload_n 0, 1) := by decide +kernel
theorem dX6_init_189 : decode cX6_init 189 = .ok (.new 67, 3) := by decide +kernel
theorem dX6_init_192 : decode cX6_init 192 = .ok (.dup, 1) := by decide +kernel
theorem dX6_init_196 : decode cX6_init 196 = .ok (.putfield 70, 3) := by decide +kernel
theorem dX11_init_54 : decode cX11_init 54 = .ok (.putfield 39, 3) := by decide +kernel
theorem dX11_init_57 : decode cX11_init 57 = .ok (.aload_n 0, 1) := by decide +kernel
theorem dX11_init_58 : decode cX11_init 58 = .ok (.new 43, 3) := by decide +kernel
theorem dX11_init_61 : decode cX11_init 61 = .ok (.dup, 1) := by decide +kernel
theorem dX11_init_62 : decode cX11_init 62 = .ok (.aload_n 0, 1) := by decide +kernel
theorem dX11_init_63 : decode cX11_init 63 = .ok (.getfield 39, 3) := by decide +kernel
theorem dX7_init_0 : decode cX7_init 0 = .ok (.aload_n 0, 1) := by decide +kernel
theorem dX7_init_1 : decode cX7_init 1 = .ok (.invokespecial 3, 3) := by decide +kernel
theorem dX7_init_4 : decode cX7_init 4 = .ok (.aload_n 0, 1) := by decide +kernel
theorem dX7_init_5 : decode cX7_init 5 = .ok (.new 9, 3) := by decide +kernel
theorem dX7_init_8 : decode cX7_init 8 = .ok (.dup, 1) := by decide +kernel
theorem dX8_init_0 : decode cX8_init 0 = .ok (.aload_n 0, 1) := by decide +kernel
theorem dX8_init_1 : decode cX8_init 1 = .ok (.invokespecial 3, 3) := by decide +kernel
theorem dX8_init_4 : decode cX8_init 4 = .ok (.aload_n 0, 1) := by decide +kernel
theorem dX8_init_5 : decode cX8_init 5 = .ok (.new 9, 3) := by decide +kernel
theorem dX8_init_8 : decode cX8_init 8 = .ok (.dup, 1) := by decide +kernel
theorem dX8_init_12 : decode cX8_init 12 = .ok (.putfield 12, 3) := by decide +kernel
theorem dX8_init_15 : decode cX8_init 15 = .ok (.aload_n 0, 1) := by decide +kernel
theorem dX8_init_16 : decode cX8_init 16 = .ok (.new 9, 3) := by decide +kernel
theorem dX8_init_19 : decode cX8_init 19 = .ok (.dup, 1) := by decide +kernel
theorem dX8_init_23 : decode cX8_init 23 = .ok (.putfield 18, 3) := by decide +kernel
theorem dX8_init_26 : decode cX8_init 26 = .ok (.aload_n 0, 1) := by decide +kernel
theorem dX8_init_27 : decode cX8_init 27 = .ok (.new 9, 3) := by decide +kernel
theorem dX8_init_30 : decode cX8_init 30 = .ok (.dup, 1) := by decide +kernel
theorem dX8_init_34 : decode cX8_init 34 = .ok (.putfield 21, 3) := by decide +kernel
theorem dX8_init_37 : decode cX8_init 37 = .ok (.aload_n 0, 1) := by decide +kernel
theorem dX8_init_38 : decode cX8_init 38 = .ok (.new 9, 3) := by decide +kernel
theorem dX8_init_41 : decode cX8_init 41 = .ok (.dup, 1) := by decide +kernel
theorem dX8_init_45 : decode cX8_init 45 = .ok (.putfield 24, 3) := by decide +kernel
theorem dX8_init_48 : decode cX8_init 48 = .ok (.aload_n 0, 1) := by decide +kernel
theorem dX8_init_49 : decode cX8_init 49 = .ok (.new 9, 3) := by decide +kernel
theorem dX8_init_52 : decode cX8_init 52 = .ok (.dup, 1) := by decide +kernel
theorem dX8_init_56 : decode cX8_init 56 = .ok (.putfield 27, 3) := by decide +kernel
theorem dX8_init_59 : decode cX8_init 59 = .ok (.aload_n 0, 1) := by decide +kernel
theorem dX8_init_60 : decode cX8_init 60 = .ok (.new 9, 3) := by decide +kernel
theorem dX8_init_63 : decode cX8_init 63 = .ok (.dup, 1) := by decide +kernel
theorem dX8_init_67 : decode cX8_init 67 = .ok (.putfield 30, 3) := by decide +kernel
theorem dX7_init_12 : decode cX7_init 12 = .ok (.putfield 12, 3) := by decide +kernel
theorem dX7_init_15 : decode cX7_init 15 = .ok (.aload_n 0, 1) := by decide +kernel
theorem dX7_init_16 : decode cX7_init 16 = .ok (.new 18, 3) := by decide +kernel
theorem dX7_init_19 : decode cX7_init 19 = .ok (.dup, 1) := by decide +kernel
theorem dX7_init_23 : decode cX7_init 23 = .ok (.putfield 21, 3) := by decide +kernel
theorem dX7_init_26 : decode cX7_init 26 = .ok (.aload_n 0, 1) := by decide +kernel
theorem dX7_init_27 : decode cX7_init 27 = .ok (.iconst (-1), 1) := by decide +kernel
theorem dX7_init_28 : decode cX7_init 28 = .ok (.putfield 25, 3) := by decide +kernel
theorem dX7_init_31 : decode cX7_init 31 = .ok (.aload_n 0, 1) := by decide +kernel
theorem dX7_init_32 : decode cX7_init 32 = .ok (.iconst 0, 1) := by decide +kernel
theorem dX7_init_33 : decode cX7_init 33 = .ok (.putfield 29, 3) := by decide +kernel
theorem dX7_init_36 : decode cX7_init 36 = .ok (.aload_n 0, 1) := by decide +kernel
theorem dX7_init_37 : decode cX7_init 37 = .ok (.aload_n 1, 1) := by decide +kernel
theorem dX7_init_38 : decode cX7_init 38 = .ok (.putfield 33, 3) := by decide +kernel
theorem dX11_init_69 : decode cX11_init 69 = .ok (.putfield 48, 3) := by decide +kernel
theorem dX11_init_72 : decode cX11_init 72 = .ok (.aload_n 0, 1) := by decide +kernel
theorem dX11_init_73 : decode cX11_init 73 = .ok (.new 43, 3) := by decide +kernel
theorem dX11_init_76 : decode cX11_init 76 = .ok (.dup, 1) := by decide +kernel
theorem dX11_init_77 : decode cX11_init 77 = .ok (.aload_n 0, 1) := by decide +kernel
theorem dX11_init_78 : decode cX11_init 78 = .ok (.getfield 39, 3) := by decide +kernel
theorem dX11_init_84 : decode cX11_init 84 = .ok (.putfield 52, 3) := by decide +kernel
theorem dX11_init_87 : decode cX11_init 87 = .ok (.aload_n 0, 1) := by decide +kernel
theorem dX11_init_88 : decode cX11_init 88 = .ok (.new 55, 3) := by decide +kernel
theorem dX11_init_91 : decode cX11_init 91 = .ok (.dup, 1) := by decide +kernel
theorem dX11_init_92 : decode cX11_init 92 = .ok (.aload_n 0, 1) := by decide +kernel
theorem dX11_init_93 : decode cX11_init 93 = .ok (.getfield 39, 3) := by decide +kernel
theorem dX2_init_0 : decode cX2_init 0 = .ok (.aload_n 0, 1) := by decide +kernel
theorem dX2_init_1 : decode cX2_init 1 = .ok (.aload_n 1, 1) := by decide +kernel
theorem dX4_init_0 : decode cX4_init 0 = .ok (.aload_n 0, 1) := by decide +kernel
theorem dX4_init_1 : decode cX4_init 1 = .ok (.invokespecial 3, 3) := by decide +kernel
theorem dX4_init_4 : decode cX4_init 4 = .ok (.aload_n 0, 1) := by decide +kernel
theorem dX4_init_5 : decode cX4_init 5 = .ok (.new 9, 3) := by decide +kernel
theorem dX4_init_8 : decode cX4_init 8 = .ok (.dup, 1) := by decide +kernel
theorem dX4_init_12 : decode cX4_init 12 = .ok (.putfield 12, 3) := by decide +kernel
theorem dX4_init_15 : decode cX4_init 15 = .ok (.aload_n 0, 1) := by decide +kernel
theorem dX4_init_16 : decode cX4_init 16 = .ok (.iconst 0, 1) := by decide +kernel
theorem dX4_init_17 : decode cX4_init 17 = .ok (.putfield 18, 3) := by decide +kernel
theorem dX4_init_20 : decode cX4_init 20 = .ok (.aload_n 0, 1) := by decide +kernel
theorem dX4_init_21 : decode cX4_init 21 = .ok (.iconst 0, 1) := by decide +kernel
theorem dX4_init_22 : decode cX4_init 22 = .ok (.putfield 22, 3) := by decide +kernel
theorem dX4_init_25 : decode cX4_init 25 = .ok (.aload_n 0, 1) := by decide +kernel
theorem dX4_init_26 : decode cX4_init 26 = .ok (.iconst 0, 1) := by decide +kernel
theorem dX4_init_27 : decode cX4_init 27 = .ok (.putfield 25, 3) := by decide +kernel
theorem dX4_init_30 : decode cX4_init 30 = .ok (.aload_n 0, 1) := by decide +kernel
theorem dX4_init_31 : decode cX4_init 31 = .ok (.iconst (-1), 1) := by decide +kernel
theorem dX4_init_32 : decode cX4_init 32 = .ok (.putfield 28, 3) := by decide +kernel
theorem dX4_init_35 : decode cX4_init 35 = .ok (.aload_n 0, 1) := by decide +kernel
theorem dX4_init_36 : decode cX4_init 36 = .ok (.aload_n 1, 1) := by decide +kernel
theorem dX4_init_37 : decode cX4_init 37 = .ok (.putfield 31, 3) := by decide +kernel
theorem dX2_init_5 : decode cX2_init 5 = .ok (.aload_n 0, 1) := by decide +kernel
theorem dX2_init_6 : decode cX2_init 6 = .ok (.new 9, 3) := by decide +kernel
theorem dX2_init_9 : decode cX2_init 9 = .ok (.dup, 1) := by decide +kernel
theorem dX2_init_13 : decode cX2_init 13 = .ok (.putfield 14, 3) := by decide +kernel
theorem dX2_init_16 : decode cX2_init 16 = .ok (.aload_n 0, 1) := by decide +kernel
theorem dX2_init_17 : decode cX2_init 17 = .ok (.iconst 0, 1) := by decide +kernel
theorem dX2_init_18 : decode cX2_init 18 = .ok (.putfield 20, 3) := by decide +kernel
theorem dX11_init_99 : decode cX11_init 99 = .ok (.putfield 58, 3) := by decide +kernel
theorem dX11_init_102 : decode cX11_init 102 = .ok (.aload_n 0, 1) := by decide +kernel
theorem dX11_init_103 : decode cX11_init 103 = .ok (.new 62, 3) := by decide +kernel
theorem dX11_init_106 : decode cX11_init 106 = .ok (.dup, 1) := by decide +kernel
theorem dX11_init_107 : decode cX11_init 107 = .ok (.aload_n 0, 1) := by decide +kernel
theorem dX11_init_108 : decode cX11_init 108 = .ok (.getfield 39, 3) := by decide +kernel
theorem dX9_init_0 : decode cX9_init 0 = .ok (.aload_n 0, 1) := by decide +kernel
theorem dX9_init_1 : decode cX9_init 1 = .ok (.aload_n 1, 1) := by decide +kernel
theorem dX11_init_114 : decode cX11_init 114 = .ok (.putfield 65, 3) := by decide +kernel
theorem dX11_init_117 : decode cX11_init 117 = .ok (.aload_n 0, 1) := by decide +kernel
theorem dX11_init_118 : decode cX11_init 118 = .ok (.new 69, 3) := by decide +kernel
theorem dX11_init_121 : decode cX11_init 121 = .ok (.dup, 1) := by decide +kernel
theorem dX11_init_122 : decode cX11_init 122 = .ok (.aload_n 0, 1) := by decide +kernel
theorem dX11_init_123 : decode cX11_init 123 = .ok (.getfield 39, 3) := by decide +kernel
theorem dX3_init_0 : decode cX3_init 0 = .ok (.aload_n 0, 1) := by decide +kernel
theorem dX3_init_1 : decode cX3_init 1 = .ok (.invokespecial 3, 3) := by decide +kernel
theorem dX3_init_4 : decode cX3_init 4 = .ok (.aload_n 0, 1) := by decide +kernel
theorem dX3_init_5 : decode cX3_init 5 = .ok (.new 9, 3) := by decide +kernel
theorem dX3_init_8 : decode cX3_init 8 = .ok (.dup, 1) := by decide +kernel
theorem dX3_init_12 : decode cX3_init 12 = .ok (.putfield 12, 3) := by decide +kernel
theorem dX3_init_15 : decode cX3_init 15 = .ok (.aload_n 0, 1) := by decide +kernel
theorem dX3_init_16 : decode cX3_init 16 = .ok (.new 18, 3) := by decide +kernel
theorem dX3_init_19 : decode cX3_init 19 = .ok (.dup, 1) := by decide +kernel
theorem dX3_init_23 : decode cX3_init 23 = .ok (.putfield 21, 3) := by decide +kernel
theorem dX3_init_26 : decode cX3_init 26 = .ok (.aload_n 0, 1) := by decide +kernel
theorem dX3_init_27 : decode cX3_init 27 = .ok (.new 25, 3) := by decide +kernel
theorem dX3_init_30 : decode cX3_init 30 = .ok (.dup, 1) := by decide +kernel
theorem dX3_init_34 : decode cX3_init 34 = .ok (.putfield 28, 3) := by decide +kernel
theorem dX3_init_37 : decode cX3_init 37 = .ok (.aload_n 0, 1) := by decide +kernel
theorem dX3_init_38 : decode cX3_init 38 = .ok (.iconst 0, 1) := by decide +kernel
theorem dX3_init_39 : decode cX3_init 39 = .ok (.putfield 32, 3) := by decide +kernel
theorem dX3_init_42 : decode cX3_init 42 = .ok (.aload_n 0, 1) := by decide +kernel
theorem dX3_init_43 : decode cX3_init 43 = .ok (.aload_n 1, 1) := by decide +kernel
theorem dX3_init_44 : decode cX3_init 44 = .ok (.putfield 36, 3) := by decide +kernel
theorem dX11_init_129 : decode cX11_init 129 = .ok (.putfield 72, 3) := by decide +kernel
theorem dX11_init_132 : decode cX11_init 132 = .ok (.aload_n 0, 1) := by decide +kernel
theorem dX11_init_133 : decode cX11_init 133 = .ok (.new 76, 3) := by decide +kernel
theorem dX11_init_136 : decode cX11_init 136 = .ok (.dup, 1) := by decide +kernel
theorem dX11_init_137 : decode cX11_init 137 = .ok (.aload_n 0, 1) := by decide +kernel
theorem dX11_init_138 : decode cX11_init 138 = .ok (.getfield 39, 3) := by decide +kernel
theorem dX10_init_0 : decode cX10_init 0 = .ok (.aload_n 0, 1) := by decide +kernel
theorem dX10_init_1 : decode cX10_init 1 = .ok (.invokespecial 3, 3) := by decide +kernel
theorem dX10_init_4 : decode cX10_init 4 = .ok (.aload_n 0, 1) := by decide +kernel
theorem dX10_init_5 : decode cX10_init 5 = .ok (.new 9, 3) := by decide +kernel
theorem dX10_init_8 : decode cX10_init 8 = .ok (.dup, 1) := by decide +kernel
theorem dX10_init_12 : decode cX10_init 12 = .ok (.putfield 12, 3) := by decide +kernel
theorem dX10_init_15 : decode cX10_init 15 = .ok (.aload_n 0, 1) := by decide +kernel
theorem dX10_init_16 : decode cX10_init 16 = .ok (.new 18, 3) := by decide +kernel
theorem dX10_init_19 : decode cX10_init 19 = .ok (.dup, 1) := by decide +kernel
theorem dX10_init_23 : decode cX10_init 23 = .ok (.putfield 21, 3) := by decide +kernel
theorem dX10_init_26 : decode cX10_init 26 = .ok (.aload_n 0, 1) := by decide +kernel
theorem dX10_init_27 : decode cX10_init 27 = .ok (.aload_n 1, 1) := by decide +kernel
theorem dX10_init_28 : decode cX10_init 28 = .ok (.putfield 25, 3) := by decide +kernel
theorem dX11_init_144 : decode cX11_init 144 = .ok (.putfield 79, 3) := by decide +kernel
theorem dX11_init_147 : decode cX11_init 147 = .ok (.aload_n 0, 1) := by decide +kernel
theorem dX11_init_148 : decode cX11_init 148 = .ok (.new 7, 3) := by decide +kernel
theorem dX11_init_151 : decode cX11_init 151 = .ok (.dup, 1) := by decide +kernel
theorem dX11_init_155 : decode cX11_init 155 = .ok (.putfield 83, 3) := by decide +kernel
theorem dX11_init_158 : decode cX11_init 158 = .ok (.aload_n 0, 1) := by decide +kernel
theorem dX11_init_159 : decode cX11_init 159 = .ok (.new 7, 3) := by decide +kernel
theorem dX11_init_162 : decode cX11_init 162 = .ok (.dup, 1) := by decide +kernel
theorem dX11_init_166 : decode cX11_init 166 = .ok (.putfield 86, 3) := by decide +kernel
theorem dX11_init_169 : decode cX11_init 169 = .ok (.aload_n 0, 1) := by decide +kernel
theorem dX11_init_170 : decode cX11_init 170 = .ok (.new 7, 3) := by decide +kernel
theorem dX11_init_173 : decode cX11_init 173 = .ok (.dup, 1) := by decide +kernel
theorem dX11_init_177 : decode cX11_init 177 = .ok (.putfield 89, 3) := by decide +kernel
theorem dX11_init_180 : decode cX11_init 180 = .ok (.aload_n 0, 1) := by decide +kernel
theorem dX11_init_181 : decode cX11_init 181 = .ok (.new 92, 3) := by decide +kernel
theorem dX11_init_184 : decode cX11_init 184 = .ok (.dup, 1) := by decide +kernel
theorem dX11_init_188 : decode cX11_init 188 = .ok (.putfield 95, 3) := by decide +kernel
theorem dX11_init_191 : decode cX11_init 191 = .ok (.aload_n 0, 1) := by decide +kernel
theorem dX11_init_192 : decode cX11_init 192 = .ok (.iconst (-1), 1) := by decide +kernel
theorem dX11_init_193 : decode cX11_init 193 = .ok (.putfield 99, 3) := by decide +kernel
theorem dX11_init_196 : decode cX11_init 196 = .ok (.iconst 0, 1) := by decide +kernel
theorem dX11_init_197 : decode cX11_init 197 = .ok (.istore_n 1, 1) := by decide +kernel
theorem dX11_init_198 : decode cX11_init 198 = .ok (.iload_n 1, 1) := by decide +kernel
theorem dX11_init_199 : decode cX11_init 199 = .ok (.aload_n 0, 1) := by decide +kernel
theorem dX11_init_200 : decode cX11_init 200 = .ok (.getfield 18, 3) := by decide +kernel
theorem dX11_init_203 : decode cX11_init 203 = .ok (.arraylength, 1) := by decide +kernel
theorem dX11_init_204 : decode cX11_init 204 = .ok (.if_icmp .ge 22, 3) := by decide +kernel
theorem dX11_init_207 : decode cX11_init 207 = .ok (.aload_n 0, 1) := by decide +kernel
theorem dX11_init_208 : decode cX11_init 208 = .ok (.getfield 18, 3) := by decide +kernel
theorem dX11_init_211 : decode cX11_init 211 = .ok (.iload_n 1, 1) := by decide +kernel
theorem dX11_init_212 : decode cX11_init 212 = .ok (.new 16, 3) := by decide +kernel
theorem dX11_init_215 : decode cX11_init 215 = .ok (.dup, 1) := by decide +kernel
theorem dX5_init_0 : decode cX5_init 0 = .ok (.aload_n 0, 1) := by decide +kernel
theorem dX5_init_1 : decode cX5_init 1 = .ok (.invokespecial 3, 3) := by decide +kernel
theorem dX5_init_4 : decode cX5_init 4 = .ok (.aload_n 0, 1) := by decide +kernel
theorem dX5_init_5 : decode cX5_init 5 = .ok (.bipush 16, 2) := by decide +kernel
theorem dX5_init_7 : decode cX5_init 7 = .ok (.anewarray 9, 3) := by decide +kernel
theorem dX5_init_10 : decode cX5_init 10 = .ok (.putfield 11, 3) := by decide +kernel
theorem dX5_init_13 : decode cX5_init 13 = .ok (.aload_n 0, 1) := by decide +kernel
theorem dX5_init_14 : decode cX5_init 14 = .ok (.bipush 16, 2) := by decide +kernel
theorem dX5_init_16 : decode cX5_init 16 = .ok (.newarray .int, 2) := by decide +kernel
theorem dX5_init_18 : decode cX5_init 18 = .ok (.putfield 17, 3) := by decide +kernel
theorem dX5_init_21 : decode cX5_init 21 = .ok (.aload_n 0, 1) := by decide +kernel
theorem dX5_init_22 : decode cX5_init 22 = .ok (.iconst 0, 1) := by decide +kernel
theorem dX5_init_23 : decode cX5_init 23 = .ok (.putfield 21, 3) := by decide +kernel
theorem dX11_init_219 : decode cX11_init 219 = .ok (.aastore, 1) := by decide +kernel
theorem dX11_init_220 : decode cX11_init 220 = .ok (.iinc 1 1, 3) := by decide +kernel
theorem dX11_init_223 : decode cX11_init 223 = .ok (.goto (-25), 3) := by decide +kernel
theorem dX0_init_17 : decode cX0_init 17 = .ok (.return_, 1) := by decide +kernel
theorem dX11_init_9 : decode cX11_init 9 = .ok (.invokespecial 9, 3) := by decide +kernel
theorem dX1_init_17 : decode cX1_init 17 = .ok (.return_, 1) := by decide +kernel
theorem dX6_init_9 : decode cX6_init 9 = .ok (.invokespecial 11, 3) := by decide +kernel
theorem dX6_init_20 : decode cX6_init 20 = .ok (.invokespecial 11, 3) := by decide +kernel
theorem dX6_init_31 : decode cX6_init 31 = .ok (.invokespecial 11, 3) := by decide +kernel
theorem dX6_init_42 : decode cX6_init 42 = .ok (.invokespecial 11, 3) := by decide +kernel
theorem dX6_init_53 : decode cX6_init 53 = .ok (.invokespecial 11, 3) := by decide +kernel
theorem dX6_init_64 : decode cX6_init 64 = .ok (.invokespecial 11, 3) := by decide +kernel
theorem dX6_init_75 : decode cX6_init 75 = .ok (.invokespecial 11, 3) := by decide +kernel
theorem dX6_init_94 : decode cX6_init 94 = .ok (.invokespecial 11, 3) := by decide +kernel
theorem dX6_init_105 : decode cX6_init 105 = .ok (.invokespecial 11, 3) := by decide +kernel
theorem dX6_init_116 : decode cX6_init 116 = .ok (.invokespecial 11, 3) := by decide +kernel
theorem dX6_init_127 : decode cX6_init 127 = .ok (.invokespecial 11, 3) := by decide +kernel
theorem dX6_init_138 : decode cX6_init 138 = .ok (.invokespecial 11, 3) := by decide +kernel
theorem dX6_init_149 : decode cX6_init 149 = .ok (.invokespecial 11, 3) := by decide +kernel
theorem dX6_init_160 : decode cX6_init 160 = .ok (.invokespecial 11, 3) := by decide +kernel
theorem dX6_init_171 : decode cX6_init 171 = .ok (.invokespecial 11, 3) := by decide +kernel
theorem dX6_init_182 : decode cX6_init 182 = .ok (.invokespecial 11, 3) := by decide +kernel
theorem dX6_init_193 : decode cX6_init 193 = .ok (.invokespecial 69, 3) := by decide +kernel
theorem dX6_init_199 : decode cX6_init 199 = .ok (.return_, 1) := by decide +kernel
theorem dX11_init_51 : decode cX11_init 51 = .ok (.invokespecial 38, 3) := by decide +kernel
theorem dX8_init_9 : decode cX8_init 9 = .ok (.invokespecial 11, 3) := by decide +kernel
theorem dX8_init_20 : decode cX8_init 20 = .ok (.invokespecial 11, 3) := by decide +kernel
theorem dX8_init_31 : decode cX8_init 31 = .ok (.invokespecial 11, 3) := by decide +kernel
theorem dX8_init_42 : decode cX8_init 42 = .ok (.invokespecial 11, 3) := by decide +kernel
theorem dX8_init_53 : decode cX8_init 53 = .ok (.invokespecial 11, 3) := by decide +kernel
theorem dX8_init_64 : decode cX8_init 64 = .ok (.invokespecial 11, 3) := by decide +kernel
theorem dX8_init_70 : decode cX8_init 70 = .ok (.return_, 1) := by decide +kernel
theorem dX7_init_9 : decode cX7_init 9 = .ok (.invokespecial 11, 3) := by decide +kernel
theorem dX7_init_20 : decode cX7_init 20 = .ok (.invokespecial 20, 3) := by decide +kernel
theorem dX7_init_41 : decode cX7_init 41 = .ok (.return_, 1) := by decide +kernel
theorem dX11_init_66 : decode cX11_init 66 = .ok (.invokespecial 45, 3) := by decide +kernel
theorem dX11_init_81 : decode cX11_init 81 = .ok (.invokespecial 45, 3) := by decide +kernel
theorem dX4_init_9 : decode cX4_init 9 = .ok (.invokespecial 11, 3) := by decide +kernel
theorem dX4_init_40 : decode cX4_init 40 = .ok (.return_, 1) := by decide +kernel
theorem dX2_init_2 : decode cX2_init 2 = .ok (.invokespecial 3, 3) := by decide +kernel
theorem dX2_init_10 : decode cX2_init 10 = .ok (.invokespecial 11, 3) := by decide +kernel
theorem dX2_init_21 : decode cX2_init 21 = .ok (.return_, 1) := by decide +kernel
theorem dX11_init_96 : decode cX11_init 96 = .ok (.invokespecial 57, 3) := by decide +kernel
theorem dX9_init_2 : decode cX9_init 2 = .ok (.invokespecial 3, 3) := by decide +kernel
theorem dX9_init_5 : decode cX9_init 5 = .ok (.return_, 1) := by decide +kernel
theorem dX11_init_111 : decode cX11_init 111 = .ok (.invokespecial 64, 3) := by decide +kernel
theorem dX3_init_9 : decode cX3_init 9 = .ok (.invokespecial 11, 3) := by decide +kernel
theorem dX3_init_20 : decode cX3_init 20 = .ok (.invokespecial 20, 3) := by decide +kernel
theorem dX3_init_31 : decode cX3_init 31 = .ok (.invokespecial 27, 3) := by decide +kernel
theorem dX3_init_47 : decode cX3_init 47 = .ok (.return_, 1) := by decide +kernel
theorem dX11_init_126 : decode cX11_init 126 = .ok (.invokespecial 71, 3) := by decide +kernel
theorem dX10_init_9 : decode cX10_init 9 = .ok (.invokespecial 11, 3) := by decide +kernel
theorem dX10_init_20 : decode cX10_init 20 = .ok (.invokespecial 20, 3) := by decide +kernel
theorem dX10_init_31 : decode cX10_init 31 = .ok (.return_, 1) := by decide +kernel
theorem dX11_init_141 : decode cX11_init 141 = .ok (.invokespecial 78, 3) := by decide +kernel
theorem dX11_init_152 : decode cX11_init 152 = .ok (.invokespecial 9, 3) := by decide +kernel
theorem dX11_init_163 : decode cX11_init 163 = .ok (.invokespecial 9, 3) := by decide +kernel
theorem dX11_init_174 : decode cX11_init 174 = .ok (.invokespecial 9, 3) := by decide +kernel
theorem dX11_init_185 : decode cX11_init 185 = .ok (.invokespecial 94, 3) := by decide +kernel
theorem dX5_init_26 : decode cX5_init 26 = .ok (.return_, 1) := by decide +kernel
theorem dX11_init_216 : decode cX11_init 216 = .ok (.invokespecial 102, 3) := by decide +kernel
theorem dX11_init_226 : decode cX11_init 226 = .ok (.return_, 1) := by decide +kernel
set_option maxHeartbeats 4000000 in
set_option maxRecDepth 100000 in
theorem c_X0_init_1 (l : Launch) (D : va_G) (cI cB cJ cS : ClassId) (sz : Nat) (a0 : Nat) (v0 : Value) (v1 : Value)  : Met l yX0_init (.code yX0_init cX0_init 1 none :: nm_big) ({ frames := 1, cells := 1, slots := 16, locals := 12 }) (nm_P D cI cB cJ cS [.ref a0] sz [(a0, .inr (0, [v0, v1]))]) ((fun A : Nat → Prop => va_Qv (S := Nat) (fun (q101 : Nat) => True) (nm_B D (fun (q101 : Nat) => [(a0, .inr (0, [.ref q101, .int 0])), (q101, .inl (cB, 16, .inl (fun _ => 0)))]) A) A) (va_A [(a0, .inr (0, [v0, v1]))] sz)) 1 16 (va_A [(a0, .inr (0, [v0, v1]))] sz) := by
  refine nm_Met (Qc := fun A => va_Qv (S := Nat) (fun (q101 : Nat) => True) (nm_B D (fun (q101 : Nat) => [(a0, .inr (0, [.ref q101, .int 0])), (q101, .inl (cB, 16, .inl (fun _ => 0)))]) A) A) (by decide +kernel) (Nat.le_of_ble_eq_true rfl) ?_
  intro p e s m below meth c A ls hx hb hr hml hts hown hlocks hin hM hP hD hS hA hl
  have hl : lv_has ls 1 [(0, .ref a0)] := hl
  have hown : s.vm.findClass RX0 = some m.cls := hown
  have hin : meth.name = "<init>" := hin
  refine lv_aload_n hx hb dX0_init_0 rfl (lv_at hl 0 rfl) ?_
  refine W.objInit hx hb hown (hts _ q_41) (hts _ q_34) (hts _ q_35) rfl (by rw [hml]; exact hl.1) rfl dX0_init_1 (Nat.le_of_ble_eq_true rfl) (Nat.le_of_ble_eq_true rfl) ?_
  refine W.eq (g2 := F0 m 4 ls []) rfl ?_
  refine lv_aload_n hx hb dX0_init_4 rfl (lv_at hl 0 rfl) ?_
  refine lv_bipush (v := 16) hx hb dX0_init_5 (by decide) ?_
  refine nm_newb (k := 1) (n := 16) (N := 16) hx hb (hts _ q_52) hM hP hD hS hA (by decide) (by decide) (Nat.le_of_ble_eq_true rfl) (Nat.le_of_ble_eq_true rfl) (Nat.le_of_ble_eq_true rfl) dX0_init_7 (Nat.le_of_ble_eq_true rfl) (Nat.le_of_ble_eq_true rfl) (fun q101 H hP hD hS => ?_)
  have hP : va_P D nm_cl [(a0, .inr (0, [v0, v1])), (q101, .inl (cB, 16, .inl (fun _ => 0)))] H := hP
  have hD : va_D A [(a0, .inr (0, [v0, v1])), (q101, .inl (cB, 16, .inl (fun _ => 0)))] := hD
  refine va_put (D := D) (ci := 0) (v := .ref q101) (ty := .array .byte) (C := RX0) (T := TX0) (N := 2) hx hb hts iw_X0 tyX0 tyX0_ok nmX0 hown hM.1 hP hD hS 0 rfl rfl 0 (by decide) (hts _ q_42) (fun _ h9 => h9) rfl (by decide +kernel) rfl rfl (Nat.le_of_ble_eq_true rfl) dX0_init_9 (fun H locs hP hD hS => ?_)
  have hP : va_P D nm_cl [(a0, .inr (0, [.ref q101, v1])), (q101, .inl (cB, 16, .inl (fun _ => 0)))] H := hP
  have hD : va_D A [(a0, .inr (0, [.ref q101, v1])), (q101, .inl (cB, 16, .inl (fun _ => 0)))] := hD
  refine lv_aload_n hx hb dX0_init_12 rfl (lv_at hl 0 rfl) ?_
  refine lv_iconst (v := 0) hx hb dX0_init_13 (by decide) ?_
  refine va_put (D := D) (ci := 0) (v := .int 0) (ty := .int) (C := RX0) (T := TX0) (N := 2) hx hb hts iw_X0 tyX0 tyX0_ok nmX0 hown hM.1 hP hD hS 0 rfl rfl 1 (by decide) (hts _ q_43) (fun _ h9 => h9) rfl (by decide +kernel) rfl rfl (Nat.le_of_ble_eq_true rfl) dX0_init_14 (fun H locs hP hD hS => ?_)
  have hP : va_P D nm_cl [(a0, .inr (0, [.ref q101, .int 0])), (q101, .inl (cB, 16, .inl (fun _ => 0)))] H := hP
  have hD : va_D A [(a0, .inr (0, [.ref q101, .int 0])), (q101, .inl (cB, 16, .inl (fun _ => 0)))] := hD
  have hP9 := hP.sub (ws' := [(a0, .inr (0, [.ref q101, .int 0])), (q101, .inl (cB, 16, .inl (fun _ => 0)))]) [0, 1] rfl
  have hD9 := hD.sub (ws' := [(a0, .inr (0, [.ref q101, .int 0])), (q101, .inl (cB, 16, .inl (fun _ => 0)))]) [0, 1] (by decide) rfl
  exact W.vret hx hb hr (fun t ht hW => ⟨⟨q101, rfl, trivial, by rw [ht]; exact hP9, hD9⟩, hS.F ht⟩) hS.2.2 dX0_init_17
set_option maxHeartbeats 4000000 in
set_option maxRecDepth 100000 in
theorem c_X1_init_1 (l : Launch) (D : va_G) (cI cB cJ cS : ClassId) (sz : Nat) (a0 : Nat) (v0 : Value) (v1 : Value)  : Met l yX1_init (.code yX1_init cX1_init 1 none :: nm_big) ({ frames := 1, cells := 1, slots := 16, locals := 12 }) (nm_P D cI cB cJ cS [.ref a0] sz [(a0, .inr (1, [v0, v1]))]) ((fun A : Nat → Prop => va_Qv (S := Nat) (fun (q101 : Nat) => True) (nm_B D (fun (q101 : Nat) => [(a0, .inr (1, [.ref q101, .int 0]))]) A) A) (va_A [(a0, .inr (1, [v0, v1]))] sz)) 1 16 (va_A [(a0, .inr (1, [v0, v1]))] sz) := by
  refine nm_Met (Qc := fun A => va_Qv (S := Nat) (fun (q101 : Nat) => True) (nm_B D (fun (q101 : Nat) => [(a0, .inr (1, [.ref q101, .int 0]))]) A) A) (by decide +kernel) (Nat.le_of_ble_eq_true rfl) ?_
  intro p e s m below meth c A ls hx hb hr hml hts hown hlocks hin hM hP hD hS hA hl
  have hl : lv_has ls 1 [(0, .ref a0)] := hl
  have hown : s.vm.findClass RX1 = some m.cls := hown
  have hin : meth.name = "<init>" := hin
  refine lv_aload_n hx hb dX1_init_0 rfl (lv_at hl 0 rfl) ?_
  refine W.objInit hx hb hown (hts _ q_66) (hts _ q_34) (hts _ q_35) rfl (by rw [hml]; exact hl.1) rfl dX1_init_1 (Nat.le_of_ble_eq_true rfl) (Nat.le_of_ble_eq_true rfl) ?_
  refine W.eq (g2 := F0 m 4 ls []) rfl ?_
  refine lv_aload_n hx hb dX1_init_4 rfl (lv_at hl 0 rfl) ?_
  refine lv_bipush (v := 16) hx hb dX1_init_5 (by decide) ?_
  refine nm_newi (k := 1) (n := 16) (N := 16) hx hb (hts _ q_83) hM hP hD hS hA (by decide) (by decide) (Nat.le_of_ble_eq_true rfl) (Nat.le_of_ble_eq_true rfl) (Nat.le_of_ble_eq_true rfl) dX1_init_7 (Nat.le_of_ble_eq_true rfl) (Nat.le_of_ble_eq_true rfl) (fun q101 H hP hD hS => ?_)
  have hP : va_P D nm_cl [(a0, .inr (1, [v0, v1])), (q101, .inl (cI, 16, .inl (fun _ => 0)))] H := hP
  have hD : va_D A [(a0, .inr (1, [v0, v1])), (q101, .inl (cI, 16, .inl (fun _ => 0)))] := hD
  refine va_put (D := D) (ci := 1) (v := .ref q101) (ty := .array .int) (C := RX1) (T := TX1) (N := 2) hx hb hts iw_X1 tyX1 tyX1_ok nmX1 hown hM.1 hP hD hS 0 rfl rfl 0 (by decide) (hts _ q_67) (fun _ h9 => h9) rfl (by decide +kernel) rfl rfl (Nat.le_of_ble_eq_true rfl) dX1_init_9 (fun H locs hP hD hS => ?_)
  have hP : va_P D nm_cl [(a0, .inr (1, [.ref q101, v1])), (q101, .inl (cI, 16, .inl (fun _ => 0)))] H := hP
  have hD : va_D A [(a0, .inr (1, [.ref q101, v1])), (q101, .inl (cI, 16, .inl (fun _ => 0)))] := hD
  refine lv_aload_n hx hb dX1_init_12 rfl (lv_at hl 0 rfl) ?_
  refine lv_iconst (v := 0) hx hb dX1_init_13 (by decide) ?_
  refine va_put (D := D) (ci := 1) (v := .int 0) (ty := .int) (C := RX1) (T := TX1) (N := 2) hx hb hts iw_X1 tyX1 tyX1_ok nmX1 hown hM.1 hP hD hS 0 rfl rfl 1 (by decide) (hts _ q_68) (fun _ h9 => h9) rfl (by decide +kernel) rfl rfl (Nat.le_of_ble_eq_true rfl) dX1_init_14 (fun H locs hP hD hS => ?_)
  have hP : va_P D nm_cl [(a0, .inr (1, [.ref q101, .int 0])), (q101, .inl (cI, 16, .inl (fun _ => 0)))] H := hP
  have hD : va_D A [(a0, .inr (1, [.ref q101, .int 0])), (q101, .inl (cI, 16, .inl (fun _ => 0)))] := hD
  have hP9 := hP.sub (ws' := [(a0, .inr (1, [.ref q101, .int 0]))]) [0] rfl
  have hD9 := hD.sub (ws' := [(a0, .inr (1, [.ref q101, .int 0]))]) [0] (by decide) rfl
  exact W.vret hx hb hr (fun t ht hW => ⟨⟨q101, rfl, trivial, by rw [ht]; exact hP9, hD9⟩, hS.F ht⟩) hS.2.2 dX1_init_17
