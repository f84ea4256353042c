/-! PRINTED by wip/whole/gen/mk_jl.py: links of the library's methods -/
theorem cy_J5_init_d00df : e_cY mJ5_init_d00df 1 := ⟨(e_w1 6 (by decide +kernel) rfl), (e_w1 163 (by decide +kernel) rfl), ⟨by decide, by decide, by decide +kernel⟩, by decide⟩
theorem ci_RJ4_1 : e_cI RJ4 1 mJ5_init_d00df 1 := ⟨rfl, rfl, rfl, (e_w1 161 (by decide +kernel) rfl), (e_w1 162 (by decide +kernel) rfl), cy_J5_init_d00df⟩
theorem co_RJ5_3 : e_cO RJ5 3 := ⟨(e_w1 164 (by decide +kernel) rfl), (e_w1 40 (by decide +kernel) rfl), (e_w1 41 (by decide +kernel) rfl)⟩
theorem fs_RJ5_18 : Cond.fieldLink RJ5 18 "java/lang/String" "COMPACT_STRINGS" "Z" ∈ e_WS := (e_w1 165 (by decide +kernel) rfl)
theorem fp_RJ5_15 : e_FP RJ5 15 1 0 (.array .byte) false := ⟨RJ4, TJ4, 4, by decide, rfl, by decide, (e_w1 174 (by decide +kernel) rfl), u_RJ4, by decide +kernel, rfl, ⟨tyJ4, tyJ4_ok⟩, nmJ4, fun h => by first | rfl | cases h⟩
theorem fp_RJ5_22 : e_FP RJ5 22 1 1 (.byte) false := ⟨RJ4, TJ4, 4, by decide, rfl, by decide, (e_w1 175 (by decide +kernel) rfl), u_RJ4, by decide +kernel, rfl, ⟨tyJ4, tyJ4_ok⟩, nmJ4, fun h => by first | rfl | cases h⟩
theorem cy_J2_newBytesFor_77867 : e_cY mJ2_newBytesFor_77867 1 := ⟨(e_w1 9 (by decide +kernel) rfl), (e_w1 169 (by decide +kernel) rfl), ⟨by decide, by decide, by decide +kernel⟩, by decide⟩
theorem cs_RJ5_26 : e_cS RJ5 26 mJ2_newBytesFor_77867 1 := ⟨rfl, (e_w1 167 (by decide +kernel) rfl), (e_w1 168 (by decide +kernel) rfl), cy_J2_newBytesFor_77867⟩
theorem cy_J5_append_3fe6f : e_cY mJ5_append_3fe6f 1 := ⟨(e_w1 6 (by decide +kernel) rfl), (e_w1 677 (by decide +kernel) rfl), ⟨by decide, by decide, by decide +kernel⟩, by decide⟩
theorem csu_RJ4_50 : e_cSU RJ4 50 1 mJ5_append_3fe6f 1 := ⟨RJ4, TJ4, 4, by decide, rfl, rfl, (e_w1 675 (by decide +kernel) rfl), (e_w1 1825 (by decide +kernel) rfl), (e_w1 187 (by decide +kernel) rfl), (e_w1 676 (by decide +kernel) rfl), by decide, cy_J5_append_3fe6f⟩
theorem fl_RJ5_79 : e_FL RJ5 79 1 3 := ⟨RJ4, TJ4, 4, by decide, rfl, by decide, (e_w1 178 (by decide +kernel) rfl), u_RJ4⟩
theorem cy_J5_ensureCapacityInternal_d00df : e_cY mJ5_ensureCapacityInternal_d00df 1 := ⟨(e_w1 6 (by decide +kernel) rfl), (e_w1 359 (by decide +kernel) rfl), ⟨by decide, by decide, by decide +kernel⟩, by decide⟩
theorem cp_RJ5_100 : e_cP RJ5 100 1 ⟨"java/lang/AbstractStringBuilder", "isLatin1", "()Z"⟩ mJ5_ensureCapacityInternal_d00df 1 := ⟨"java/lang/StringBuilder", Or.inl ⟨TJ4, 4, by decide, rfl⟩, rfl, (e_w1 356 (by decide +kernel) rfl), (e_w1 358 (by decide +kernel) rfl), List.mem_of_getElem? (i := 357) (by decide +kernel), (e_w1 388 (by decide +kernel) rfl), rfl, cy_J5_ensureCapacityInternal_d00df⟩
theorem cy_J5_isLatin1_aae02 : e_cY mJ5_isLatin1_aae02 0 := ⟨(e_w1 6 (by decide +kernel) rfl), (e_w1 389 (by decide +kernel) rfl), ⟨by decide, by decide, by decide +kernel⟩, by decide⟩
theorem cv_RJ5_83 : e_cV RJ5 83 1 mJ5_isLatin1_aae02 0 := ⟨"java/lang/StringBuilder", Or.inl ⟨TJ4, 4, by decide, rfl⟩, rfl, (e_w1 385 (by decide +kernel) rfl), (e_w1 386 (by decide +kernel) rfl), (e_w1 388 (by decide +kernel) rfl), cy_J5_isLatin1_aae02⟩
theorem cy_J1_canEncode_fc78d : e_cY mJ1_canEncode_fc78d 1 := ⟨(e_w1 31 (by decide +kernel) rfl), (e_w1 680 (by decide +kernel) rfl), ⟨by decide, by decide, by decide +kernel⟩, by decide⟩
theorem cs_RJ5_191 : e_cS RJ5 191 mJ1_canEncode_fc78d 1 := ⟨rfl, (e_w1 678 (by decide +kernel) rfl), (e_w1 679 (by decide +kernel) rfl), cy_J1_canEncode_fc78d⟩
theorem fl_RJ5_15 : e_FL RJ5 15 1 0 := ⟨RJ4, TJ4, 4, by decide, rfl, by decide, (e_w1 174 (by decide +kernel) rfl), u_RJ4⟩
theorem fp_RJ5_79 : e_FP RJ5 79 1 3 (.int) false := ⟨RJ4, TJ4, 4, by decide, rfl, by decide, (e_w1 178 (by decide +kernel) rfl), u_RJ4, by decide +kernel, rfl, ⟨tyJ4, tyJ4_ok⟩, nmJ4, fun h => by first | rfl | cases h⟩
theorem cy_J5_inflate_da8c8 : e_cY mJ5_inflate_da8c8 0 := ⟨(e_w1 6 (by decide +kernel) rfl), (e_w1 437 (by decide +kernel) rfl), ⟨by decide, by decide, by decide +kernel⟩, by decide⟩
theorem cp_RJ5_195 : e_cP RJ5 195 1 ⟨"java/lang/AbstractStringBuilder", "isLatin1", "()Z"⟩ mJ5_inflate_da8c8 0 := ⟨"java/lang/StringBuilder", Or.inl ⟨TJ4, 4, by decide, rfl⟩, rfl, (e_w1 434 (by decide +kernel) rfl), (e_w1 436 (by decide +kernel) rfl), List.mem_of_getElem? (i := 435) (by decide +kernel), (e_w1 388 (by decide +kernel) rfl), rfl, cy_J5_inflate_da8c8⟩
theorem cy_J2_putCharSB_b72d1 : e_cY mJ2_putCharSB_b72d1 3 := ⟨(e_w1 9 (by decide +kernel) rfl), (e_w1 683 (by decide +kernel) rfl), ⟨by decide, by decide, by decide +kernel⟩, by decide⟩
theorem cs_RJ5_197 : e_cS RJ5 197 mJ2_putCharSB_b72d1 3 := ⟨rfl, (e_w1 681 (by decide +kernel) rfl), (e_w1 682 (by decide +kernel) rfl), cy_J2_putCharSB_b72d1⟩
theorem cy_J5_append_c97b9 : e_cY mJ5_append_c97b9 1 := ⟨(e_w1 6 (by decide +kernel) rfl), (e_w1 465 (by decide +kernel) rfl), ⟨by decide, by decide, by decide +kernel⟩, by decide⟩
theorem csu_RJ4_53 : e_cSU RJ4 53 1 mJ5_append_c97b9 1 := ⟨RJ4, TJ4, 4, by decide, rfl, rfl, (e_w1 463 (by decide +kernel) rfl), (e_w1 1823 (by decide +kernel) rfl), (e_w1 187 (by decide +kernel) rfl), (e_w1 464 (by decide +kernel) rfl), by decide, cy_J5_append_c97b9⟩
theorem cy_J6_stringSize_0f7a4 : e_cY mJ6_stringSize_0f7a4 1 := ⟨(e_w1 33 (by decide +kernel) rfl), (e_w1 468 (by decide +kernel) rfl), ⟨by decide, by decide, by decide +kernel⟩, by decide⟩
theorem cs_RJ5_245 : e_cS RJ5 245 mJ6_stringSize_0f7a4 1 := ⟨rfl, (e_w1 466 (by decide +kernel) rfl), (e_w1 467 (by decide +kernel) rfl), cy_J6_stringSize_0f7a4⟩
theorem cy_J6_getChars_ba4f3 : e_cY mJ6_getChars_ba4f3 3 := ⟨(e_w1 33 (by decide +kernel) rfl), (e_w1 471 (by decide +kernel) rfl), ⟨by decide, by decide, by decide +kernel⟩, by decide⟩
theorem cs_RJ5_248 : e_cS RJ5 248 mJ6_getChars_ba4f3 3 := ⟨rfl, (e_w1 469 (by decide +kernel) rfl), (e_w1 470 (by decide +kernel) rfl), cy_J6_getChars_ba4f3⟩
theorem cy_J2_getChars_46870 : e_cY mJ2_getChars_46870 4 := ⟨(e_w1 9 (by decide +kernel) rfl), (e_w1 478 (by decide +kernel) rfl), ⟨by decide, by decide, by decide +kernel⟩, by decide⟩
theorem cs_RJ5_251 : e_cS RJ5 251 mJ2_getChars_46870 4 := ⟨rfl, (e_w1 476 (by decide +kernel) rfl), (e_w1 477 (by decide +kernel) rfl), cy_J2_getChars_46870⟩
theorem cy_J5_charAt_5068e : e_cY mJ5_charAt_5068e 1 := ⟨(e_w1 6 (by decide +kernel) rfl), (e_w1 1226 (by decide +kernel) rfl), ⟨by decide, by decide, by decide +kernel⟩, by decide⟩
theorem csu_RJ4_329 : e_cSU RJ4 329 1 mJ5_charAt_5068e 1 := ⟨RJ4, TJ4, 4, by decide, rfl, rfl, (e_w1 1224 (by decide +kernel) rfl), (e_w1 1827 (by decide +kernel) rfl), (e_w1 187 (by decide +kernel) rfl), (e_w1 1225 (by decide +kernel) rfl), by decide, cy_J5_charAt_5068e⟩
theorem fl_RJ5_22 : e_FL RJ5 22 1 1 := ⟨RJ4, TJ4, 4, by decide, rfl, by decide, (e_w1 175 (by decide +kernel) rfl), u_RJ4⟩
theorem cm_RJ5_138 : e_cMa RJ5 138 Lib.Math.min.name Lib.Math.min.code := ⟨(e_w1 1227 (by decide +kernel) rfl), (e_w1 245 (by decide +kernel) rfl), (e_w1 23 (by decide +kernel) rfl), (e_w1 246 (by decide +kernel) rfl)⟩
theorem cy_J0_checkIndex_df160 : e_cY mJ0_checkIndex_df160 2 := ⟨(e_w1 8 (by decide +kernel) rfl), (e_w1 689 (by decide +kernel) rfl), ⟨by decide, by decide, by decide +kernel⟩, by decide⟩
theorem cs_RJ5_144 : e_cS RJ5 144 mJ0_checkIndex_df160 2 := ⟨rfl, (e_w1 1228 (by decide +kernel) rfl), (e_w1 688 (by decide +kernel) rfl), cy_J0_checkIndex_df160⟩
theorem cy_J2_getChar_3b067 : e_cY mJ2_getChar_3b067 2 := ⟨(e_w1 9 (by decide +kernel) rfl), (e_w1 605 (by decide +kernel) rfl), ⟨by decide, by decide, by decide +kernel⟩, by decide⟩
theorem cs_RJ5_148 : e_cS RJ5 148 mJ2_getChar_3b067 2 := ⟨rfl, (e_w1 1229 (by decide +kernel) rfl), (e_w1 604 (by decide +kernel) rfl), cy_J2_getChar_3b067⟩
theorem cy_J5_setLength_d00df : e_cY mJ5_setLength_d00df 1 := ⟨(e_w1 6 (by decide +kernel) rfl), (e_w1 336 (by decide +kernel) rfl), ⟨by decide, by decide, by decide +kernel⟩, by decide⟩
theorem csu_RJ4_333 : e_cSU RJ4 333 1 mJ5_setLength_d00df 1 := ⟨RJ4, TJ4, 4, by decide, rfl, rfl, (e_w1 334 (by decide +kernel) rfl), (e_w1 1815 (by decide +kernel) rfl), (e_w1 187 (by decide +kernel) rfl), (e_w1 335 (by decide +kernel) rfl), by decide, cy_J5_setLength_d00df⟩
theorem cy_J1_fillNull_b72d1 : e_cY mJ1_fillNull_b72d1 3 := ⟨(e_w1 31 (by decide +kernel) rfl), (e_w1 634 (by decide +kernel) rfl), ⟨by decide, by decide, by decide +kernel⟩, by decide⟩
theorem cs_RJ5_133 : e_cS RJ5 133 mJ1_fillNull_b72d1 3 := ⟨rfl, (e_w1 632 (by decide +kernel) rfl), (e_w1 633 (by decide +kernel) rfl), cy_J1_fillNull_b72d1⟩
theorem cy_J2_fillNull_b72d1 : e_cY mJ2_fillNull_b72d1 3 := ⟨(e_w1 9 (by decide +kernel) rfl), (e_w1 669 (by decide +kernel) rfl), ⟨by decide, by decide, by decide +kernel⟩, by decide⟩
theorem cs_RJ5_137 : e_cS RJ5 137 mJ2_fillNull_b72d1 3 := ⟨rfl, (e_w1 667 (by decide +kernel) rfl), (e_w1 668 (by decide +kernel) rfl), cy_J2_fillNull_b72d1⟩
theorem fp_RJ5_73 : e_FP RJ5 73 1 2 (.boolean) false := ⟨RJ4, TJ4, 4, by decide, rfl, by decide, (e_w1 176 (by decide +kernel) rfl), u_RJ4, by decide +kernel, rfl, ⟨tyJ4, tyJ4_ok⟩, nmJ4, fun h => by first | rfl | cases h⟩
theorem cy_J5_length_8abf5 : e_cY mJ5_length_8abf5 0 := ⟨(e_w1 6 (by decide +kernel) rfl), (e_w1 509 (by decide +kernel) rfl), ⟨by decide, by decide, by decide +kernel⟩, by decide⟩
theorem csu_RJ4_343 : e_cSU RJ4 343 1 mJ5_length_8abf5 0 := ⟨RJ4, TJ4, 4, by decide, rfl, rfl, (e_w1 508 (by decide +kernel) rfl), (e_w1 504 (by decide +kernel) rfl), (e_w1 187 (by decide +kernel) rfl), (e_w1 503 (by decide +kernel) rfl), by decide, cy_J5_length_8abf5⟩
theorem cy_J5_newCapacity_0f7a4 : e_cY mJ5_newCapacity_0f7a4 1 := ⟨(e_w1 6 (by decide +kernel) rfl), (e_w1 363 (by decide +kernel) rfl), ⟨by decide, by decide, by decide +kernel⟩, by decide⟩
theorem cp_RJ5_104 : e_cP RJ5 104 1 ⟨"java/lang/AbstractStringBuilder", "isLatin1", "()Z"⟩ mJ5_newCapacity_0f7a4 1 := ⟨"java/lang/StringBuilder", Or.inl ⟨TJ4, 4, by decide, rfl⟩, rfl, (e_w1 360 (by decide +kernel) rfl), (e_w1 362 (by decide +kernel) rfl), List.mem_of_getElem? (i := 361) (by decide +kernel), (e_w1 388 (by decide +kernel) rfl), rfl, cy_J5_newCapacity_0f7a4⟩
theorem cy_J7_copyOf_9075b : e_cY mJ7_copyOf_9075b 2 := ⟨(e_w1 29 (by decide +kernel) rfl), (e_w1 375 (by decide +kernel) rfl), ⟨by decide, by decide, by decide +kernel⟩, by decide⟩
theorem cs_RJ5_108 : e_cS RJ5 108 mJ7_copyOf_9075b 2 := ⟨rfl, (e_w1 373 (by decide +kernel) rfl), (e_w1 374 (by decide +kernel) rfl), cy_J7_copyOf_9075b⟩
theorem cy_J8_newLength_cabcc : e_cY mJ8_newLength_cabcc 3 := ⟨(e_w1 28 (by decide +kernel) rfl), (e_w1 366 (by decide +kernel) rfl), ⟨by decide, by decide, by decide +kernel⟩, by decide⟩
theorem cs_RJ5_114 : e_cS RJ5 114 mJ8_newLength_cabcc 3 := ⟨rfl, (e_w1 364 (by decide +kernel) rfl), (e_w1 365 (by decide +kernel) rfl), cy_J8_newLength_cabcc⟩
theorem lc_RJ5_39 : Cond.constant RJ5 39 (iI 2147483647) ∈ e_WS := (e_w1 372 (by decide +kernel) rfl)
theorem fs_RJ6_83 : Cond.fieldLink RJ6 83 "java/lang/Integer" "DigitOnes" "[B" ∈ e_WS := (e_w1 472 (by decide +kernel) rfl)
theorem fs_RJ6_87 : Cond.fieldLink RJ6 87 "java/lang/Integer" "DigitTens" "[B" ∈ e_WS := (e_w1 474 (by decide +kernel) rfl)
theorem fc22_RJ0_9 : e_FC RJ0 9 22 0 := ⟨_, rfl, (e_w1 610 (by decide +kernel) rfl)⟩
theorem cy_J0_coder_7d493 : e_cY mJ0_coder_7d493 0 := ⟨(e_w1 8 (by decide +kernel) rfl), (e_w1 423 (by decide +kernel) rfl), ⟨by decide, by decide, by decide +kernel⟩, by decide⟩
theorem cv_RJ0_335 : e_cV RJ0 335 22 mJ0_coder_7d493 0 := ⟨"java/lang/String", Or.inr ⟨by decide, by decide, rfl⟩, rfl, (e_w1 420 (by decide +kernel) rfl), (e_w1 421 (by decide +kernel) rfl), (e_w1 422 (by decide +kernel) rfl), cy_J0_coder_7d493⟩
theorem cy_J0_isLatin1_aae02 : e_cY mJ0_isLatin1_aae02 0 := ⟨(e_w1 8 (by decide +kernel) rfl), (e_w1 1270 (by decide +kernel) rfl), ⟨by decide, by decide, by decide +kernel⟩, by decide⟩
theorem cv_RJ0_492 : e_cV RJ0 492 22 mJ0_isLatin1_aae02 0 := ⟨"java/lang/String", Or.inr ⟨by decide, by decide, rfl⟩, rfl, (e_w1 1267 (by decide +kernel) rfl), (e_w1 1268 (by decide +kernel) rfl), (e_w1 1269 (by decide +kernel) rfl), cy_J0_isLatin1_aae02⟩
theorem cy_J1_charAt_3b067 : e_cY mJ1_charAt_3b067 2 := ⟨(e_w1 31 (by decide +kernel) rfl), (e_w1 1273 (by decide +kernel) rfl), ⟨by decide, by decide, by decide +kernel⟩, by decide⟩
theorem cs_RJ0_495 : e_cS RJ0 495 mJ1_charAt_3b067 2 := ⟨rfl, (e_w1 1271 (by decide +kernel) rfl), (e_w1 1272 (by decide +kernel) rfl), cy_J1_charAt_3b067⟩
theorem cy_J2_charAt_3b067 : e_cY mJ2_charAt_3b067 2 := ⟨(e_w1 9 (by decide +kernel) rfl), (e_w1 1277 (by decide +kernel) rfl), ⟨by decide, by decide, by decide +kernel⟩, by decide⟩
theorem cs_RJ0_498 : e_cS RJ0 498 mJ2_charAt_3b067 2 := ⟨rfl, (e_w1 1275 (by decide +kernel) rfl), (e_w1 1276 (by decide +kernel) rfl), cy_J2_charAt_3b067⟩
theorem fs_RJ0_38 : Cond.fieldLink RJ0 38 "java/lang/String" "COMPACT_STRINGS" "Z" ∈ e_WS := (e_w1 424 (by decide +kernel) rfl)
theorem fc22_RJ0_15 : e_FC RJ0 15 22 1 := ⟨_, rfl, (e_w1 611 (by decide +kernel) rfl)⟩
theorem fs_RJ0_1053 : Cond.fieldLink RJ0 1053 "jdk/internal/util/Preconditions" "SIOOBE_FORMATTER" "Ljava/util/function/BiFunction;" ∈ e_WS := (e_w1 402 (by decide +kernel) rfl)
theorem cy_J3_checkIndex_8e157 : e_cY mJ3_checkIndex_8e157 3 := ⟨(e_w1 30 (by decide +kernel) rfl), (e_w1 692 (by decide +kernel) rfl), ⟨by decide, by decide, by decide +kernel⟩, by decide⟩
theorem cs_RJ0_1059 : e_cS RJ0 1059 mJ3_checkIndex_8e157 3 := ⟨rfl, (e_w1 690 (by decide +kernel) rfl), (e_w1 691 (by decide +kernel) rfl), cy_J3_checkIndex_8e157⟩
theorem cs_RJ1_9 : e_cS RJ1 9 mJ0_checkIndex_df160 2 := ⟨rfl, (e_w1 1274 (by decide +kernel) rfl), (e_w1 688 (by decide +kernel) rfl), cy_J0_checkIndex_df160⟩
theorem cm_RJ7_304 : e_cMa RJ7 304 Lib.Math.min.name Lib.Math.min.code := ⟨(e_w1 383 (by decide +kernel) rfl), (e_w1 245 (by decide +kernel) rfl), (e_w1 23 (by decide +kernel) rfl), (e_w1 246 (by decide +kernel) rfl)⟩
theorem cy9_RJ7_150 : e_cSY RJ7 150 := ⟨(e_w1 384 (by decide +kernel) rfl), (e_w1 312 (by decide +kernel) rfl), (e_w1 311 (by decide +kernel) rfl), (e_w1 22 (by decide +kernel) rfl)⟩
theorem cm_RJ8_194 : e_cMa RJ8 194 Lib.Math.max.name Lib.Math.max.code := ⟨(e_w1 367 (by decide +kernel) rfl), (e_w1 300 (by decide +kernel) rfl), (e_w1 23 (by decide +kernel) rfl), (e_w1 301 (by decide +kernel) rfl)⟩
theorem lc_RJ8_200 : Cond.constant RJ8 200 (iI 2147483639) ∈ e_WS := (e_w1 368 (by decide +kernel) rfl)
theorem cy_J8_hugeLength_7cf53 : e_cY mJ8_hugeLength_7cf53 2 := ⟨(e_w1 28 (by decide +kernel) rfl), (e_w1 371 (by decide +kernel) rfl), ⟨by decide, by decide, by decide +kernel⟩, by decide⟩
theorem cs_RJ8_201 : e_cS RJ8 201 mJ8_hugeLength_7cf53 2 := ⟨rfl, (e_w1 369 (by decide +kernel) rfl), (e_w1 370 (by decide +kernel) rfl), cy_J8_hugeLength_7cf53⟩
