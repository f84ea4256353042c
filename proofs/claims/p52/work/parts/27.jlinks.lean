/-! PRINTED by wip/whole/gen/mk_jl.py: links of the library's methods -/
theorem cy_J5_appendNull_278bc : e_cY mJ5_appendNull_278bc 0 := ⟨(e_w1 6 (by decide +kernel) rfl), (e_w1 174 (by decide +kernel) rfl), ⟨by decide, by decide, by decide +kernel⟩, by decide⟩
theorem cp_RJ5_204 : e_cP RJ5 204 1 ⟨"java/lang/AbstractStringBuilder", "isLatin1", "()Z"⟩ mJ5_appendNull_278bc 0 := ⟨"java/lang/StringBuilder", Or.inl ⟨TJ4, 4, by decide, rfl⟩, rfl, (e_w1 171 (by decide +kernel) rfl), (e_w1 173 (by decide +kernel) rfl), List.mem_of_getElem? (i := 172) (by decide +kernel), (e_w1 213 (by decide +kernel) rfl), rfl, cy_J5_appendNull_278bc⟩
theorem cv_RJ5_32 : e_cV RJ5 32 22 mJ0_length_8abf5 0 := ⟨"java/lang/String", Or.inr ⟨by decide, by decide, rfl⟩, rfl, (e_w1 241 (by decide +kernel) rfl), (e_w1 242 (by decide +kernel) rfl), (e_w1 243 (by decide +kernel) rfl), cy_J0_length_8abf5⟩
theorem cv0_RJ5_32 : e_cV RJ5 32 0 mJ0_length_8abf5 0 := ⟨"java/lang/String", Or.inl ⟨TJ0, 4, by decide, rfl⟩, rfl, (e_w1 241 (by decide +kernel) rfl), (e_w1 242 (by decide +kernel) rfl), (e_w1 243 (by decide +kernel) rfl), cy_J0_length_8abf5⟩
theorem fl_RJ5_79 : e_FL RJ5 79 1 3 := ⟨RJ4, TJ4, 4, by decide, rfl, by decide, (e_w1 154 (by decide +kernel) rfl), u_RJ4⟩
theorem cy_J5_ensureCapacityInternal_d00df : e_cY mJ5_ensureCapacityInternal_d00df 1 := ⟨(e_w1 6 (by decide +kernel) rfl), (e_w1 178 (by decide +kernel) rfl), ⟨by decide, by decide, by decide +kernel⟩, by decide⟩
theorem cp_RJ5_100 : e_cP RJ5 100 1 ⟨"java/lang/AbstractStringBuilder", "isLatin1", "()Z"⟩ mJ5_ensureCapacityInternal_d00df 1 := ⟨"java/lang/StringBuilder", Or.inl ⟨TJ4, 4, by decide, rfl⟩, rfl, (e_w1 175 (by decide +kernel) rfl), (e_w1 177 (by decide +kernel) rfl), List.mem_of_getElem? (i := 176) (by decide +kernel), (e_w1 213 (by decide +kernel) rfl), rfl, cy_J5_ensureCapacityInternal_d00df⟩
theorem cy_J5_putStringAt_47b60 : e_cY mJ5_putStringAt_47b60 2 := ⟨(e_w1 6 (by decide +kernel) rfl), (e_w1 253 (by decide +kernel) rfl), ⟨by decide, by decide, by decide +kernel⟩, by decide⟩
theorem cp_RJ5_208 : e_cP RJ5 208 1 ⟨"java/lang/AbstractStringBuilder", "isLatin1", "()Z"⟩ mJ5_putStringAt_47b60 2 := ⟨"java/lang/StringBuilder", Or.inl ⟨TJ4, 4, by decide, rfl⟩, rfl, (e_w1 250 (by decide +kernel) rfl), (e_w1 252 (by decide +kernel) rfl), List.mem_of_getElem? (i := 251) (by decide +kernel), (e_w1 213 (by decide +kernel) rfl), rfl, cy_J5_putStringAt_47b60⟩
theorem fp_RJ5_79 : e_FP RJ5 79 1 3 (.int) false := ⟨RJ4, TJ4, 4, by decide, rfl, by decide, (e_w1 154 (by decide +kernel) rfl), u_RJ4, by decide +kernel, rfl, ⟨tyJ4, tyJ4_ok⟩, nmJ4, fun h => by first | rfl | cases h⟩
theorem cy_J5_append_cf1ce : e_cY mJ5_append_cf1ce 1 := ⟨(e_w1 6 (by decide +kernel) rfl), (e_w1 170 (by decide +kernel) rfl), ⟨by decide, by decide, by decide +kernel⟩, by decide⟩
theorem csu_RJ4_29 : e_cSU RJ4 29 1 mJ5_append_cf1ce 1 := ⟨RJ4, TJ4, 4, by decide, rfl, rfl, (e_w1 168 (by decide +kernel) rfl), (e_w1 1276 (by decide +kernel) rfl), (e_w1 124 (by decide +kernel) rfl), (e_w1 169 (by decide +kernel) rfl), by decide, cy_J5_append_cf1ce⟩
theorem cy_J5_inflateIfNeededFor_a7421 : e_cY mJ5_inflateIfNeededFor_a7421 1 := ⟨(e_w1 6 (by decide +kernel) rfl), (e_w1 257 (by decide +kernel) rfl), ⟨by decide, by decide, by decide +kernel⟩, by decide⟩
theorem cp_RJ5_397 : e_cP RJ5 397 1 ⟨"java/lang/AbstractStringBuilder", "isLatin1", "()Z"⟩ mJ5_inflateIfNeededFor_a7421 1 := ⟨"java/lang/StringBuilder", Or.inl ⟨TJ4, 4, by decide, rfl⟩, rfl, (e_w1 254 (by decide +kernel) rfl), (e_w1 256 (by decide +kernel) rfl), List.mem_of_getElem? (i := 255) (by decide +kernel), (e_w1 213 (by decide +kernel) rfl), rfl, cy_J5_inflateIfNeededFor_a7421⟩
theorem fl_RJ5_15 : e_FL RJ5 15 1 0 := ⟨RJ4, TJ4, 4, by decide, rfl, by decide, (e_w1 150 (by decide +kernel) rfl), u_RJ4⟩
theorem fl_RJ5_22 : e_FL RJ5 22 1 1 := ⟨RJ4, TJ4, 4, by decide, rfl, by decide, (e_w1 151 (by decide +kernel) rfl), u_RJ4⟩
theorem cy_J0_getBytes_840e7 : e_cY mJ0_getBytes_840e7 3 := ⟨(e_w1 8 (by decide +kernel) rfl), (e_w1 281 (by decide +kernel) rfl), ⟨by decide, by decide, by decide +kernel⟩, by decide⟩
theorem cv_RJ5_399 : e_cV RJ5 399 22 mJ0_getBytes_840e7 3 := ⟨"java/lang/String", Or.inr ⟨by decide, by decide, rfl⟩, rfl, (e_w1 278 (by decide +kernel) rfl), (e_w1 279 (by decide +kernel) rfl), (e_w1 280 (by decide +kernel) rfl), cy_J0_getBytes_840e7⟩
theorem cv0_RJ5_399 : e_cV RJ5 399 0 mJ0_getBytes_840e7 3 := ⟨"java/lang/String", Or.inl ⟨TJ0, 4, by decide, rfl⟩, rfl, (e_w1 278 (by decide +kernel) rfl), (e_w1 279 (by decide +kernel) rfl), (e_w1 280 (by decide +kernel) rfl), cy_J0_getBytes_840e7⟩
theorem fs_RJ5_18 : Cond.fieldLink RJ5 18 "java/lang/String" "COMPACT_STRINGS" "Z" ∈ e_WS := (e_w1 141 (by decide +kernel) rfl)
theorem cy_J0_coder_7d493 : e_cY mJ0_coder_7d493 0 := ⟨(e_w1 8 (by decide +kernel) rfl), (e_w1 248 (by decide +kernel) rfl), ⟨by decide, by decide, by decide +kernel⟩, by decide⟩
theorem cv_RJ5_40 : e_cV RJ5 40 22 mJ0_coder_7d493 0 := ⟨"java/lang/String", Or.inr ⟨by decide, by decide, rfl⟩, rfl, (e_w1 258 (by decide +kernel) rfl), (e_w1 246 (by decide +kernel) rfl), (e_w1 247 (by decide +kernel) rfl), cy_J0_coder_7d493⟩
theorem cv0_RJ5_40 : e_cV RJ5 40 0 mJ0_coder_7d493 0 := ⟨"java/lang/String", Or.inl ⟨TJ0, 4, by decide, rfl⟩, rfl, (e_w1 258 (by decide +kernel) rfl), (e_w1 246 (by decide +kernel) rfl), (e_w1 247 (by decide +kernel) rfl), cy_J0_coder_7d493⟩
theorem cy_J5_inflate_da8c8 : e_cY mJ5_inflate_da8c8 0 := ⟨(e_w1 6 (by decide +kernel) rfl), (e_w1 262 (by decide +kernel) rfl), ⟨by decide, by decide, by decide +kernel⟩, by decide⟩
theorem cp_RJ5_195 : e_cP RJ5 195 1 ⟨"java/lang/AbstractStringBuilder", "isLatin1", "()Z"⟩ mJ5_inflate_da8c8 0 := ⟨"java/lang/StringBuilder", Or.inl ⟨TJ4, 4, by decide, rfl⟩, rfl, (e_w1 259 (by decide +kernel) rfl), (e_w1 261 (by decide +kernel) rfl), List.mem_of_getElem? (i := 260) (by decide +kernel), (e_w1 213 (by decide +kernel) rfl), rfl, cy_J5_inflate_da8c8⟩
theorem cv_RJ0_335 : e_cV RJ0 335 22 mJ0_coder_7d493 0 := ⟨"java/lang/String", Or.inr ⟨by decide, by decide, rfl⟩, rfl, (e_w1 245 (by decide +kernel) rfl), (e_w1 246 (by decide +kernel) rfl), (e_w1 247 (by decide +kernel) rfl), cy_J0_coder_7d493⟩
theorem cv0_RJ0_335 : e_cV RJ0 335 0 mJ0_coder_7d493 0 := ⟨"java/lang/String", Or.inl ⟨TJ0, 4, by decide, rfl⟩, rfl, (e_w1 245 (by decide +kernel) rfl), (e_w1 246 (by decide +kernel) rfl), (e_w1 247 (by decide +kernel) rfl), cy_J0_coder_7d493⟩
theorem fl0_RJ0_9 : e_FL RJ0 9 0 0 := ⟨RJ0, TJ0, 4, by decide, rfl, by decide, (e_w1 379 (by decide +kernel) rfl), u_RJ0⟩
theorem fc22_RJ0_9 : e_FC RJ0 9 22 0 := ⟨_, rfl, (e_w1 379 (by decide +kernel) rfl)⟩
theorem cy9_RJ0_212 : e_cSY RJ0 212 := ⟨(e_w1 282 (by decide +kernel) rfl), (e_w1 209 (by decide +kernel) rfl), (e_w1 208 (by decide +kernel) rfl), (e_w1 21 (by decide +kernel) rfl)⟩
theorem cy_J1_inflate_0e8fd : e_cY mJ1_inflate_0e8fd 5 := ⟨(e_w1 28 (by decide +kernel) rfl), (e_w1 265 (by decide +kernel) rfl), ⟨by decide, by decide, by decide +kernel⟩, by decide⟩
theorem cs_RJ0_106 : e_cS RJ0 106 mJ1_inflate_0e8fd 5 := ⟨rfl, (e_w1 283 (by decide +kernel) rfl), (e_w1 264 (by decide +kernel) rfl), cy_J1_inflate_0e8fd⟩
theorem nw_RJ4_18 : e_cN RJ4 18 0 4 [vN, vI 0, vI 0, vI 0] := ⟨RJ0, TJ0, by decide, rfl, (e_w1 313 (by decide +kernel) rfl), (e_w1 314 (by decide +kernel) rfl), (e_w1 8 (by decide +kernel) rfl), u_RJ0, by simp [e_wfS, e_wfV], tyJ0, tyJ0_ok, by decide +kernel⟩
theorem cy_J0_init_81219 : e_cY mJ0_init_81219 1 := ⟨(e_w1 8 (by decide +kernel) rfl), (e_w1 317 (by decide +kernel) rfl), ⟨by decide, by decide, by decide +kernel⟩, by decide⟩
theorem ci_RJ4_137 : e_cI RJ4 137 mJ0_init_81219 1 := ⟨rfl, rfl, rfl, (e_w1 315 (by decide +kernel) rfl), (e_w1 316 (by decide +kernel) rfl), cy_J0_init_81219⟩
theorem cy_J0_init_db425 : e_cY mJ0_init_db425 2 := ⟨(e_w1 8 (by decide +kernel) rfl), (e_w1 320 (by decide +kernel) rfl), ⟨by decide, by decide, by decide +kernel⟩, by decide⟩
theorem ci_RJ0_489 : e_cI RJ0 489 mJ0_init_db425 2 := ⟨rfl, rfl, rfl, (e_w1 318 (by decide +kernel) rfl), (e_w1 319 (by decide +kernel) rfl), cy_J0_init_db425⟩
theorem co_RJ0_1 : e_cO RJ0 1 := ⟨(e_w1 321 (by decide +kernel) rfl), (e_w1 71 (by decide +kernel) rfl), (e_w1 72 (by decide +kernel) rfl)⟩
theorem cy_J5_getValue_6d5f1 : e_cY mJ5_getValue_6d5f1 0 := ⟨(e_w1 6 (by decide +kernel) rfl), (e_w1 326 (by decide +kernel) rfl), ⟨by decide, by decide, by decide +kernel⟩, by decide⟩
theorem cv_RJ0_552 : e_cV RJ0 552 1 mJ5_getValue_6d5f1 0 := ⟨"java/lang/StringBuilder", Or.inl ⟨TJ4, 4, by decide, rfl⟩, rfl, (e_w1 322 (by decide +kernel) rfl), (e_w1 323 (by decide +kernel) rfl), (e_w1 325 (by decide +kernel) rfl), cy_J5_getValue_6d5f1⟩
theorem cy_J5_length_8abf5 : e_cY mJ5_length_8abf5 0 := ⟨(e_w1 6 (by decide +kernel) rfl), (e_w1 334 (by decide +kernel) rfl), ⟨by decide, by decide, by decide +kernel⟩, by decide⟩
theorem cy_J5_isLatin1_aae02 : e_cY mJ5_isLatin1_aae02 0 := ⟨(e_w1 6 (by decide +kernel) rfl), (e_w1 214 (by decide +kernel) rfl), ⟨by decide, by decide, by decide +kernel⟩, by decide⟩
theorem cv_RJ0_1047 : e_cV RJ0 1047 1 mJ5_isLatin1_aae02 0 := ⟨"java/lang/StringBuilder", Or.inl ⟨TJ4, 4, by decide, rfl⟩, rfl, (e_w1 335 (by decide +kernel) rfl), (e_w1 211 (by decide +kernel) rfl), (e_w1 213 (by decide +kernel) rfl), cy_J5_isLatin1_aae02⟩
theorem fp0_RJ0_15 : e_FP RJ0 15 0 1 (.byte) true := ⟨RJ0, TJ0, 4, by decide, rfl, by decide, (e_w1 380 (by decide +kernel) rfl), u_RJ0, by decide +kernel, rfl, ⟨tyJ0, tyJ0_ok⟩, nmJ0, fun h => by first | rfl | cases h⟩
theorem cy_J7_copyOfRange_39247 : e_cY mJ7_copyOfRange_39247 3 := ⟨(e_w1 26 (by decide +kernel) rfl), (e_w1 338 (by decide +kernel) rfl), ⟨by decide, by decide, by decide +kernel⟩, by decide⟩
theorem cs_RJ0_54 : e_cS RJ0 54 mJ7_copyOfRange_39247 3 := ⟨rfl, (e_w1 336 (by decide +kernel) rfl), (e_w1 337 (by decide +kernel) rfl), cy_J7_copyOfRange_39247⟩
theorem fp0_RJ0_9 : e_FP RJ0 9 0 0 (.array .byte) true := ⟨RJ0, TJ0, 4, by decide, rfl, by decide, (e_w1 379 (by decide +kernel) rfl), u_RJ0, by decide +kernel, rfl, ⟨tyJ0, tyJ0_ok⟩, nmJ0, fun h => by first | rfl | cases h⟩
theorem fs_RJ0_38 : Cond.fieldLink RJ0 38 "java/lang/String" "COMPACT_STRINGS" "Z" ∈ e_WS := (e_w1 249 (by decide +kernel) rfl)
theorem fl_RJ0_1048 : e_FL RJ0 1048 1 2 := ⟨RJ4, TJ4, 4, by decide, rfl, by decide, (e_w1 153 (by decide +kernel) rfl), u_RJ4⟩
theorem cy_J2_compress_39247 : e_cY mJ2_compress_39247 3 := ⟨(e_w1 9 (by decide +kernel) rfl), (e_w1 368 (by decide +kernel) rfl), ⟨by decide, by decide, by decide +kernel⟩, by decide⟩
theorem cs_RJ0_1051 : e_cS RJ0 1051 mJ2_compress_39247 3 := ⟨rfl, (e_w1 366 (by decide +kernel) rfl), (e_w1 367 (by decide +kernel) rfl), cy_J2_compress_39247⟩
theorem cy_J2_coderFromArrayLen_85cad : e_cY mJ2_coderFromArrayLen_85cad 2 := ⟨(e_w1 9 (by decide +kernel) rfl), (e_w1 378 (by decide +kernel) rfl), ⟨by decide, by decide, by decide +kernel⟩, by decide⟩
theorem cs_RJ0_47 : e_cS RJ0 47 mJ2_coderFromArrayLen_85cad 2 := ⟨rfl, (e_w1 376 (by decide +kernel) rfl), (e_w1 377 (by decide +kernel) rfl), cy_J2_coderFromArrayLen_85cad⟩
theorem cy_J7_copyOfRangeByte_39247 : e_cY mJ7_copyOfRangeByte_39247 3 := ⟨(e_w1 26 (by decide +kernel) rfl), (e_w1 341 (by decide +kernel) rfl), ⟨by decide, by decide, by decide +kernel⟩, by decide⟩
theorem cs_RJ7_339 : e_cS RJ7 339 mJ7_copyOfRangeByte_39247 3 := ⟨rfl, (e_w1 339 (by decide +kernel) rfl), (e_w1 340 (by decide +kernel) rfl), cy_J7_copyOfRangeByte_39247⟩
theorem cy_J7_checkLength_df160 : e_cY mJ7_checkLength_df160 2 := ⟨(e_w1 26 (by decide +kernel) rfl), (e_w1 344 (by decide +kernel) rfl), ⟨by decide, by decide, by decide +kernel⟩, by decide⟩
theorem cs_RJ7_343 : e_cS RJ7 343 mJ7_checkLength_df160 2 := ⟨rfl, (e_w1 342 (by decide +kernel) rfl), (e_w1 343 (by decide +kernel) rfl), cy_J7_checkLength_df160⟩
theorem cm_RJ7_304 : e_cMa RJ7 304 Lib.Math.min.name Lib.Math.min.code := ⟨(e_w1 204 (by decide +kernel) rfl), (e_w1 205 (by decide +kernel) rfl), (e_w1 22 (by decide +kernel) rfl), (e_w1 206 (by decide +kernel) rfl)⟩
theorem cy9_RJ7_150 : e_cSY RJ7 150 := ⟨(e_w1 207 (by decide +kernel) rfl), (e_w1 209 (by decide +kernel) rfl), (e_w1 208 (by decide +kernel) rfl), (e_w1 21 (by decide +kernel) rfl)⟩
theorem nw_RJ7_45 : e_cN RJ7 45 1 4 [vN, vI 0, vI 0, vI 0] := ⟨RJ4, TJ4, by decide, rfl, (e_w1 354 (by decide +kernel) rfl), (e_w1 133 (by decide +kernel) rfl), (e_w1 7 (by decide +kernel) rfl), u_RJ4, by simp [e_wfS, e_wfV], tyJ4, tyJ4_ok, by decide +kernel⟩
theorem ci_RJ7_47 : e_cI RJ7 47 mJ4_init_da8c8 0 := ⟨rfl, rfl, rfl, (e_w1 355 (by decide +kernel) rfl), (e_w1 135 (by decide +kernel) rfl), cy_J4_init_da8c8⟩
theorem cv_RJ7_54 : e_cV RJ7 54 1 mJ4_append_bf812 1 := ⟨"java/lang/StringBuilder", Or.inl ⟨TJ4, 4, by decide, rfl⟩, rfl, (e_w1 356 (by decide +kernel) rfl), (e_w1 285 (by decide +kernel) rfl), (e_w1 286 (by decide +kernel) rfl), cy_J4_append_bf812⟩
theorem cv_RJ7_50 : e_cV RJ7 50 1 mJ4_append_15ec4 1 := ⟨"java/lang/StringBuilder", Or.inl ⟨TJ4, 4, by decide, rfl⟩, rfl, (e_w1 358 (by decide +kernel) rfl), (e_w1 165 (by decide +kernel) rfl), (e_w1 166 (by decide +kernel) rfl), cy_J4_append_15ec4⟩
theorem cv_RJ7_61 : e_cV RJ7 61 1 mJ4_toString_0e30d 0 := ⟨"java/lang/StringBuilder", Or.inl ⟨TJ4, 4, by decide, rfl⟩, rfl, (e_w1 359 (by decide +kernel) rfl), (e_w1 310 (by decide +kernel) rfl), (e_w1 311 (by decide +kernel) rfl), cy_J4_toString_0e30d⟩
theorem cy_J5_init_d00df : e_cY mJ5_init_d00df 1 := ⟨(e_w1 6 (by decide +kernel) rfl), (e_w1 139 (by decide +kernel) rfl), ⟨by decide, by decide, by decide +kernel⟩, by decide⟩
theorem ci_RJ4_1 : e_cI RJ4 1 mJ5_init_d00df 1 := ⟨rfl, rfl, rfl, (e_w1 137 (by decide +kernel) rfl), (e_w1 138 (by decide +kernel) rfl), cy_J5_init_d00df⟩
theorem co_RJ5_3 : e_cO RJ5 3 := ⟨(e_w1 140 (by decide +kernel) rfl), (e_w1 71 (by decide +kernel) rfl), (e_w1 72 (by decide +kernel) rfl)⟩
theorem fp_RJ5_15 : e_FP RJ5 15 1 0 (.array .byte) false := ⟨RJ4, TJ4, 4, by decide, rfl, by decide, (e_w1 150 (by decide +kernel) rfl), u_RJ4, by decide +kernel, rfl, ⟨tyJ4, tyJ4_ok⟩, nmJ4, fun h => by first | rfl | cases h⟩
theorem fp_RJ5_22 : e_FP RJ5 22 1 1 (.byte) false := ⟨RJ4, TJ4, 4, by decide, rfl, by decide, (e_w1 151 (by decide +kernel) rfl), u_RJ4, by decide +kernel, rfl, ⟨tyJ4, tyJ4_ok⟩, nmJ4, fun h => by first | rfl | cases h⟩
theorem cy_J2_newBytesFor_77867 : e_cY mJ2_newBytesFor_77867 1 := ⟨(e_w1 9 (by decide +kernel) rfl), (e_w1 145 (by decide +kernel) rfl), ⟨by decide, by decide, by decide +kernel⟩, by decide⟩
theorem cs_RJ5_26 : e_cS RJ5 26 mJ2_newBytesFor_77867 1 := ⟨rfl, (e_w1 143 (by decide +kernel) rfl), (e_w1 144 (by decide +kernel) rfl), cy_J2_newBytesFor_77867⟩
theorem cy_J5_append_3fe6f : e_cY mJ5_append_3fe6f 1 := ⟨(e_w1 6 (by decide +kernel) rfl), (e_w1 448 (by decide +kernel) rfl), ⟨by decide, by decide, by decide +kernel⟩, by decide⟩
theorem csu_RJ4_50 : e_cSU RJ4 50 1 mJ5_append_3fe6f 1 := ⟨RJ4, TJ4, 4, by decide, rfl, rfl, (e_w1 446 (by decide +kernel) rfl), (e_w1 1284 (by decide +kernel) rfl), (e_w1 124 (by decide +kernel) rfl), (e_w1 447 (by decide +kernel) rfl), by decide, cy_J5_append_3fe6f⟩
theorem cv_RJ5_83 : e_cV RJ5 83 1 mJ5_isLatin1_aae02 0 := ⟨"java/lang/StringBuilder", Or.inl ⟨TJ4, 4, by decide, rfl⟩, rfl, (e_w1 210 (by decide +kernel) rfl), (e_w1 211 (by decide +kernel) rfl), (e_w1 213 (by decide +kernel) rfl), cy_J5_isLatin1_aae02⟩
theorem cy_J1_canEncode_fc78d : e_cY mJ1_canEncode_fc78d 1 := ⟨(e_w1 28 (by decide +kernel) rfl), (e_w1 451 (by decide +kernel) rfl), ⟨by decide, by decide, by decide +kernel⟩, by decide⟩
theorem cs_RJ5_191 : e_cS RJ5 191 mJ1_canEncode_fc78d 1 := ⟨rfl, (e_w1 449 (by decide +kernel) rfl), (e_w1 450 (by decide +kernel) rfl), cy_J1_canEncode_fc78d⟩
theorem cy_J2_putCharSB_b72d1 : e_cY mJ2_putCharSB_b72d1 3 := ⟨(e_w1 9 (by decide +kernel) rfl), (e_w1 454 (by decide +kernel) rfl), ⟨by decide, by decide, by decide +kernel⟩, by decide⟩
theorem cs_RJ5_197 : e_cS RJ5 197 mJ2_putCharSB_b72d1 3 := ⟨rfl, (e_w1 452 (by decide +kernel) rfl), (e_w1 453 (by decide +kernel) rfl), cy_J2_putCharSB_b72d1⟩
theorem cy_J5_append_c97b9 : e_cY mJ5_append_c97b9 1 := ⟨(e_w1 6 (by decide +kernel) rfl), (e_w1 290 (by decide +kernel) rfl), ⟨by decide, by decide, by decide +kernel⟩, by decide⟩
theorem csu_RJ4_53 : e_cSU RJ4 53 1 mJ5_append_c97b9 1 := ⟨RJ4, TJ4, 4, by decide, rfl, rfl, (e_w1 288 (by decide +kernel) rfl), (e_w1 1283 (by decide +kernel) rfl), (e_w1 124 (by decide +kernel) rfl), (e_w1 289 (by decide +kernel) rfl), by decide, cy_J5_append_c97b9⟩
theorem cy_J6_stringSize_0f7a4 : e_cY mJ6_stringSize_0f7a4 1 := ⟨(e_w1 30 (by decide +kernel) rfl), (e_w1 293 (by decide +kernel) rfl), ⟨by decide, by decide, by decide +kernel⟩, by decide⟩
theorem cs_RJ5_245 : e_cS RJ5 245 mJ6_stringSize_0f7a4 1 := ⟨rfl, (e_w1 291 (by decide +kernel) rfl), (e_w1 292 (by decide +kernel) rfl), cy_J6_stringSize_0f7a4⟩
theorem cy_J6_getChars_ba4f3 : e_cY mJ6_getChars_ba4f3 3 := ⟨(e_w1 30 (by decide +kernel) rfl), (e_w1 296 (by decide +kernel) rfl), ⟨by decide, by decide, by decide +kernel⟩, by decide⟩
theorem cs_RJ5_248 : e_cS RJ5 248 mJ6_getChars_ba4f3 3 := ⟨rfl, (e_w1 294 (by decide +kernel) rfl), (e_w1 295 (by decide +kernel) rfl), cy_J6_getChars_ba4f3⟩
theorem cy_J2_getChars_46870 : e_cY mJ2_getChars_46870 4 := ⟨(e_w1 9 (by decide +kernel) rfl), (e_w1 303 (by decide +kernel) rfl), ⟨by decide, by decide, by decide +kernel⟩, by decide⟩
theorem cs_RJ5_251 : e_cS RJ5 251 mJ2_getChars_46870 4 := ⟨rfl, (e_w1 301 (by decide +kernel) rfl), (e_w1 302 (by decide +kernel) rfl), cy_J2_getChars_46870⟩
theorem cy_J5_charAt_5068e : e_cY mJ5_charAt_5068e 1 := ⟨(e_w1 6 (by decide +kernel) rfl), (e_w1 1098 (by decide +kernel) rfl), ⟨by decide, by decide, by decide +kernel⟩, by decide⟩
theorem csu_RJ4_329 : e_cSU RJ4 329 1 mJ5_charAt_5068e 1 := ⟨RJ4, TJ4, 4, by decide, rfl, rfl, (e_w1 1096 (by decide +kernel) rfl), (e_w1 1286 (by decide +kernel) rfl), (e_w1 124 (by decide +kernel) rfl), (e_w1 1097 (by decide +kernel) rfl), by decide, cy_J5_charAt_5068e⟩
theorem cm_RJ5_138 : e_cMa RJ5 138 Lib.Math.min.name Lib.Math.min.code := ⟨(e_w1 1099 (by decide +kernel) rfl), (e_w1 205 (by decide +kernel) rfl), (e_w1 22 (by decide +kernel) rfl), (e_w1 206 (by decide +kernel) rfl)⟩
theorem cy_J0_checkIndex_df160 : e_cY mJ0_checkIndex_df160 2 := ⟨(e_w1 8 (by decide +kernel) rfl), (e_w1 460 (by decide +kernel) rfl), ⟨by decide, by decide, by decide +kernel⟩, by decide⟩
theorem cs_RJ5_144 : e_cS RJ5 144 mJ0_checkIndex_df160 2 := ⟨rfl, (e_w1 1100 (by decide +kernel) rfl), (e_w1 459 (by decide +kernel) rfl), cy_J0_checkIndex_df160⟩
theorem cy_J2_getChar_3b067 : e_cY mJ2_getChar_3b067 2 := ⟨(e_w1 9 (by decide +kernel) rfl), (e_w1 374 (by decide +kernel) rfl), ⟨by decide, by decide, by decide +kernel⟩, by decide⟩
theorem cs_RJ5_148 : e_cS RJ5 148 mJ2_getChar_3b067 2 := ⟨rfl, (e_w1 1101 (by decide +kernel) rfl), (e_w1 373 (by decide +kernel) rfl), cy_J2_getChar_3b067⟩
theorem cy_J5_setLength_d00df : e_cY mJ5_setLength_d00df 1 := ⟨(e_w1 6 (by decide +kernel) rfl), (e_w1 126 (by decide +kernel) rfl), ⟨by decide, by decide, by decide +kernel⟩, by decide⟩
theorem csu_RJ4_333 : e_cSU RJ4 333 1 mJ5_setLength_d00df 1 := ⟨RJ4, TJ4, 4, by decide, rfl, rfl, (e_w1 123 (by decide +kernel) rfl), (e_w1 1275 (by decide +kernel) rfl), (e_w1 124 (by decide +kernel) rfl), (e_w1 125 (by decide +kernel) rfl), by decide, cy_J5_setLength_d00df⟩
theorem cy_J1_fillNull_b72d1 : e_cY mJ1_fillNull_b72d1 3 := ⟨(e_w1 28 (by decide +kernel) rfl), (e_w1 400 (by decide +kernel) rfl), ⟨by decide, by decide, by decide +kernel⟩, by decide⟩
theorem cs_RJ5_133 : e_cS RJ5 133 mJ1_fillNull_b72d1 3 := ⟨rfl, (e_w1 398 (by decide +kernel) rfl), (e_w1 399 (by decide +kernel) rfl), cy_J1_fillNull_b72d1⟩
theorem cy_J2_fillNull_b72d1 : e_cY mJ2_fillNull_b72d1 3 := ⟨(e_w1 9 (by decide +kernel) rfl), (e_w1 435 (by decide +kernel) rfl), ⟨by decide, by decide, by decide +kernel⟩, by decide⟩
theorem cs_RJ5_137 : e_cS RJ5 137 mJ2_fillNull_b72d1 3 := ⟨rfl, (e_w1 433 (by decide +kernel) rfl), (e_w1 434 (by decide +kernel) rfl), cy_J2_fillNull_b72d1⟩
theorem fp_RJ5_73 : e_FP RJ5 73 1 2 (.boolean) false := ⟨RJ4, TJ4, 4, by decide, rfl, by decide, (e_w1 152 (by decide +kernel) rfl), u_RJ4, by decide +kernel, rfl, ⟨tyJ4, tyJ4_ok⟩, nmJ4, fun h => by first | rfl | cases h⟩
theorem csu_RJ4_343 : e_cSU RJ4 343 1 mJ5_length_8abf5 0 := ⟨RJ4, TJ4, 4, by decide, rfl, rfl, (e_w1 333 (by decide +kernel) rfl), (e_w1 329 (by decide +kernel) rfl), (e_w1 124 (by decide +kernel) rfl), (e_w1 328 (by decide +kernel) rfl), by decide, cy_J5_length_8abf5⟩
theorem cy_J5_newCapacity_0f7a4 : e_cY mJ5_newCapacity_0f7a4 1 := ⟨(e_w1 6 (by decide +kernel) rfl), (e_w1 182 (by decide +kernel) rfl), ⟨by decide, by decide, by decide +kernel⟩, by decide⟩
theorem cp_RJ5_104 : e_cP RJ5 104 1 ⟨"java/lang/AbstractStringBuilder", "isLatin1", "()Z"⟩ mJ5_newCapacity_0f7a4 1 := ⟨"java/lang/StringBuilder", Or.inl ⟨TJ4, 4, by decide, rfl⟩, rfl, (e_w1 179 (by decide +kernel) rfl), (e_w1 181 (by decide +kernel) rfl), List.mem_of_getElem? (i := 180) (by decide +kernel), (e_w1 213 (by decide +kernel) rfl), rfl, cy_J5_newCapacity_0f7a4⟩
theorem cy_J7_copyOf_9075b : e_cY mJ7_copyOf_9075b 2 := ⟨(e_w1 26 (by decide +kernel) rfl), (e_w1 196 (by decide +kernel) rfl), ⟨by decide, by decide, by decide +kernel⟩, by decide⟩
theorem cs_RJ5_108 : e_cS RJ5 108 mJ7_copyOf_9075b 2 := ⟨rfl, (e_w1 194 (by decide +kernel) rfl), (e_w1 195 (by decide +kernel) rfl), cy_J7_copyOf_9075b⟩
theorem cy_J8_newLength_cabcc : e_cY mJ8_newLength_cabcc 3 := ⟨(e_w1 25 (by decide +kernel) rfl), (e_w1 185 (by decide +kernel) rfl), ⟨by decide, by decide, by decide +kernel⟩, by decide⟩
theorem cs_RJ5_114 : e_cS RJ5 114 mJ8_newLength_cabcc 3 := ⟨rfl, (e_w1 183 (by decide +kernel) rfl), (e_w1 184 (by decide +kernel) rfl), cy_J8_newLength_cabcc⟩
theorem lc_RJ5_39 : Cond.constant RJ5 39 (iI (2147483647)) ∈ e_WS := (e_w1 193 (by decide +kernel) rfl)
theorem fs_RJ6_83 : Cond.fieldLink RJ6 83 "java/lang/Integer" "DigitOnes" "[B" ∈ e_WS := (e_w1 297 (by decide +kernel) rfl)
theorem fs_RJ6_87 : Cond.fieldLink RJ6 87 "java/lang/Integer" "DigitTens" "[B" ∈ e_WS := (e_w1 299 (by decide +kernel) rfl)
theorem cy_J0_isLatin1_aae02 : e_cY mJ0_isLatin1_aae02 0 := ⟨(e_w1 8 (by decide +kernel) rfl), (e_w1 1052 (by decide +kernel) rfl), ⟨by decide, by decide, by decide +kernel⟩, by decide⟩
theorem cv_RJ0_492 : e_cV RJ0 492 22 mJ0_isLatin1_aae02 0 := ⟨"java/lang/String", Or.inr ⟨by decide, by decide, rfl⟩, rfl, (e_w1 1049 (by decide +kernel) rfl), (e_w1 1050 (by decide +kernel) rfl), (e_w1 1051 (by decide +kernel) rfl), cy_J0_isLatin1_aae02⟩
theorem cv0_RJ0_492 : e_cV RJ0 492 0 mJ0_isLatin1_aae02 0 := ⟨"java/lang/String", Or.inl ⟨TJ0, 4, by decide, rfl⟩, rfl, (e_w1 1049 (by decide +kernel) rfl), (e_w1 1050 (by decide +kernel) rfl), (e_w1 1051 (by decide +kernel) rfl), cy_J0_isLatin1_aae02⟩
theorem cy_J1_charAt_3b067 : e_cY mJ1_charAt_3b067 2 := ⟨(e_w1 28 (by decide +kernel) rfl), (e_w1 1055 (by decide +kernel) rfl), ⟨by decide, by decide, by decide +kernel⟩, by decide⟩
theorem cs_RJ0_495 : e_cS RJ0 495 mJ1_charAt_3b067 2 := ⟨rfl, (e_w1 1053 (by decide +kernel) rfl), (e_w1 1054 (by decide +kernel) rfl), cy_J1_charAt_3b067⟩
theorem cy_J2_charAt_3b067 : e_cY mJ2_charAt_3b067 2 := ⟨(e_w1 9 (by decide +kernel) rfl), (e_w1 1059 (by decide +kernel) rfl), ⟨by decide, by decide, by decide +kernel⟩, by decide⟩
theorem cs_RJ0_498 : e_cS RJ0 498 mJ2_charAt_3b067 2 := ⟨rfl, (e_w1 1057 (by decide +kernel) rfl), (e_w1 1058 (by decide +kernel) rfl), cy_J2_charAt_3b067⟩
theorem fl0_RJ0_15 : e_FL RJ0 15 0 1 := ⟨RJ0, TJ0, 4, by decide, rfl, by decide, (e_w1 380 (by decide +kernel) rfl), u_RJ0⟩
theorem fc22_RJ0_15 : e_FC RJ0 15 22 1 := ⟨_, rfl, (e_w1 380 (by decide +kernel) rfl)⟩
theorem fs_RJ0_1053 : Cond.fieldLink RJ0 1053 "jdk/internal/util/Preconditions" "SIOOBE_FORMATTER" "Ljava/util/function/BiFunction;" ∈ e_WS := (e_w1 227 (by decide +kernel) rfl)
theorem cy_J3_checkIndex_8e157 : e_cY mJ3_checkIndex_8e157 3 := ⟨(e_w1 27 (by decide +kernel) rfl), (e_w1 463 (by decide +kernel) rfl), ⟨by decide, by decide, by decide +kernel⟩, by decide⟩
theorem cs_RJ0_1059 : e_cS RJ0 1059 mJ3_checkIndex_8e157 3 := ⟨rfl, (e_w1 461 (by decide +kernel) rfl), (e_w1 462 (by decide +kernel) rfl), cy_J3_checkIndex_8e157⟩
theorem cs_RJ1_9 : e_cS RJ1 9 mJ0_checkIndex_df160 2 := ⟨rfl, (e_w1 1056 (by decide +kernel) rfl), (e_w1 459 (by decide +kernel) rfl), cy_J0_checkIndex_df160⟩
theorem cm_RJ8_194 : e_cMa RJ8 194 Lib.Math.max.name Lib.Math.max.code := ⟨(e_w1 186 (by decide +kernel) rfl), (e_w1 187 (by decide +kernel) rfl), (e_w1 22 (by decide +kernel) rfl), (e_w1 188 (by decide +kernel) rfl)⟩
theorem lc_RJ8_200 : Cond.constant RJ8 200 (iI (2147483639)) ∈ e_WS := (e_w1 189 (by decide +kernel) rfl)
theorem cy_J8_hugeLength_7cf53 : e_cY mJ8_hugeLength_7cf53 2 := ⟨(e_w1 25 (by decide +kernel) rfl), (e_w1 192 (by decide +kernel) rfl), ⟨by decide, by decide, by decide +kernel⟩, by decide⟩
theorem cs_RJ8_201 : e_cS RJ8 201 mJ8_hugeLength_7cf53 2 := ⟨rfl, (e_w1 190 (by decide +kernel) rfl), (e_w1 191 (by decide +kernel) rfl), cy_J8_hugeLength_7cf53⟩
