/-! The text builder: a String more; the text as a String of its own. -/
theorem dJ5_inflateIfNeededFor_a7421_0 : decode cJ5_inflateIfNeededFor_a7421 0 = .ok (.getstatic 18, 3) := by decide +kernel
theorem dJ5_inflateIfNeededFor_a7421_3 : decode cJ5_inflateIfNeededFor_a7421 3 = .ok (.ifCond .eq 18, 3) := by decide +kernel
theorem dJ5_inflateIfNeededFor_a7421_6 : decode cJ5_inflateIfNeededFor_a7421 6 = .ok (.aload_n 0, 1) := by decide +kernel
theorem dJ5_inflateIfNeededFor_a7421_7 : decode cJ5_inflateIfNeededFor_a7421 7 = .ok (.getfield 22, 3) := by decide +kernel
theorem dJ5_inflateIfNeededFor_a7421_10 : decode cJ5_inflateIfNeededFor_a7421 10 = .ok (.aload_n 1, 1) := by decide +kernel
theorem dJ5_inflateIfNeededFor_a7421_11 : decode cJ5_inflateIfNeededFor_a7421 11 = .ok (.invokevirtual 40, 3) := by decide +kernel
theorem dJ5_inflateIfNeededFor_a7421_14 : decode cJ5_inflateIfNeededFor_a7421 14 = .ok (.if_icmp .eq 7, 3) := by decide +kernel
theorem dJ5_inflateIfNeededFor_a7421_17 : decode cJ5_inflateIfNeededFor_a7421 17 = .ok (.aload_n 0, 1) := by decide +kernel
theorem dJ5_inflateIfNeededFor_a7421_18 : decode cJ5_inflateIfNeededFor_a7421 18 = .ok (.invokevirtual 195, 3) := by decide +kernel
theorem dJ5_inflateIfNeededFor_a7421_21 : decode cJ5_inflateIfNeededFor_a7421 21 = .ok (.return_, 1) := by decide +kernel
theorem dJ0_getBytes_840e7_0 : decode cJ0_getBytes_840e7 0 = .ok (.aload_n 0, 1) := by decide +kernel
theorem dJ0_getBytes_840e7_1 : decode cJ0_getBytes_840e7 1 = .ok (.invokevirtual 335, 3) := by decide +kernel
theorem dJ0_getBytes_840e7_4 : decode cJ0_getBytes_840e7 4 = .ok (.iload_n 3, 1) := by decide +kernel
theorem dJ0_getBytes_840e7_5 : decode cJ0_getBytes_840e7 5 = .ok (.if_icmp .ne 23, 3) := by decide +kernel
theorem dJ0_getBytes_840e7_8 : decode cJ0_getBytes_840e7 8 = .ok (.aload_n 0, 1) := by decide +kernel
theorem dJ0_getBytes_840e7_9 : decode cJ0_getBytes_840e7 9 = .ok (.getfield 9, 3) := by decide +kernel
theorem dJ0_getBytes_840e7_12 : decode cJ0_getBytes_840e7 12 = .ok (.iconst 0, 1) := by decide +kernel
theorem dJ0_getBytes_840e7_13 : decode cJ0_getBytes_840e7 13 = .ok (.aload_n 1, 1) := by decide +kernel
theorem dJ0_getBytes_840e7_14 : decode cJ0_getBytes_840e7 14 = .ok (.iload_n 2, 1) := by decide +kernel
theorem dJ0_getBytes_840e7_15 : decode cJ0_getBytes_840e7 15 = .ok (.iload_n 3, 1) := by decide +kernel
theorem dJ0_getBytes_840e7_16 : decode cJ0_getBytes_840e7 16 = .ok (.ishl, 1) := by decide +kernel
theorem dJ0_getBytes_840e7_17 : decode cJ0_getBytes_840e7 17 = .ok (.aload_n 0, 1) := by decide +kernel
theorem dJ0_getBytes_840e7_18 : decode cJ0_getBytes_840e7 18 = .ok (.getfield 9, 3) := by decide +kernel
theorem dJ0_getBytes_840e7_21 : decode cJ0_getBytes_840e7 21 = .ok (.arraylength, 1) := by decide +kernel
theorem dJ0_getBytes_840e7_22 : decode cJ0_getBytes_840e7 22 = .ok (.invokestatic 212, 3) := by decide +kernel
theorem dJ0_getBytes_840e7_25 : decode cJ0_getBytes_840e7 25 = .ok (.goto 18, 3) := by decide +kernel
theorem dJ0_getBytes_840e7_28 : decode cJ0_getBytes_840e7 28 = .ok (.aload_n 0, 1) := by decide +kernel
theorem dJ0_getBytes_840e7_29 : decode cJ0_getBytes_840e7 29 = .ok (.getfield 9, 3) := by decide +kernel
theorem dJ0_getBytes_840e7_32 : decode cJ0_getBytes_840e7 32 = .ok (.iconst 0, 1) := by decide +kernel
theorem dJ0_getBytes_840e7_33 : decode cJ0_getBytes_840e7 33 = .ok (.aload_n 1, 1) := by decide +kernel
theorem dJ0_getBytes_840e7_34 : decode cJ0_getBytes_840e7 34 = .ok (.iload_n 2, 1) := by decide +kernel
theorem dJ0_getBytes_840e7_35 : decode cJ0_getBytes_840e7 35 = .ok (.aload_n 0, 1) := by decide +kernel
theorem dJ0_getBytes_840e7_36 : decode cJ0_getBytes_840e7 36 = .ok (.getfield 9, 3) := by decide +kernel
theorem dJ0_getBytes_840e7_39 : decode cJ0_getBytes_840e7 39 = .ok (.arraylength, 1) := by decide +kernel
theorem dJ0_getBytes_840e7_40 : decode cJ0_getBytes_840e7 40 = .ok (.invokestatic 106, 3) := by decide +kernel
theorem dJ0_getBytes_840e7_43 : decode cJ0_getBytes_840e7 43 = .ok (.return_, 1) := by decide +kernel
theorem dJ5_putStringAt_47b60_0 : decode cJ5_putStringAt_47b60 0 = .ok (.aload_n 0, 1) := by decide +kernel
theorem dJ5_putStringAt_47b60_1 : decode cJ5_putStringAt_47b60 1 = .ok (.aload_n 2, 1) := by decide +kernel
theorem dJ5_putStringAt_47b60_2 : decode cJ5_putStringAt_47b60 2 = .ok (.invokevirtual 397, 3) := by decide +kernel
theorem dJ5_putStringAt_47b60_5 : decode cJ5_putStringAt_47b60 5 = .ok (.aload_n 2, 1) := by decide +kernel
theorem dJ5_putStringAt_47b60_6 : decode cJ5_putStringAt_47b60 6 = .ok (.aload_n 0, 1) := by decide +kernel
theorem dJ5_putStringAt_47b60_7 : decode cJ5_putStringAt_47b60 7 = .ok (.getfield 15, 3) := by decide +kernel
theorem dJ5_putStringAt_47b60_10 : decode cJ5_putStringAt_47b60 10 = .ok (.iload_n 1, 1) := by decide +kernel
theorem dJ5_putStringAt_47b60_11 : decode cJ5_putStringAt_47b60 11 = .ok (.aload_n 0, 1) := by decide +kernel
theorem dJ5_putStringAt_47b60_12 : decode cJ5_putStringAt_47b60 12 = .ok (.getfield 22, 3) := by decide +kernel
theorem dJ5_putStringAt_47b60_15 : decode cJ5_putStringAt_47b60 15 = .ok (.invokevirtual 399, 3) := by decide +kernel
theorem dJ5_putStringAt_47b60_18 : decode cJ5_putStringAt_47b60 18 = .ok (.return_, 1) := by decide +kernel
theorem dJ5_append_cf1ce_0 : decode cJ5_append_cf1ce 0 = .ok (.aload_n 1, 1) := by decide +kernel
theorem dJ5_append_cf1ce_1 : decode cJ5_append_cf1ce 1 = .ok (.ifnonnull 8, 3) := by decide +kernel
theorem dJ5_append_cf1ce_4 : decode cJ5_append_cf1ce 4 = .ok (.aload_n 0, 1) := by decide +kernel
theorem dJ5_append_cf1ce_5 : decode cJ5_append_cf1ce 5 = .ok (.invokevirtual 204, 3) := by decide +kernel
theorem dJ5_append_cf1ce_8 : decode cJ5_append_cf1ce 8 = .ok (.areturn, 1) := by decide +kernel
theorem dJ5_append_cf1ce_9 : decode cJ5_append_cf1ce 9 = .ok (.aload_n 1, 1) := by decide +kernel
theorem dJ5_append_cf1ce_10 : decode cJ5_append_cf1ce 10 = .ok (.invokevirtual 32, 3) := by decide +kernel
theorem dJ5_append_cf1ce_13 : decode cJ5_append_cf1ce 13 = .ok (.istore_n 2, 1) := by decide +kernel
theorem dJ5_append_cf1ce_14 : decode cJ5_append_cf1ce 14 = .ok (.aload_n 0, 1) := by decide +kernel
theorem dJ5_append_cf1ce_15 : decode cJ5_append_cf1ce 15 = .ok (.aload_n 0, 1) := by decide +kernel
theorem dJ5_append_cf1ce_16 : decode cJ5_append_cf1ce 16 = .ok (.getfield 79, 3) := by decide +kernel
theorem dJ5_append_cf1ce_19 : decode cJ5_append_cf1ce 19 = .ok (.iload_n 2, 1) := by decide +kernel
theorem dJ5_append_cf1ce_20 : decode cJ5_append_cf1ce 20 = .ok (.iadd, 1) := by decide +kernel
theorem dJ5_append_cf1ce_21 : decode cJ5_append_cf1ce 21 = .ok (.invokevirtual 100, 3) := by decide +kernel
theorem dJ5_append_cf1ce_24 : decode cJ5_append_cf1ce 24 = .ok (.aload_n 0, 1) := by decide +kernel
theorem dJ5_append_cf1ce_25 : decode cJ5_append_cf1ce 25 = .ok (.aload_n 0, 1) := by decide +kernel
theorem dJ5_append_cf1ce_26 : decode cJ5_append_cf1ce 26 = .ok (.getfield 79, 3) := by decide +kernel
theorem dJ5_append_cf1ce_29 : decode cJ5_append_cf1ce 29 = .ok (.aload_n 1, 1) := by decide +kernel
theorem dJ5_append_cf1ce_30 : decode cJ5_append_cf1ce 30 = .ok (.invokevirtual 208, 3) := by decide +kernel
theorem dJ5_append_cf1ce_33 : decode cJ5_append_cf1ce 33 = .ok (.aload_n 0, 1) := by decide +kernel
theorem dJ5_append_cf1ce_34 : decode cJ5_append_cf1ce 34 = .ok (.dup, 1) := by decide +kernel
theorem dJ5_append_cf1ce_35 : decode cJ5_append_cf1ce 35 = .ok (.getfield 79, 3) := by decide +kernel
theorem dJ5_append_cf1ce_38 : decode cJ5_append_cf1ce 38 = .ok (.iload_n 2, 1) := by decide +kernel
theorem dJ5_append_cf1ce_39 : decode cJ5_append_cf1ce 39 = .ok (.iadd, 1) := by decide +kernel
theorem dJ5_append_cf1ce_40 : decode cJ5_append_cf1ce 40 = .ok (.putfield 79, 3) := by decide +kernel
theorem dJ5_append_cf1ce_43 : decode cJ5_append_cf1ce 43 = .ok (.aload_n 0, 1) := by decide +kernel
theorem dJ5_append_cf1ce_44 : decode cJ5_append_cf1ce 44 = .ok (.areturn, 1) := by decide +kernel
theorem dJ4_append_15ec4_0 : decode cJ4_append_15ec4 0 = .ok (.aload_n 0, 1) := by decide +kernel
theorem dJ4_append_15ec4_1 : decode cJ4_append_15ec4 1 = .ok (.aload_n 1, 1) := by decide +kernel
theorem dJ4_append_15ec4_2 : decode cJ4_append_15ec4 2 = .ok (.invokespecial 29, 3) := by decide +kernel
theorem dJ4_append_15ec4_5 : decode cJ4_append_15ec4 5 = .ok (.pop, 1) := by decide +kernel
theorem dJ4_append_15ec4_6 : decode cJ4_append_15ec4 6 = .ok (.aload_n 0, 1) := by decide +kernel
theorem dJ4_append_15ec4_7 : decode cJ4_append_15ec4 7 = .ok (.areturn, 1) := by decide +kernel
theorem dJ5_getValue_6d5f1_0 : decode cJ5_getValue_6d5f1 0 = .ok (.aload_n 0, 1) := by decide +kernel
theorem dJ5_getValue_6d5f1_1 : decode cJ5_getValue_6d5f1 1 = .ok (.getfield 15, 3) := by decide +kernel
theorem dJ5_getValue_6d5f1_4 : decode cJ5_getValue_6d5f1 4 = .ok (.areturn, 1) := by decide +kernel
theorem dJ0_init_db425_0 : decode cJ0_init_db425 0 = .ok (.aload_n 0, 1) := by decide +kernel
theorem dJ0_init_db425_1 : decode cJ0_init_db425 1 = .ok (.invokespecial 1, 3) := by decide +kernel
theorem dJ0_init_db425_4 : decode cJ0_init_db425 4 = .ok (.aload_n 1, 1) := by decide +kernel
theorem dJ0_init_db425_5 : decode cJ0_init_db425 5 = .ok (.invokevirtual 552, 3) := by decide +kernel
theorem dJ0_init_db425_8 : decode cJ0_init_db425 8 = .ok (.astore_n 3, 1) := by decide +kernel
theorem dJ0_init_db425_9 : decode cJ0_init_db425 9 = .ok (.aload_n 1, 1) := by decide +kernel
theorem dJ0_init_db425_10 : decode cJ0_init_db425 10 = .ok (.invokevirtual 549, 3) := by decide +kernel
theorem dJ0_init_db425_13 : decode cJ0_init_db425 13 = .ok (.istore 4, 2) := by decide +kernel
theorem dJ0_init_db425_15 : decode cJ0_init_db425 15 = .ok (.aload_n 1, 1) := by decide +kernel
theorem dJ0_init_db425_16 : decode cJ0_init_db425 16 = .ok (.invokevirtual 1047, 3) := by decide +kernel
theorem dJ0_init_db425_19 : decode cJ0_init_db425 19 = .ok (.ifCond .eq 22, 3) := by decide +kernel
theorem dJ0_init_db425_22 : decode cJ0_init_db425 22 = .ok (.aload_n 0, 1) := by decide +kernel
theorem dJ0_init_db425_23 : decode cJ0_init_db425 23 = .ok (.iconst 0, 1) := by decide +kernel
theorem dJ0_init_db425_24 : decode cJ0_init_db425 24 = .ok (.putfield 15, 3) := by decide +kernel
theorem dJ0_init_db425_27 : decode cJ0_init_db425 27 = .ok (.aload_n 0, 1) := by decide +kernel
theorem dJ0_init_db425_28 : decode cJ0_init_db425 28 = .ok (.aload_n 3, 1) := by decide +kernel
theorem dJ0_init_db425_29 : decode cJ0_init_db425 29 = .ok (.iconst 0, 1) := by decide +kernel
theorem dJ0_init_db425_30 : decode cJ0_init_db425 30 = .ok (.iload 4, 2) := by decide +kernel
theorem dJ0_init_db425_32 : decode cJ0_init_db425 32 = .ok (.invokestatic 54, 3) := by decide +kernel
theorem dJ0_init_db425_35 : decode cJ0_init_db425 35 = .ok (.putfield 9, 3) := by decide +kernel
theorem dJ0_init_db425_38 : decode cJ0_init_db425 38 = .ok (.goto 59, 3) := by decide +kernel
theorem dJ0_init_db425_41 : decode cJ0_init_db425 41 = .ok (.getstatic 38, 3) := by decide +kernel
theorem dJ0_init_db425_44 : decode cJ0_init_db425 44 = .ok (.ifCond .eq 35, 3) := by decide +kernel
theorem dJ0_init_db425_47 : decode cJ0_init_db425 47 = .ok (.aload_n 1, 1) := by decide +kernel
theorem dJ0_init_db425_48 : decode cJ0_init_db425 48 = .ok (.getfield 1048, 3) := by decide +kernel
theorem dJ0_init_db425_51 : decode cJ0_init_db425 51 = .ok (.ifCond .eq 28, 3) := by decide +kernel
theorem dJ0_init_db425_54 : decode cJ0_init_db425 54 = .ok (.aload_n 0, 1) := by decide +kernel
theorem dJ0_init_db425_55 : decode cJ0_init_db425 55 = .ok (.aload_n 3, 1) := by decide +kernel
theorem dJ0_init_db425_56 : decode cJ0_init_db425 56 = .ok (.iconst 0, 1) := by decide +kernel
theorem dJ0_init_db425_57 : decode cJ0_init_db425 57 = .ok (.iload 4, 2) := by decide +kernel
theorem dJ0_init_db425_59 : decode cJ0_init_db425 59 = .ok (.invokestatic 1051, 3) := by decide +kernel
theorem dJ0_init_db425_62 : decode cJ0_init_db425 62 = .ok (.putfield 9, 3) := by decide +kernel
theorem dJ0_init_db425_65 : decode cJ0_init_db425 65 = .ok (.aload_n 0, 1) := by decide +kernel
theorem dJ0_init_db425_66 : decode cJ0_init_db425 66 = .ok (.aload_n 0, 1) := by decide +kernel
theorem dJ0_init_db425_67 : decode cJ0_init_db425 67 = .ok (.getfield 9, 3) := by decide +kernel
theorem dJ0_init_db425_70 : decode cJ0_init_db425 70 = .ok (.iload 4, 2) := by decide +kernel
theorem dJ0_init_db425_72 : decode cJ0_init_db425 72 = .ok (.invokestatic 47, 3) := by decide +kernel
theorem dJ0_init_db425_75 : decode cJ0_init_db425 75 = .ok (.putfield 15, 3) := by decide +kernel
theorem dJ0_init_db425_78 : decode cJ0_init_db425 78 = .ok (.return_, 1) := by decide +kernel
theorem dJ0_init_db425_79 : decode cJ0_init_db425 79 = .ok (.aload_n 0, 1) := by decide +kernel
theorem dJ0_init_db425_80 : decode cJ0_init_db425 80 = .ok (.iconst 1, 1) := by decide +kernel
theorem dJ0_init_db425_81 : decode cJ0_init_db425 81 = .ok (.putfield 15, 3) := by decide +kernel
theorem dJ0_init_db425_84 : decode cJ0_init_db425 84 = .ok (.aload_n 0, 1) := by decide +kernel
theorem dJ0_init_db425_85 : decode cJ0_init_db425 85 = .ok (.aload_n 3, 1) := by decide +kernel
theorem dJ0_init_db425_86 : decode cJ0_init_db425 86 = .ok (.iconst 0, 1) := by decide +kernel
theorem dJ0_init_db425_87 : decode cJ0_init_db425 87 = .ok (.iload 4, 2) := by decide +kernel
theorem dJ0_init_db425_89 : decode cJ0_init_db425 89 = .ok (.iconst 1, 1) := by decide +kernel
theorem dJ0_init_db425_90 : decode cJ0_init_db425 90 = .ok (.ishl, 1) := by decide +kernel
theorem dJ0_init_db425_91 : decode cJ0_init_db425 91 = .ok (.invokestatic 54, 3) := by decide +kernel
theorem dJ0_init_db425_94 : decode cJ0_init_db425 94 = .ok (.putfield 9, 3) := by decide +kernel
theorem dJ0_init_db425_97 : decode cJ0_init_db425 97 = .ok (.return_, 1) := by decide +kernel
theorem dJ0_init_81219_0 : decode cJ0_init_81219 0 = .ok (.aload_n 0, 1) := by decide +kernel
theorem dJ0_init_81219_1 : decode cJ0_init_81219 1 = .ok (.aload_n 1, 1) := by decide +kernel
theorem dJ0_init_81219_2 : decode cJ0_init_81219 2 = .ok (.aconst_null, 1) := by decide +kernel
theorem dJ0_init_81219_3 : decode cJ0_init_81219 3 = .ok (.invokespecial 489, 3) := by decide +kernel
theorem dJ0_init_81219_6 : decode cJ0_init_81219 6 = .ok (.return_, 1) := by decide +kernel
theorem dJ4_toString_0e30d_0 : decode cJ4_toString_0e30d 0 = .ok (.new 18, 3) := by decide +kernel
theorem dJ4_toString_0e30d_3 : decode cJ4_toString_0e30d 3 = .ok (.dup, 1) := by decide +kernel
theorem dJ4_toString_0e30d_4 : decode cJ4_toString_0e30d 4 = .ok (.aload_n 0, 1) := by decide +kernel
theorem dJ4_toString_0e30d_5 : decode cJ4_toString_0e30d 5 = .ok (.invokespecial 137, 3) := by decide +kernel
theorem dJ4_toString_0e30d_8 : decode cJ4_toString_0e30d 8 = .ok (.areturn, 1) := by decide +kernel
theorem gm_J5_397 : gM RJ5 397 yJ5_inflateIfNeededFor_a7421 cJ5_inflateIfNeededFor_a7421 2 none 1 ∧ Cond.instanceMethod yJ5_inflateIfNeededFor_a7421 ∈ WG := ⟨⟨wg_t 1324 (by decide +kernel) (by decide +kernel), wg_t 1327 (by decide +kernel) (by decide +kernel), wg_t 9 (by decide +kernel) (by decide +kernel), by decide +kernel⟩, wg_t 1326 (by decide +kernel) (by decide +kernel)⟩
theorem gm_J5_208 : gM RJ5 208 yJ5_putStringAt_47b60 cJ5_putStringAt_47b60 3 none 2 ∧ Cond.instanceMethod yJ5_putStringAt_47b60 ∈ WG := ⟨⟨wg_t 1320 (by decide +kernel) (by decide +kernel), wg_t 1323 (by decide +kernel) (by decide +kernel), wg_t 9 (by decide +kernel) (by decide +kernel), by decide +kernel⟩, wg_t 1322 (by decide +kernel) (by decide +kernel)⟩
theorem su_J4_29 : gSU RJ4 29 yJ5_append_cf1ce cJ5_append_cf1ce 3 (some (.object "java/lang/AbstractStringBuilder")) 1 := by
  refine ⟨fun w hw => ?_, wg_t 1246 (by decide +kernel) (by decide +kernel), by decide +kernel, by decide +kernel⟩
  simp only [List.mem_cons, List.mem_nil_iff, or_false] at hw
  rcases hw with rfl | rfl | rfl | rfl | rfl
  · exact wg_t 1244 (by decide +kernel) (by decide +kernel)
  · exact wg_t 1698 (by decide +kernel) (by decide +kernel)
  · exact wg_t 305 (by decide +kernel) (by decide +kernel)
  · exact wg_t 1245 (by decide +kernel) (by decide +kernel)
  · exact wg_t 9 (by decide +kernel) (by decide +kernel)
theorem ml_J5_399 : gMV RJ5 399 yJ0_getBytes_840e7 cJ0_getBytes_840e7 4 none 3 := ⟨⟨wg_t 1348 (by decide +kernel) (by decide +kernel), wg_t 1351 (by decide +kernel) (by decide +kernel), wg_t 11 (by decide +kernel) (by decide +kernel), by decide +kernel⟩, wg_t 1349 (by decide +kernel) (by decide +kernel), wg_t 1350 (by decide +kernel) (by decide +kernel)⟩
theorem ml_J5_32 : gMV RJ5 32 yJ0_length_8abf5 cJ0_length_8abf5 1 (some .int) 0 := ⟨⟨wg_t 1311 (by decide +kernel) (by decide +kernel), wg_t 1314 (by decide +kernel) (by decide +kernel), wg_t 11 (by decide +kernel) (by decide +kernel), by decide +kernel⟩, wg_t 1312 (by decide +kernel) (by decide +kernel), wg_t 1313 (by decide +kernel) (by decide +kernel)⟩
theorem ml_J5_40 : gMV RJ5 40 yJ0_coder_7d493 cJ0_coder_7d493 1 (some .byte) 0 := ⟨⟨wg_t 1328 (by decide +kernel) (by decide +kernel), wg_t 1318 (by decide +kernel) (by decide +kernel), wg_t 11 (by decide +kernel) (by decide +kernel), by decide +kernel⟩, wg_t 1316 (by decide +kernel) (by decide +kernel), wg_t 1317 (by decide +kernel) (by decide +kernel)⟩
theorem ml_J0_54 : gMS RJ0 54 yJ7_copyOfRange_39247 cJ7_copyOfRange_39247 3 (some (.array .byte)) 3 := ⟨⟨wg_t 1406 (by decide +kernel) (by decide +kernel), wg_t 1408 (by decide +kernel) (by decide +kernel), wg_t 30 (by decide +kernel) (by decide +kernel), by decide +kernel⟩, wg_t 1407 (by decide +kernel) (by decide +kernel)⟩
theorem ml_J4_137 : gMI RJ4 137 yJ0_init_81219 cJ0_init_81219 2 1 := ⟨⟨wg_t 1385 (by decide +kernel) (by decide +kernel), wg_t 1387 (by decide +kernel) (by decide +kernel), wg_t 11 (by decide +kernel) (by decide +kernel), by decide +kernel⟩, wg_t 1386 (by decide +kernel) (by decide +kernel)⟩
theorem ml_J0_489 : gMI RJ0 489 yJ0_init_db425 cJ0_init_db425 5 2 := ⟨⟨wg_t 1388 (by decide +kernel) (by decide +kernel), wg_t 1390 (by decide +kernel) (by decide +kernel), wg_t 11 (by decide +kernel) (by decide +kernel), by decide +kernel⟩, wg_t 1389 (by decide +kernel) (by decide +kernel)⟩
theorem gm_J0_552 : gM RJ0 552 yJ5_getValue_6d5f1 cJ5_getValue_6d5f1 1 (some (.array .byte)) 0 ∧ Cond.instanceMethod yJ5_getValue_6d5f1 ∈ WG := ⟨⟨wg_t 1392 (by decide +kernel) (by decide +kernel), wg_t 1396 (by decide +kernel) (by decide +kernel), wg_t 9 (by decide +kernel) (by decide +kernel), by decide +kernel⟩, wg_t 1393 (by decide +kernel) (by decide +kernel)⟩
theorem gm_J0_549 : gM RJ0 549 yJ5_length_8abf5 cJ5_length_8abf5 1 (some .int) 0 ∧ Cond.instanceMethod yJ5_length_8abf5 ∈ WG := ⟨⟨wg_t 1397 (by decide +kernel) (by decide +kernel), wg_t 1404 (by decide +kernel) (by decide +kernel), wg_t 9 (by decide +kernel) (by decide +kernel), by decide +kernel⟩, wg_t 1398 (by decide +kernel) (by decide +kernel)⟩
theorem gm_J0_1047 : gM RJ0 1047 yJ5_isLatin1_aae02 cJ5_isLatin1_aae02 1 (some .boolean) 0 ∧ Cond.instanceMethod yJ5_isLatin1_aae02 ∈ WG := ⟨⟨wg_t 1405 (by decide +kernel) (by decide +kernel), wg_t 1284 (by decide +kernel) (by decide +kernel), wg_t 9 (by decide +kernel) (by decide +kernel), by decide +kernel⟩, wg_t 1281 (by decide +kernel) (by decide +kernel)⟩
theorem lm_J0_212 : Cond.methodLink RJ0 212 arraycopyName ∈ WG := wg_t 1352 (by decide +kernel) (by decide +kernel)
theorem sel_getValue : Cond.selects RJ4 yJ5_getValue_6d5f1 yJ5_getValue_6d5f1 ∈ WG := wg_t 1395 (by decide +kernel) (by decide +kernel)
theorem zsel_putStringAt {l : Launch} {s0 s : State} {b B : Nat} {D : va_G} {T : Nat → ClassId} {X : Nat → Prop} {args : Array Value} (F : FX l s0 b D T B) (hk : KC s0 X s) : (Cond.selects RJ4 yJ5_putStringAt_47b60 yJ5_putStringAt_47b60).before args s = true :=
  word_at hk.1 (Or.inl rfl) (sel_privC (args := #[.ref b]) (y2 := yJ5_isLatin1_aae02) ⟨by decide, by decide⟩ (F.2.1 _ (List.mem_append_right _ (List.mem_of_getElem? (i := 1283) (by decide +kernel)))) rfl (F.2.1 _ (List.mem_append_right _ (List.mem_of_getElem? (i := 1321) (by decide +kernel)))) (F.2.1 _ (List.mem_append_right _ (List.mem_of_getElem? (i := 1322) (by decide +kernel)))))
theorem zsel_inflateIfNeededFor {l : Launch} {s0 s : State} {b B : Nat} {D : va_G} {T : Nat → ClassId} {X : Nat → Prop} {args : Array Value} (F : FX l s0 b D T B) (hk : KC s0 X s) : (Cond.selects RJ4 yJ5_inflateIfNeededFor_a7421 yJ5_inflateIfNeededFor_a7421).before args s = true :=
  word_at hk.1 (Or.inl rfl) (sel_privC (args := #[.ref b]) (y2 := yJ5_isLatin1_aae02) ⟨by decide, by decide⟩ (F.2.1 _ (List.mem_append_right _ (List.mem_of_getElem? (i := 1283) (by decide +kernel)))) rfl (F.2.1 _ (List.mem_append_right _ (List.mem_of_getElem? (i := 1325) (by decide +kernel)))) (F.2.1 _ (List.mem_append_right _ (List.mem_of_getElem? (i := 1326) (by decide +kernel)))))
theorem lk_clone : Cond.methodLink RJ7 310 ⟨"[B", "clone", "()Ljava/lang/Object;"⟩ ∈ WG := wg_t 1271 (by decide +kernel) (by decide +kernel)
theorem sm_clone : Cond.sameMethod "[B" "java/lang/Object" "clone" "()Ljava/lang/Object;" ∈ WG := wg_t 1272 (by decide +kernel) (by decide +kernel)
theorem na_clone : Cond.native ⟨"java/lang/Object", "clone", "()Ljava/lang/Object;"⟩ ∈ WG := wg_t 1273 (by decide +kernel) (by decide +kernel)
theorem im_clone : Cond.instanceMethod ⟨"java/lang/Object", "clone", "()Ljava/lang/Object;"⟩ ∈ WG := wg_t 1274 (by decide +kernel) (by decide +kernel)
theorem se_clone : Cond.selects "[B" ⟨"[B", "clone", "()Ljava/lang/Object;"⟩ ⟨"java/lang/Object", "clone", "()Ljava/lang/Object;"⟩ ∈ WG := wg_t 1275 (by decide +kernel) (by decide +kernel)
theorem cl_J7_311 : Cond.classLink RJ7 311 "[B" ∈ WG := wg_t 1277 (by decide +kernel) (by decide +kernel)
theorem ca_clone : Cond.castable "[B" "java/lang/Cloneable" ∈ lw_tbl := (List.mem_append_right _ (List.mem_of_getElem? (i := 1276) (by decide +kernel)))
theorem cl_J4_18 : Cond.classLink RJ4 18 RJ0 ∈ WG ∧ Cond.instantiable RJ0 4 ∈ WG ∧ Cond.initialized RJ0 ∈ WG := ⟨wg_t 1384 (by decide +kernel) (by decide +kernel), wg_t 570 (by decide +kernel) (by decide +kernel), wg_t 11 (by decide +kernel) (by decide +kernel)⟩
abbrev rmh0 : Room := { frames := 4, cells := 0, slots := 0, locals := 100 }
abbrev rmh1 : Room := { frames := 6, cells := 0, slots := 0, locals := 150 }
abbrev rmh2 : Room := { frames := 9, cells := 1, slots := 300, locals := 230 }
abbrev rmh3 : Room := { frames := 10, cells := 1, slots := 300, locals := 270 }
/-- a String at a of the letters t; it and its bytes are none of A's -/
def SVA (A : Nat → Prop) (a : Nat) (t : List Nat) (U : State) (H : Heap) : Prop := t.length < 2 ^ 31 ∧ (∀ j, j < t.length → t.getD j 0 < 256) ∧ ∃ v, va_O "java/lang/String" a A U H ∧ va_OF "java/lang/String" "coder" "B" (.int 0) a A U H ∧ va_OF "java/lang/String" "value" "[B" (.ref v) a A U H ∧ va_T .byte v t.length (fun j => .int (sb_b (t.getD j 0))) A U H
theorem SVA.moved {A : Nat → Prop} {a : Nat} {t : List Nat} {u U : State} {H : Heap} (hvm : u.vm.Alike U.vm) (h : SVA A a t u H) : SVA A a t U H := by
  obtain ⟨h0, h1, v, h2, h3, h4, h5⟩ := h
  exact ⟨h0, h1, v, va_O.moved hvm h2, va_OF.moved hvm h3, va_OF.moved hvm h4, va_T.moved hvm h5⟩
theorem SVA.kept {A : Nat → Prop} {a : Nat} {t : List Nat} {U : State} {H H1 : Heap} (h : SVA A a t U H) (hq : ∀ z : Nat, z < H.size → ¬ A z → H1[z]? = H[z]?) : SVA A a t U H1 := by
  obtain ⟨h0, h1, v, h2, h3, h4, h5⟩ := h
  exact ⟨h0, h1, v, h2.kept hq, h3.kept hq, h4.kept hq, h5.kept hq⟩
theorem SVA.narrow {A A2 : Nat → Prop} {a : Nat} {t : List Nat} {U : State} {H : Heap} (h : SVA A a t U H) (hA : ∀ q, A2 q → A q) : SVA A2 a t U H := by
  obtain ⟨h0, h1, v, h2, h3, h4, h5⟩ := h
  exact ⟨h0, h1, v, h2.narrow hA, h3.narrow hA, h4.narrow hA, h5.narrow hA⟩
theorem SVA.sv {A : Nat → Prop} {a : Nat} {t : List Nat} {U : State} {H : Heap} (h : SVA A a t U H) : SV a t.length (fun j => t.getD j 0) U H := h.narrow (A2 := NF) (fun q (z : False) => z.elim)
theorem SVA_of {args : Array Value} {s : State} {D : va_G} {ws : va_W} {H : Heap} {A : Nat → Prop} {a v q0 q1 : Nat} {T : Nat → ClassId} {t : List Nat} {row : Nat → Int32} {x y : Int32} (hts : ∀ w ∈ WG, w.before args s = true) (hK : va_K D vwCl (tysG T) s) (hP : va_P D vwCl ws H) (he : ws[q0]? = some (a, .inr (0, [.ref v, .int 0, .int x, .int y]))) (hv : ws[q1]? = some (v, .inl (T 7, t.length, .inl row))) (hn : t.length < 2 ^ 31) (ht : ∀ j, j < t.length → t.getD j 0 < 256 ∧ row j = sb_b (t.getD j 0)) (hA1 : ¬ A a) (hA2 : ¬ A v) : SVA A a t s H := by
  obtain ⟨r, h1, cell, c1, c2, c3, c4⟩ := hP q0 _ he
  have hr : r = (RJ0, TJ0, 4) := Option.some.inj (h1.symm.trans rfl)
  subst hr
  obtain ⟨hS, hfc, kC, hkC, hkind⟩ := hK.1 0 _ (rfl : vwCl[0]? = some (RJ0, TJ0, 4))
  have fld : ∀ k, k < 4 → va_OF (TJ0 k).1 (TJ0 k).2.1 (TJ0 k).2.2.1 (vp_V [.ref v, .int 0, .int x, .int y] k) a A s H := fun k hk => by
    obtain ⟨cf, kf, fi, f, hi, hsl⟩ := hS k hk
    exact ⟨cf, kf, fi, f, cell, hi, (u_facts hfc hkC (u_lays hts uw_J0 hk) hi).1, c1, (by rw [c3]; exact fun h => by cases h), (by rw [hsl, c4 k hk]), hA1⟩
  refine ⟨hn, fun j hj => (ht j hj).1, v, ⟨cell, c1, (by rw [c3]; rfl), (by rw [c2]; exact hfc), hA1⟩, fld 1 (by decide), fld 0 (by decide), ?_⟩
  have hb := hP q1 _ hv
  refine ⟨arrV (T 7) t.length (fun j => .int (row j)), hb, ?_, ?_, ?_, ?_, fun j hj => ?_, hA2⟩
  · exact ((hK.2 7 _ (rfl : (tysG T)[7]? = some (T 7, .byte))).1 t.length (fun j => .int (row j)))
  · exact fun h => by cases h
  · rw [arrV_size]; exact Nat.le_refl _
  · rw [arrV_size]
  · rw [arrV_read _ _ hj, (ht j hj).2]
def KA (s0 : State) (X A : Nat → Prop) (a : Nat) (t : List Nat) (U : State) : Prop := KC s0 X U ∧ SVA A a t U U.heap
theorem KA_blind {s0 : State} {X A : Nat → Prop} {a : Nat} {t : List Nat} : gBlind (KA s0 X A a t) := fun U g mk ar h => h
section JST
variable {l : Launch} {s0 : State} {b B : Nat} {D : va_G} {T : Nat → ClassId} {X : Nat → Prop} {H0 : Heap} {sb v cap n a : Nat} {row : Nat → Int32} {mb : Int32} {t : List Nat} {A : Nat → Prop}
set_option maxHeartbeats 4000000 in
set_option maxRecDepth 100000 in
theorem metJ5_inflateIf (F : FX l s0 b D T B) {n2 : Nat} {t2 : Nat → Nat} : gMet l yJ5_inflateIfNeededFor_a7421 cJ5_inflateIfNeededFor_a7421 2 none rms1 [.ref sb, .ref a] (eqH H0) (fun U => KV s0 X a n2 t2 U ∧ va_P D vwCl (SBp T sb v cap row mb (nI n)) U.heap) none (eqH H0) NF 0 0 := by
  refine gMet_of RJ5 (by decide +kernel) rfl (Nat.le_of_ble_eq_true rfl) ?_
  intro p e s m below meth c ls hx hb hr hlocks hml hown hts hnm hW hk hl hS
  obtain ⟨hkv, hP⟩ := hk
  have hC := FX_C F hkv.1 hx hb hown hts
  have hK := hC.2.2.2.2
  have hl : lv_has ls 2 [(0, .ref sb), (1, .ref a)] := hl
  refine va_gets hx hb (zCS F hkv.1) hS hown (hts _ fj_J5_18) (fun _ h => h) dJ5_inflateIfNeededFor_a7421_0 ?_
  refine lv_if_eq (tgt := 21) hx hb dJ5_inflateIfNeededFor_a7421_3 (by decide) (fun h => absurd h (by decide)) (fun _ => ?_)
  refine lv_aload_n hx hb dJ5_inflateIfNeededFor_a7421_6 rfl (lv_at hl 0 rfl) ?_
  refine va_get (C := RJ4) (T := TJ4) (N := 4) (ci := 1) hx hb hts uw_J4 hown hK hP 0 rfl rfl 1 (by decide) (hts _ fj_J5_22) (fun _ h => h) (v := .int 0) rfl dJ5_inflateIfNeededFor_a7421_7 ?_
  refine lv_aload_n hx hb dJ5_inflateIfNeededFor_a7421_10 rfl (lv_at hl 1 rfl) ?_
  have hO : ∃ v, va_O "java/lang/String" a NF s s.heap ∧ va_OF "java/lang/String" "coder" "B" (.int 0) a NF s s.heap ∧ va_OF "java/lang/String" "value" "[B" (.ref v) a NF s s.heap ∧ _ := hkv.2.2.2
  obtain ⟨v2, hO, -⟩ := hO
  refine gw_callV (As := []) (rest := [.int 0]) hC hml hS hW (KV_at hkv.1 (vS_n hS) F.2.2.2.2 hkv.2) KV_blind (metJ0_coder (X := X) F) ml_J5_40 (by obtain ⟨cell, h1, h2, h3, -⟩ := hO; exact ⟨cell, h1, h2, h3⟩) (fun _ h => h) ⟨rfl, rfl, (Nat.le_of_ble_eq_true rfl), (Nat.le_of_ble_eq_true rfl)⟩ rfl hl.1 rfl (Nat.le_of_ble_eq_true rfl) dJ5_inflateIfNeededFor_a7421_11 ⟨(Nat.le_of_ble_eq_true rfl), (Nat.le_of_ble_eq_true rfl)⟩ (fun H locs hW hS _ _ => ?_)
  refine lv_icmp_eq (tgt := 21) hx hb dJ5_inflateIfNeededFor_a7421_14 (by decide) (fun _ => ?_) (fun h => absurd rfl h)
  exact gw_vret hx hb hr hlocks hW hS (Nat.le_of_ble_eq_true rfl) (Nat.le_of_ble_eq_true rfl) dJ5_inflateIfNeededFor_a7421_21
set_option maxHeartbeats 4000000 in
set_option maxRecDepth 100000 in
theorem metJ0_getBytes (F : FX l s0 b D T B) {i w : Nat} (hw0 : s0.heap.size ≤ w) (hi : i + t.length ≤ cap) (hcap : cap ≤ 300) : gMet l yJ0_getBytes_840e7 cJ0_getBytes_840e7 4 none rmh0 [.ref a, .ref w, .int (nI i), .int 0] (fun H => va_P D vwCl [(w, .inl (T 7, cap, .inl row))] H) (KA s0 X (fun z => z = w) a t) none (fun H => va_P D vwCl [(w, .inl (T 7, cap, .inl (va_cpy (fun j => sb_b (t.getD j 0)) row 0 i t.length)))] H) (fun z => z = w) 0 0 := by
  refine gMet_of RJ0 (by decide +kernel) rfl (Nat.le_of_ble_eq_true rfl) ?_
  intro p e s m below meth c ls hx hb hr hlocks hml hown hts hnm hP hka hl hS
  obtain ⟨hk, hV⟩ := hka
  have hsv := hV.sv
  have hC := FX_C F hk hx hb hown hts
  have hK := hC.2.2.2.2
  obtain ⟨hn9, h256, v2, hO, hC0, hVl, hT⟩ := id hV
  have hl : lv_has ls 4 [(0, .ref a), (1, .ref w), (2, .int (nI i)), (3, .int 0)] := hl
  have hAw : ∀ z, (fun z => z = w) z → s0.heap.size ≤ z := fun z hz => by have hz : z = w := hz; omega
  refine lv_aload_n hx hb dJ0_getBytes_840e7_0 rfl (lv_at hl 0 rfl) ?_
  have hS0 := hS
  refine gw_callV (As := []) (rest := []) hC hml hS (Wp := eqH s.heap) rfl (fun U hU hWm => ⟨KC_gen hk hAw hS0 U hU hWm, by rw [hU]; exact hsv.moved hWm.alike⟩) KV_blind (metJ0_coder (X := X) F) ml_J0_335 (by obtain ⟨cell, h1, h2, h3, -⟩ := hO; exact ⟨cell, h1, h2, h3⟩) (fun q (z : False) => z.elim) ⟨rfl, rfl, (Nat.le_of_ble_eq_true rfl), (Nat.le_of_ble_eq_true rfl)⟩ rfl hl.1 rfl (Nat.le_of_ble_eq_true rfl) dJ0_getBytes_840e7_1 ⟨(Nat.le_of_ble_eq_true rfl), (Nat.le_of_ble_eq_true rfl)⟩ (fun H locs hW hS _ _ => ?_)
  cases hW
  refine lv_iload_n hx hb dJ0_getBytes_840e7_4 rfl (lv_at hl 3 rfl) ?_
  refine lv_icmp_ne (tgt := 28) hx hb dJ0_getBytes_840e7_5 (by decide) (fun h => absurd rfl h) (fun _ => ?_)
  refine lv_aload_n hx hb dJ0_getBytes_840e7_8 rfl (lv_at hl 0 rfl) ?_
  refine vk_getf hx hb hVl hS hown (hts _ fj_J0_9) (fun _ h => h) dJ0_getBytes_840e7_9 ?_
  refine lv_iconst (v := 0) hx hb dJ0_getBytes_840e7_12 (by decide) ?_
  refine lv_aload_n hx hb dJ0_getBytes_840e7_13 rfl (lv_at hl 1 rfl) ?_
  refine lv_iload_n hx hb dJ0_getBytes_840e7_14 rfl (lv_at hl 2 rfl) ?_
  refine lv_iload_n hx hb dJ0_getBytes_840e7_15 rfl (lv_at hl 3 rfl) ?_
  refine lv_ishl hx hb dJ0_getBytes_840e7_16 ?_
  have e0 : nI i <<< ((0 : Int32) &&& 31) = nI i := sb_shl0 _
  rw [e0]
  refine lv_aload_n hx hb dJ0_getBytes_840e7_17 rfl (lv_at hl 0 rfl) ?_
  refine vk_getf hx hb hVl hS hown (hts _ fj_J0_9) (fun _ h => h) dJ0_getBytes_840e7_18 ?_
  refine va_tlen hx hb hT hS (v := nI t.length) rfl dJ0_getBytes_840e7_21 ?_
  have e1 : (nI i).toNatClampNeg = i := nI_clamp (by omega)
  have e2 : (nI t.length).toNatClampNeg = t.length := nI_clamp hn9
  refine vk_copyt (A := fun z => z = w) hx hb (hml.trans hl.1.symm) hown (hts _ lm_J0_212) (hts _ lb_copy.1) (hts _ lb_copy.2.1) (hts _ lb_copy.2.2) hK hP ⟨fun x y p q hp hq _ => by
      have h1 := (List.getElem?_eq_some_iff.mp hp).1
      have h2 := (List.getElem?_eq_some_iff.mp hq).1
      simp at h1 h2
      omega, fun k q hq => by
      have h1 := (List.getElem?_eq_some_iff.mp hq).1
      simp at h1
      subst h1
      cases hq
      rfl⟩ hS (f := fun j => sb_b (t.getD j 0)) hT 0 7 (c1 := T 7) (n1 := cap) (g := row) rfl rfl (by decide) (nI_pos (by omega)) (nI_pos hn9) (by rw [e2, sb_cl0]; omega) (by rw [e1, e2]; omega) (fun k _ => pk_fb _) (Nat.le_of_ble_eq_true rfl) (Nat.le_of_ble_eq_true rfl) dJ0_getBytes_840e7_22 (fun H2 locs2 hP2 _ hS2 => ?_)
  rw [e1, e2, sb_cl0] at hP2
  refine lv_goto (tgt := 43) hx hb dJ0_getBytes_840e7_25 (by decide) ?_
  exact gw_vret hx hb hr hlocks hP2 hS2 (Nat.le_of_ble_eq_true rfl) (Nat.le_of_ble_eq_true rfl) dJ0_getBytes_840e7_43
set_option maxHeartbeats 4000000 in
set_option maxRecDepth 100000 in
theorem metJ5_putStringAt (F : FX l s0 b D T B) (hne : sb ≠ v) (hv0 : s0.heap.size ≤ v) (hcap : cap ≤ 300) (hq : n + t.length ≤ cap) : gMet l yJ5_putStringAt_47b60 cJ5_putStringAt_47b60 3 none rmh1 [.ref sb, .int (nI n), .ref a] (fun H => va_P D vwCl (SBp T sb v cap row mb (nI n)) H) (KA s0 X (fun z => z = v) a t) none (fun H => va_P D vwCl (SBp T sb v cap (va_cpy (fun j => sb_b (t.getD j 0)) row 0 n t.length) mb (nI n)) H) (fun z => z = v) 0 0 := by
  refine gMet_of RJ5 (by decide +kernel) rfl (Nat.le_of_ble_eq_true rfl) ?_
  intro p e s m below meth c ls hx hb hr hlocks hml hown hts hnm hP hka hl hS
  obtain ⟨hk, hV⟩ := hka
  have hC := FX_C F hk hx hb hown hts
  have hK := hC.2.2.2.2
  have hl : lv_has ls 3 [(0, .ref sb), (1, .int (nI n)), (2, .ref a)] := hl
  have hAw : ∀ z, (fun z => z = v) z → s0.heap.size ≤ z := fun z hz => by have hz : z = v := hz; omega
  refine lv_aload_n hx hb dJ5_putStringAt_47b60_0 rfl (lv_at hl 0 rfl) ?_
  refine lv_aload_n hx hb dJ5_putStringAt_47b60_1 rfl (lv_at hl 2 rfl) ?_
  have hS0 := hS
  refine gw_callVC (C := RJ4) (As := [.ref a]) (rest := []) hC hml hS (Wp := eqH s.heap) rfl (fun U hU hWm => ⟨⟨KC_gen hk hAw hS0 U hU hWm, by rw [hU]; exact hV.sv.moved hWm.alike⟩, by rw [hU]; exact hP⟩) (fun U g mk ar h => h) (metJ5_inflateIf (X := X) F) gm_J5_397 (zsel_inflateIfNeededFor F hk) (sb_recv (q0 := 0) hK hP rfl) (fun q (z : False) => z.elim) ⟨rfl, rfl, (Nat.le_of_ble_eq_true rfl), (Nat.le_of_ble_eq_true rfl)⟩ rfl hl.1 rfl (Nat.le_of_ble_eq_true rfl) dJ5_putStringAt_47b60_2 ⟨(Nat.le_of_ble_eq_true rfl), (Nat.le_of_ble_eq_true rfl)⟩ (fun H locs hW hS _ _ => ?_)
  cases hW
  refine lv_aload_n hx hb dJ5_putStringAt_47b60_5 rfl (lv_at hl 2 rfl) ?_
  refine lv_aload_n hx hb dJ5_putStringAt_47b60_6 rfl (lv_at hl 0 rfl) ?_
  refine va_get (C := RJ4) (T := TJ4) (N := 4) (ci := 1) hx hb hts uw_J4 hown hK hP 0 rfl rfl 0 (by decide) (hts _ fj_J5_15) (fun _ h => h) (v := .ref v) rfl dJ5_putStringAt_47b60_7 ?_
  refine lv_iload_n hx hb dJ5_putStringAt_47b60_10 rfl (lv_at hl 1 rfl) ?_
  refine lv_aload_n hx hb dJ5_putStringAt_47b60_11 rfl (lv_at hl 0 rfl) ?_
  refine va_get (C := RJ4) (T := TJ4) (N := 4) (ci := 1) hx hb hts uw_J4 hown hK hP 0 rfl rfl 1 (by decide) (hts _ fj_J5_22) (fun _ h => h) (v := .int 0) rfl dJ5_putStringAt_47b60_12 ?_
  have hPv : va_P D vwCl [(v, .inl (T 7, cap, .inl row))] s.heap := fun k x hx9 => by
    have h1 := (List.getElem?_eq_some_iff.mp hx9).1
    simp at h1
    subst h1
    cases hx9
    exact hP 1 _ rfl
  obtain ⟨cO, o1, o2, o3, -⟩ := hV.2.2.choose_spec.1
  have hS1 := hS
  refine gw_callV (As := [.ref v, .int (nI n), .int 0]) (rest := []) hC hml hS (Wp := fun H => va_P D vwCl [(v, .inl (T 7, cap, .inl row))] H) hPv (fun U hU hWm => ⟨KC_gen hk hAw hS1 U hU hWm, by rw [hU]; exact hV.moved hWm.alike⟩) KA_blind (metJ0_getBytes (X := X) F hv0 hq hcap) ml_J5_399 ⟨cO, o1, o2, o3⟩ (fun _ h => h) ⟨rfl, rfl, (Nat.le_of_ble_eq_true rfl), (Nat.le_of_ble_eq_true rfl)⟩ rfl hl.1 rfl (Nat.le_of_ble_eq_true rfl) dJ5_putStringAt_47b60_15 ⟨(Nat.le_of_ble_eq_true rfl), (Nat.le_of_ble_eq_true rfl)⟩ (fun H locs hW hS _ hk1 => ?_)
  refine gw_vret hx hb hr hlocks (fun k x hx9 => ?_) hS (Nat.le_of_ble_eq_true rfl) (Nat.le_of_ble_eq_true rfl) dJ5_putStringAt_47b60_18
  have h1 := (List.getElem?_eq_some_iff.mp hx9).1
  have h1 : k < 2 := h1
  rcases (show k = 0 ∨ k = 1 by omega) with rfl | rfl
  · cases hx9
    exact (hP 0 _ rfl).kept (hk1 _ (hP 0 _ rfl).lt (fun z => hne z))
  · cases hx9
    exact hW 0 _ rfl
set_option maxHeartbeats 4000000 in
set_option maxRecDepth 100000 in
theorem metJ5_appendS (F : FX l s0 b D T B) {h0 : Nat} {t0 : Nat → Nat} (hne : sb ≠ v) (hsb : s0.heap.size ≤ sb) (hv0 : s0.heap.size ≤ v) (hh0 : s0.heap.size ≤ h0) (hn : n ≤ cap) (hcap : cap ≤ 300) (hq3 : sb_cap (n + t.length) cap ≤ 300) (hfit : sb_Fit row) (hL : sb_Lat t0 n row) : gMet l yJ5_append_cf1ce cJ5_append_cf1ce 3 (some (.object RJ5)) rmh2 [.ref sb, .ref a] (fun H => H.size = h0 ∧ va_P D vwCl (SBp T sb v cap row mb (nI n)) H) (KA s0 X (AS sb v h0) a t) (some (.ref sb)) (WqA D T sb v h0 (sb_cap (n + t.length) cap) (sb_cat t0 n (fun j => t.getD j 0)) (n + t.length)) (AS sb v h0) 1 300 := by
  refine gMet_of RJ5 (by decide +kernel) rfl (Nat.le_of_ble_eq_true rfl) ?_
  intro p e s m below meth c ls hx hb hr hlocks hml hown hts hnm hW hka hl hS
  obtain ⟨hk, hV⟩ := hka
  obtain ⟨hz0, hP⟩ := hW
  have hC := FX_C F hk hx hb hown hts
  have hK := hC.2.2.2.2
  have hge := sb_cap_ge (n + t.length) cap
  obtain ⟨hn9, h256, v2, hO, hC0, hVl, hT⟩ := id hV
  have hl : lv_has ls 3 [(0, .ref sb), (1, .ref a)] := hl
  have hAS : ∀ z, AS sb v h0 z → s0.heap.size ≤ z := fun z hz => hz.elim (fun e => e ▸ hsb) (fun hz => hz.elim (fun e => e ▸ hv0) (fun e => Nat.le_trans hh0 e))
  have hsbl : sb < h0 := hz0 ▸ (hP 0 _ rfl).lt
  refine lv_aload_n hx hb dJ5_append_cf1ce_0 rfl (lv_at hl 1 rfl) ?_
  refine lv_ifnonnull (tgt := 9) hx hb dJ5_append_cf1ce_1 (by decide) ?_
  refine lv_aload_n hx hb dJ5_append_cf1ce_9 rfl (lv_at hl 1 rfl) ?_
  obtain ⟨cO, o1, o2, o3, -⟩ := id hO
  have hS0 := hS
  refine gw_callV (As := []) (rest := []) hC hml hS (Wp := eqH s.heap) rfl (fun U hU hWm => ⟨KC_gen hk hAS hS0 U hU hWm, by rw [hU]; exact hV.sv.moved hWm.alike⟩) KV_blind (metJ0_length (X := X) F) ml_J5_32 ⟨cO, o1, o2, o3⟩ (fun q (z : False) => z.elim) ⟨rfl, rfl, (Nat.le_of_ble_eq_true rfl), (Nat.le_of_ble_eq_true rfl)⟩ rfl hl.1 rfl (Nat.le_of_ble_eq_true rfl) dJ5_append_cf1ce_10 ⟨(Nat.le_of_ble_eq_true rfl), (Nat.le_of_ble_eq_true rfl)⟩ (fun H locs hW hS _ _ => ?_)
  cases hW
  refine lv_istore_n (lv' := [(2, .int (nI t.length)), (0, .ref sb), (1, .ref a)]) hx hb dJ5_append_cf1ce_13 rfl hl (by decide) rfl (fun ls hl => ?_)
  refine lv_aload_n hx hb dJ5_append_cf1ce_14 rfl (lv_at hl 1 rfl) ?_
  refine lv_aload_n hx hb dJ5_append_cf1ce_15 rfl (lv_at hl 1 rfl) ?_
  refine va_get (C := RJ4) (T := TJ4) (N := 4) (ci := 1) hx hb hts uw_J4 hown hK hP 0 rfl rfl 3 (by decide) (hts _ fj_J5_79) (fun _ h => h) (v := .int (nI n)) rfl dJ5_append_cf1ce_16 ?_
  refine lv_iload_n hx hb dJ5_append_cf1ce_19 rfl (lv_at hl 0 rfl) ?_
  refine lv_iadd hx hb dJ5_append_cf1ce_20 ?_
  rw [nI_add]
  have hSa := hS
  refine gw_callVC (C := RJ4) (As := [.int (nI (n + t.length))]) (rest := []) hC hml hS (Wp := fun H => H.size = h0 ∧ va_P D vwCl (SBp T sb v cap row mb (nI n)) H) ⟨hz0, hP⟩ (KC_gen hk hAS hSa) KC_blind (metJ5_ensure (X := X) F hne hsb hv0 hh0 hcap hq3 hfit) gm_J5_100 (zsel_ensureCapacityInternal F hk) (sb_recv (q0 := 0) hK hP rfl) (fun _ h => h) ⟨rfl, rfl, (Nat.le_of_ble_eq_true rfl), (Nat.le_of_ble_eq_true rfl)⟩ rfl hl.1 rfl (Nat.le_of_ble_eq_true rfl) dJ5_append_cf1ce_21 ⟨(Nat.le_of_ble_eq_true rfl), (Nat.le_of_ble_eq_true rfl)⟩ (fun H1 locs1 hW1 hS1 hz1 hk1 => ?_)
  obtain ⟨v1, row1, hv1, hf1, hag, hP1⟩ := hW1
  have hne1 : sb ≠ v1 := hv1.elim (fun e => e ▸ hne) (fun e => by omega)
  have hA1 : AS sb v h0 v1 := hv1.elim (fun e => Or.inr (Or.inl e)) (fun e => Or.inr (Or.inr e))
  have hV1 : SVA (AS sb v h0) a t s H1 := hV.kept hS1.2.1
  refine lv_aload_n hx hb dJ5_append_cf1ce_24 rfl (lv_at hl 1 rfl) ?_
  refine lv_aload_n hx hb dJ5_append_cf1ce_25 rfl (lv_at hl 1 rfl) ?_
  refine va_get (C := RJ4) (T := TJ4) (N := 4) (ci := 1) hx hb hts uw_J4 hown hK hP1 0 rfl rfl 3 (by decide) (hts _ fj_J5_79) (fun _ h => h) (v := .int (nI n)) rfl dJ5_append_cf1ce_26 ?_
  refine lv_aload_n hx hb dJ5_append_cf1ce_29 rfl (lv_at hl 2 rfl) ?_
  refine gw_callVC (C := RJ4) (As := [.int (nI n), .ref a]) (rest := []) hC hml hS1 (Wp := fun H => va_P D vwCl (SBp T sb v1 (sb_cap (n + t.length) cap) row1 mb (nI n)) H) hP1 (fun U hU hWm => ⟨KC_gen hk hAS hS1 U hU hWm, by rw [hU]; exact (hV1.moved hWm.alike).narrow (fun q (z : q = v1) => z ▸ hA1)⟩) KA_blind (metJ5_putStringAt (X := X) F hne1 (hAS _ hA1) hq3 hge) gm_J5_208 (zsel_putStringAt F hk) (sb_recv (q0 := 0) hK hP1 rfl) (fun q (z : q = v1) => z ▸ hA1) ⟨rfl, rfl, (Nat.le_of_ble_eq_true rfl), (Nat.le_of_ble_eq_true rfl)⟩ rfl hl.1 rfl (Nat.le_of_ble_eq_true rfl) dJ5_append_cf1ce_30 ⟨(Nat.le_of_ble_eq_true rfl), (Nat.le_of_ble_eq_true rfl)⟩ (fun H2 locs2 hP2 hS2 _ _ => ?_)
  refine lv_aload_n hx hb dJ5_append_cf1ce_33 rfl (lv_at hl 1 rfl) ?_
  refine lv_dup hx hb dJ5_append_cf1ce_34 rfl ?_
  refine va_get (C := RJ4) (T := TJ4) (N := 4) (ci := 1) hx hb hts uw_J4 hown hK hP2 0 rfl rfl 3 (by decide) (hts _ fj_J5_79) (fun _ h => h) (v := .int (nI n)) rfl dJ5_append_cf1ce_35 ?_
  refine lv_iload_n hx hb dJ5_append_cf1ce_38 rfl (lv_at hl 0 rfl) ?_
  refine lv_iadd hx hb dJ5_append_cf1ce_39 ?_
  rw [nI_add]
  refine va_put (C := RJ4) (T := TJ4) (N := 4) (ci := 1) hx hb hts uw_J4 tyJ4 tyJ4_ok nmJ4 hown hK hP2 (SBp_D (A := AS sb v h0) hne1 (Or.inl rfl) hA1) hS2 0 (fs := [.ref v1, .int 0, .int mb, .int (nI n)]) rfl rfl 3 (by decide) (hts _ fj_J5_79) (fun _ h => h) rfl (ty := .int) (tyJ4_ok 3 (by decide)) rfl rfl (Nat.le_of_ble_eq_true rfl) dJ5_append_cf1ce_40 (fun H3 locs3 hP3 _ hS3 => ?_)
  refine lv_aload_n hx hb dJ5_append_cf1ce_43 rfl (lv_at hl 1 rfl) ?_
  refine gw_aret hx hb hr hlocks ⟨v1, _, mb, hv1, sb_fitC (fun j => pk_fb _) hf1, ?_, hP3⟩ hS3 (Nat.le_of_ble_eq_true rfl) (Nat.le_of_ble_eq_true rfl) dJ5_append_cf1ce_44
  refine sb_latPut hL (fun j hj => ?_) (fun i hi => ⟨h256 i hi, ?_⟩)
  · show (if n ≤ j ∧ j < n + t.length then _ else row1 j) = row j
    rw [if_neg (fun z => by omega)]
    exact hag j (by omega)
  · show (if n ≤ n + i ∧ n + i < n + t.length then sb_b (t.getD (0 + (n + i - n)) 0) else _) = _
    rw [if_pos ⟨by omega, by omega⟩, show 0 + (n + i - n) = i by omega]
set_option maxHeartbeats 4000000 in
set_option maxRecDepth 100000 in
theorem metJ4_appendS (F : FX l s0 b D T B) {h0 : Nat} {t0 : Nat → Nat} (hne : sb ≠ v) (hsb : s0.heap.size ≤ sb) (hv0 : s0.heap.size ≤ v) (hh0 : s0.heap.size ≤ h0) (hn : n ≤ cap) (hcap : cap ≤ 300) (hq3 : sb_cap (n + t.length) cap ≤ 300) (hfit : sb_Fit row) (hL : sb_Lat t0 n row) : gMet l yJ4_append_15ec4 cJ4_append_15ec4 2 (some (.object RJ4)) rmh3 [.ref sb, .ref a] (fun H => H.size = h0 ∧ va_P D vwCl (SBp T sb v cap row mb (nI n)) H) (KA s0 X (AS sb v h0) a t) (some (.ref sb)) (WqA D T sb v h0 (sb_cap (n + t.length) cap) (sb_cat t0 n (fun j => t.getD j 0)) (n + t.length)) (AS sb v h0) 1 300 := by
  refine gMet_of RJ4 (by decide +kernel) rfl (Nat.le_of_ble_eq_true rfl) ?_
  intro p e s m below meth c ls hx hb hr hlocks hml hown hts hnm hW hka hl hS
  obtain ⟨hk, hV⟩ := hka
  have hC := FX_C F hk hx hb hown hts
  have hl : lv_has ls 2 [(0, .ref sb), (1, .ref a)] := hl
  have hAS : ∀ z, AS sb v h0 z → s0.heap.size ≤ z := fun z hz => hz.elim (fun e => e ▸ hsb) (fun hz => hz.elim (fun e => e ▸ hv0) (fun e => Nat.le_trans hh0 e))
  refine lv_aload_n hx hb dJ4_append_15ec4_0 rfl (lv_at hl 0 rfl) ?_
  refine lv_aload_n hx hb dJ4_append_15ec4_1 rfl (lv_at hl 1 rfl) ?_
  have hS0 := hS
  refine gw_callSU (As := [.ref a]) (rest := []) (sb_class hC.2.2.2.2) hC hml hS hW (fun U hU hWm => ⟨KC_gen hk hAS hS0 U hU hWm, by rw [hU]; exact hV.moved hWm.alike⟩) KA_blind (metJ5_appendS (X := X) F hne hsb hv0 hh0 hn hcap hq3 hfit hL) su_J4_29 (sb_recv (q0 := 0) hC.2.2.2.2 hW.2 rfl) (fun _ h => h) ⟨rfl, rfl, (Nat.le_of_ble_eq_true rfl), (Nat.le_of_ble_eq_true rfl)⟩ rfl hl.1 rfl (Nat.le_of_ble_eq_true rfl) dJ4_append_15ec4_2 ⟨(Nat.le_of_ble_eq_true rfl), (Nat.le_of_ble_eq_true rfl)⟩ (fun H locs hW hS _ _ => ?_)
  refine lv_pop hx hb dJ4_append_15ec4_5 rfl ?_
  refine lv_aload_n hx hb dJ4_append_15ec4_6 rfl (lv_at hl 0 rfl) ?_
  exact gw_aret hx hb hr hlocks hW hS (Nat.le_of_ble_eq_true rfl) (Nat.le_of_ble_eq_true rfl) dJ4_append_15ec4_7

/-- n bytes of row, at a -/
def PBc (D : va_G) (T : Nat → ClassId) (n : Nat) (row : Nat → Int32) : Nat → Heap → Prop := fun a H => ∃ row' : Nat → Int32, (∀ j, j < n → row' j = row j) ∧ va_P D vwCl [(a, .inl (T 7, n, .inl row'))] H
/-- a String of n bytes of row, at a -/
def PSn (D : va_G) (T : Nat → ClassId) (h0 n : Nat) (row : Nat → Int32) : Nat → Heap → Prop := fun a H => ∃ (w : Nat) (row' : Nat → Int32), h0 ≤ w ∧ (∀ j, j < n → row' j = row j) ∧ va_P D vwCl [(a, .inr (0, [.ref w, .int 0, .int 0, .int 0])), (w, .inl (T 7, n, .inl row'))] H
theorem pair_D {A : Nat → Prop} {a w : Nat} {x y : va_E} (h : a ≠ w) (h1 : A a) (h2 : A w) : va_D A [(a, x), (w, y)] := ⟨fun i j p q hp hq e => by
    have h3 := (List.getElem?_eq_some_iff.mp hp).1
    have h4 := (List.getElem?_eq_some_iff.mp hq).1
    have h3 : i < 2 := h3
    have h4 : j < 2 := h4
    rcases (show i = 0 ∨ i = 1 by omega) with rfl | rfl <;> rcases (show j = 0 ∨ j = 1 by omega) with rfl | rfl
    · rfl
    · cases hp; cases hq; exact absurd e h
    · cases hp; cases hq; exact absurd e.symm h
    · rfl, fun k x hx => by
    have h3 := (List.getElem?_eq_some_iff.mp hx).1
    have h3 : k < 2 := h3
    rcases (show k = 0 ∨ k = 1 by omega) with rfl | rfl
    · cases hx; exact h1
    · cases hx; exact h2⟩
theorem one_D {A : Nat → Prop} {a : Nat} {x : va_E} (h1 : A a) : va_D A [(a, x)] := ⟨fun i j p q hp hq _ => by
    have h3 := (List.getElem?_eq_some_iff.mp hp).1
    have h4 := (List.getElem?_eq_some_iff.mp hq).1
    simp at h3 h4
    omega, fun k x hx => by
    have h3 := (List.getElem?_eq_some_iff.mp hx).1
    simp at h3
    subst h3
    cases hx
    exact h1⟩
theorem one_P {a : Nat} {x : va_E} {H : Heap} (h : va_at D vwCl (a, x) H) : va_P D vwCl [(a, x)] H := fun k q hq => by
  have h3 := (List.getElem?_eq_some_iff.mp hq).1
  simp at h3
  subst h3
  cases hq
  exact h
set_option maxHeartbeats 4000000 in
set_option maxRecDepth 100000 in
theorem metJ7_copyByteN (F : FX l s0 b D T B) (hn : n ≤ cap) (hcap : cap ≤ 300) (hfit : sb_Fit row) : gNMet l yJ7_copyOfRangeByte_39247 cJ7_copyOfRangeByte_39247 5 (some (.array .byte)) rmg1 [.ref v, .int 0, .int (nI n)] H0 (KS s0 X D [(v, .inl (T 7, cap, .inl row))]) (PBc D T n row) 1 300 := by
  refine gNMet_of RJ7 (by decide +kernel) rfl (Nat.le_of_ble_eq_true rfl) ?_
  intro p e s m below meth c ls hx hb hr hlocks hml hown hts hnm hH hks hl
  obtain ⟨hk, hPv⟩ := hks
  subst hH
  have hS : va_S (NA s.heap) s.heap s.heap [] := va_S.rf
  have hC := FX_C F hk hx hb hown hts
  have hK := hC.2.2.2.2
  have hl : lv_has ls 5 [(0, .ref v), (1, .int 0), (2, .int (nI n))] := hl
  have hbv : s.heap[v]? = some (arrV (T 7) cap (fun j => .int (row j))) := hPv 0 _ rfl
  have hlt : v < s.heap.size := (Array.getElem?_eq_some_iff.mp hbv).1
  have hTA : va_T .byte v cap (fun j => .int (row j)) (NA s.heap) s s.heap := ⟨arrV (T 7) cap (fun j => .int (row j)), hbv, ((hK.2 7 _ (rfl : (tysG T)[7]? = some (T 7, .byte))).1 cap (fun j => .int (row j))), fun h => (by cases h), by rw [arrV_size]; exact Nat.le_refl _, by rw [arrV_size], fun j hj => by rw [arrV_read _ _ hj], Nat.not_le.mpr hlt⟩
  refine lv_iload_n hx hb dJ7_copyOfRangeByte_39247_0 rfl (lv_at hl 1 rfl) ?_
  refine lv_iload_n hx hb dJ7_copyOfRangeByte_39247_1 rfl (lv_at hl 2 rfl) ?_
  refine gw_callS (As := [.int (nI 0), .int (nI n)]) (rest := []) hC hml hS (Wp := eqH s.heap) rfl (KC_na (X := X) hk hS) KC_blind (metJ7_checkLength (X := X) F (Nat.zero_le n) (by omega)) ml_J7_343 (fun q (z : False) => z.elim) ⟨rfl, rfl, (Nat.le_of_ble_eq_true rfl), (Nat.le_of_ble_eq_true rfl)⟩ rfl hl.1 rfl (Nat.le_of_ble_eq_true rfl) dJ7_copyOfRangeByte_39247_2 ⟨(Nat.le_of_ble_eq_true rfl), (Nat.le_of_ble_eq_true rfl)⟩ (fun H locs hW hS _ _ => ?_)
  cases hW
  refine lv_iload_n hx hb dJ7_copyOfRangeByte_39247_5 rfl (lv_at hl 2 rfl) ?_
  refine lv_iload_n hx hb dJ7_copyOfRangeByte_39247_6 rfl (lv_at hl 1 rfl) ?_
  refine lv_isub hx hb dJ7_copyOfRangeByte_39247_7 ?_
  have e1 : nI n - 0 = nI n := pk_sub (Nat.zero_le n)
  rw [e1]
  refine lv_istore_n (lv' := [(3, .int (nI n)), (0, .ref v), (1, .int 0), (2, .int (nI n))]) hx hb dJ7_copyOfRangeByte_39247_8 rfl hl (by decide) rfl (fun ls hl => ?_)
  refine lv_iload_n hx hb dJ7_copyOfRangeByte_39247_9 rfl (lv_at hl 0 rfl) ?_
  refine al_arr (ty := .byte) (t0 := 7) (cA := T 7) (n0 := n) (a0 := (n, .inl (fun _ => 0))) (ws := []) hC lac_byte rfl rfl (fun k q h => by cases h) hS rfl (nI_pos (by omega)) (nI_clamp (by omega)) (by show n * 1 ≤ _; omega) (Nat.le_of_ble_eq_true rfl) (by show 0 + 0 + n ≤ 300; omega) dJ7_copyOfRangeByte_39247_10 (fun H1 hP hS hz hk1 => ?_)
  refine lv_astore (lv' := [(4, .ref s.heap.size), (3, .int (nI n)), (0, .ref v), (1, .int 0), (2, .int (nI n))]) hx hb dJ7_copyOfRangeByte_39247_12 hl (by decide) rfl (fun ls hl => ?_)
  refine lv_aload_n hx hb dJ7_copyOfRangeByte_39247_14 rfl (lv_at hl 2 rfl) ?_
  refine lv_iload_n hx hb dJ7_copyOfRangeByte_39247_15 rfl (lv_at hl 3 rfl) ?_
  refine lv_aload hx hb dJ7_copyOfRangeByte_39247_16 (lv_at hl 0 rfl) ?_
  refine lv_iconst (v := 0) hx hb dJ7_copyOfRangeByte_39247_18 (by decide) ?_
  refine lv_aload_n hx hb dJ7_copyOfRangeByte_39247_19 rfl (lv_at hl 2 rfl) ?_
  refine va_tlen hx hb hTA hS (v := nI cap) rfl dJ7_copyOfRangeByte_39247_20 ?_
  refine lv_iload_n hx hb dJ7_copyOfRangeByte_39247_21 rfl (lv_at hl 3 rfl) ?_
  refine lv_isub hx hb dJ7_copyOfRangeByte_39247_22 ?_
  have e3 : nI cap - 0 = nI cap := pk_sub (Nat.zero_le cap)
  rw [e3]
  refine lv_iload_n hx hb dJ7_copyOfRangeByte_39247_23 rfl (lv_at hl 1 rfl) ?_
  refine gw_min hC (hml.trans hl.1.symm) lm_J7_304 lb_min.1 lb_min.2.1 lb_min.2.2 (Nat.le_of_ble_eq_true rfl) (Nat.le_of_ble_eq_true rfl) (Nat.le_of_ble_eq_true rfl) (by show 0 + 0 + n ≤ 300; omega) dJ7_copyOfRangeByte_39247_24 ?_
  have e2 : imin (nI cap) (nI n) = nI n := by
    rw [imin_nI (by omega) (by omega), Nat.min_eq_right hn]
  rw [e2]
  have ecl : (nI n).toNatClampNeg = n := nI_clamp (by omega)
  refine vk_copyt (A := NA s.heap) hx hb (hml.trans hl.1.symm) hown (hts _ lm_J7_150) (hts _ lb_copy.1) (hts _ lb_copy.2.1) (hts _ lb_copy.2.2) hK hP (one_D (Nat.le_refl _)) hS (f := row) hTA 0 7 (c1 := T 7) (n1 := n) (g := fun _ => 0) rfl rfl (by decide) (by decide) (nI_pos (by omega)) (by rw [ecl, sb_cl0]; omega) (by rw [ecl, sb_cl0]; omega) (fun k _ => hfit _) (Nat.le_of_ble_eq_true rfl) (Nat.le_of_ble_eq_true rfl) dJ7_copyOfRangeByte_39247_27 (fun H2 locs2 hP2 _ hS2 => ?_)
  refine lv_aload hx hb dJ7_copyOfRangeByte_39247_30 (lv_at hl 0 rfl) ?_
  rw [ecl, sb_cl0] at hP2
  exact gn_aret hx hb hr (Or.inr ⟨_, rfl⟩) hlocks (Nat.le_refl _) ⟨_, fun j hj => sb_cpy0 hj, hP2⟩ rfl hS2 (Nat.le_of_ble_eq_true rfl) (by omega) dJ7_copyOfRangeByte_39247_32
set_option maxHeartbeats 4000000 in
set_option maxRecDepth 100000 in
theorem metJ7_copyRangeN (F : FX l s0 b D T B) (hn : n ≤ cap) (hcap : cap ≤ 300) (hfit : sb_Fit row) : gNMet l yJ7_copyOfRange_39247 cJ7_copyOfRange_39247 3 (some (.array .byte)) { frames := 5, cells := 1, slots := 300, locals := 130 } [.ref v, .int 0, .int (nI n)] H0 (KS s0 X D [(v, .inl (T 7, cap, .inl row))]) (PBc D T n row) 1 300 := by
  refine gNMet_of RJ7 (by decide +kernel) rfl (Nat.le_of_ble_eq_true rfl) ?_
  intro p e s m below meth c ls hx hb hr hlocks hml hown hts hnm hH hks hl
  obtain ⟨hk, hPv⟩ := hks
  subst hH
  have hS : va_S (NA s.heap) s.heap s.heap [] := va_S.rf
  have hC := FX_C F hk hx hb hown hts
  have hK := hC.2.2.2.2
  have hl : lv_has ls 3 [(0, .ref v), (1, .int 0), (2, .int (nI n))] := hl
  have hvl : v < s.heap.size := (hPv 0 _ rfl).lt
  refine lv_iload_n hx hb dJ7_copyOfRange_39247_0 rfl (lv_at hl 1 rfl) ?_
  refine lv_if_ne (tgt := 10) hx hb dJ7_copyOfRange_39247_1 (by decide) (fun h => absurd rfl h) (fun _ => ?_)
  refine lv_iload_n hx hb dJ7_copyOfRange_39247_4 rfl (lv_at hl 2 rfl) ?_
  refine lv_aload_n hx hb dJ7_copyOfRange_39247_5 rfl (lv_at hl 0 rfl) ?_
  refine va_alen hx hb hK hPv 0 7 rfl rfl (v := nI cap) rfl dJ7_copyOfRange_39247_6 ?_
  refine lv_icmp_eq (tgt := 17) hx hb dJ7_copyOfRange_39247_7 (by decide) (fun h1 => ?_) (fun _ => ?_)
  · have hnc : n = cap := (nI_eq (by omega) (by omega)).mp h1
    subst hnc
    refine lv_aload_n hx hb dJ7_copyOfRange_39247_17 rfl (lv_at hl 0 rfl) ?_
    refine va_clone (A := fun q => q = v ∨ s.heap.size ≤ q) hx hb (hml.trans hl.1.symm) hown (hts _ lk_clone) (hts _ sm_clone) (hts _ na_clone) (hts _ im_clone) (hts _ se_clone) (va_Nw.warmC hk.1 (va_Nw.of rfl (F.2.1 _ ca_clone))) hK hPv (one_D (Or.inl rfl)) (vS_w hS (fun q hq => Or.inr hq)) (fun q hq => Or.inr hq) 0 7 (cA := T 7) (x := (n, .inl row)) (ty := .byte) rfl rfl (hK.2 7 _ (rfl : (tysG T)[7]? = some (T 7, .byte))).2 (fun i w hw => ?_) (Nat.le_of_ble_eq_true rfl) (Nat.le_of_ble_eq_true rfl) (Nat.le_of_ble_eq_true rfl) (by show 0 + n ≤ 300; omega) dJ7_copyOfRange_39247_18 (fun q H1 _ hP1 hD1 hS1 => ?_)
    · by_cases hi : i < n
      · have h2 : (arrV (T 7) n (fun j => Value.int (row j))).slots[i]? = some (.int (row i)) := arrV_read _ _ hi
        have h3 : (arrV (T 7) n (fun j => Value.int (row j))).slots[i]? = some w := hw
        rw [h2] at h3
        cases h3
        exact hfit i
      · have h3 : (arrV (T 7) n (fun j => Value.int (row j))).slots[i]? = some w := hw
        have h4 := (Array.getElem?_eq_some_iff.mp h3).1
        rw [arrV_size] at h4
        omega
    · have hq : s.heap.size ≤ q := by
        rcases hD1.2 1 _ rfl with h | h
        · have := hD1.1 0 1 _ _ rfl rfl (show v = q from (show q = v from h).symm)
          omega
        · exact h
      refine va_castA hx hb hown (hts _ cl_J7_311) hP1 1 rfl (hK.2 7 _ (rfl : (tysG T)[7]? = some (T 7, .byte))).2 dJ7_copyOfRange_39247_21 ?_
      have hS2 : va_S (NA s.heap) s.heap H1 [] := ⟨hS1.1, fun z hz _ => by
        by_cases e : z = v
        · rw [e]
          exact (hP1 0 _ rfl).trans (hPv 0 _ rfl).symm
        · exact hS1.2.1 z hz (fun w => w.elim e (fun w => absurd w (by omega))), fun _ h => by cases h⟩
      exact gn_aret hx hb hr (Or.inr ⟨_, rfl⟩) hlocks hq ⟨row, fun j hj => rfl, one_P (hP1 1 _ rfl)⟩ rfl hS2 (Nat.le_of_ble_eq_true rfl) (by show 0 + n ≤ 300; omega) dJ7_copyOfRange_39247_24
  · refine lv_aload_n hx hb dJ7_copyOfRange_39247_10 rfl (lv_at hl 0 rfl) ?_
    refine lv_iload_n hx hb dJ7_copyOfRange_39247_11 rfl (lv_at hl 1 rfl) ?_
    refine lv_iload_n hx hb dJ7_copyOfRange_39247_12 rfl (lv_at hl 2 rfl) ?_
    refine gn_callS (As := [.ref v, .int 0, .int (nI n)]) (rest := []) hC hml hS (fun q h => h) (fun U hU hWm => ⟨KC_na hk hS U hU hWm, by rw [hU]; exact hPv⟩) KS_blind (metJ7_copyByteN (X := X) F hn hcap hfit) ml_J7_339 ⟨rfl, rfl, (Nat.le_of_ble_eq_true rfl), (Nat.le_of_ble_eq_true rfl)⟩ rfl hl.1 rfl (Nat.le_of_ble_eq_true rfl) dJ7_copyOfRange_39247_13 ⟨(Nat.le_of_ble_eq_true rfl), (Nat.le_of_ble_eq_true rfl)⟩ (fun q H1 locs1 hq hP hS _ _ => ?_)
    exact gn_aret hx hb hr (Or.inr ⟨_, rfl⟩) hlocks hq hP rfl hS (Nat.le_of_ble_eq_true rfl) (Nat.le_of_ble_eq_true rfl) dJ7_copyOfRange_39247_16
end JST
