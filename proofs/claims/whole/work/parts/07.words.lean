theorem clX0 : Cl 0 RX0 TX0 6 tyX0 := ⟨by decide, rfl, gt_sub [218, 220, 222, 224, 226, 228] (by decide +kernel) (by decide +kernel), tyX0_ok, nmX0⟩
theorem clX1 : Cl 1 RX1 TX1 7 tyX1 := ⟨by decide, rfl, gt_sub [354, 356, 358, 360, 362, 364, 366] (by decide +kernel) (by decide +kernel), tyX1_ok, nmX1⟩
theorem clX2 : Cl 2 RX2 TX2 3 tyX2 := ⟨by decide, rfl, gt_sub [324, 326, 328] (by decide +kernel) (by decide +kernel), tyX2_ok, nmX2⟩
theorem clX3 : Cl 3 RX3 TX3 5 tyX3 := ⟨by decide, rfl, gt_sub [191, 193, 195, 197, 199] (by decide +kernel) (by decide +kernel), tyX3_ok, nmX3⟩
theorem clX4 : Cl 4 RX4 TX4 9 tyX4 := ⟨by decide, rfl, gt_sub [295, 297, 299, 301, 303, 305, 307, 309, 311] (by decide +kernel) (by decide +kernel), tyX4_ok, nmX4⟩
theorem clX5 : Cl 5 RX5 TX5 3 tyX5 := ⟨by decide, rfl, gt_sub [168, 170, 172] (by decide +kernel) (by decide +kernel), tyX5_ok, nmX5⟩
theorem clX6 : Cl 6 RX6 TX6 3 tyX6 := ⟨by decide, rfl, gt_sub [406, 408, 410] (by decide +kernel) (by decide +kernel), tyX6_ok, nmX6⟩
theorem clX7 : Cl 7 RX7 TX7 2 tyX7 := ⟨by decide, rfl, gt_sub [126, 128] (by decide +kernel) (by decide +kernel), tyX7_ok, nmX7⟩
theorem clX8 : Cl 8 RX8 TX8 5 tyX8 := ⟨by decide, rfl, gt_sub [152, 154, 156, 158, 160] (by decide +kernel) (by decide +kernel), tyX8_ok, nmX8⟩
theorem clX9 : Cl 9 RX9 TX9 7 tyX9 := ⟨by decide, rfl, gt_sub [257, 259, 261, 263, 265, 267, 269] (by decide +kernel) (by decide +kernel), tyX9_ok, nmX9⟩
theorem clX10 : Cl 10 RX10 TX10 5 tyX10 := ⟨by decide, rfl, gt_sub [384, 386, 388, 390, 392] (by decide +kernel) (by decide +kernel), tyX10_ok, nmX10⟩
theorem clX11 : Cl 11 RX11 TX11 10 tyX11 := ⟨by decide, rfl, gt_sub [423, 425, 427, 429, 431, 433, 435, 437, 439, 441] (by decide +kernel) (by decide +kernel), tyX11_ok, nmX11⟩
theorem clX12 : Cl 12 RX12 TX12 31 tyX12 := ⟨by decide, rfl, gt_sub [1201, 1203, 1205, 1207, 1209, 1211, 1213, 1215, 1217, 1219, 1221, 1223, 1225, 1227, 1229, 1231, 1233, 1235, 1237, 1239, 1241, 1243, 1245, 1247, 1249, 1251, 1253, 1255, 1257, 1259, 1261] (by decide +kernel) (by decide +kernel), tyX12_ok, nmX12⟩
theorem mi_X11_isWithin : Mi yX11_isWithin cX11_isWithin 3 (some .boolean) 3 := ⟨gt_mem (i := 450) (by decide +kernel) (by decide +kernel), gt_mem (i := 85) (by decide +kernel) (by decide +kernel), by decide +kernel, by decide +kernel, by decide +kernel, by decide +kernel⟩
theorem fl_X11_373 : Fl RX11 373 11 9 false (.int) 0 := ⟨RX11, TX11, 10, tyX11, clX11, by decide, rfl, gt_mem (i := 422) (by decide +kernel) (by decide +kernel), rfl, rfl, rfl⟩
theorem kl_X11_376 : Jvm.Cond.constantLong RX11 376 (-9000000000000000010) ∈ GT := gt_mem (i := 456) (by decide +kernel) (by decide +kernel)
theorem mi_X11_found : Mi yX11_found cX11_found 2 (some .long) 1 := ⟨gt_mem (i := 455) (by decide +kernel) (by decide +kernel), gt_mem (i := 85) (by decide +kernel) (by decide +kernel), by decide +kernel, by decide +kernel, by decide +kernel, by decide +kernel⟩
theorem fl_X6_9 : Fl RX6 9 6 0 true (.array .int) 2 := ⟨RX6, TX6, 3, tyX6, clX6, by decide, rfl, gt_mem (i := 400) (by decide +kernel) (by decide +kernel), rfl, rfl, rfl⟩
theorem fl_X6_15 : Fl RX6 15 6 1 false (.int) 0 := ⟨RX6, TX6, 3, tyX6, clX6, by decide, rfl, gt_mem (i := 402) (by decide +kernel) (by decide +kernel), rfl, rfl, rfl⟩
theorem fl_X6_19 : Fl RX6 19 6 2 false (.int) 0 := ⟨RX6, TX6, 3, tyX6, clX6, by decide, rfl, gt_mem (i := 404) (by decide +kernel) (by decide +kernel), rfl, rfl, rfl⟩
theorem mi_X6_begin : Mi yX6_begin cX6_begin 4 none 2 := ⟨gt_mem (i := 460) (by decide +kernel) (by decide +kernel), gt_mem (i := 96) (by decide +kernel) (by decide +kernel), by decide +kernel, by decide +kernel, by decide +kernel, by decide +kernel⟩
theorem mi_X11_fine : Mi yX11_fine cX11_fine 3 (some .long) 1 := ⟨gt_mem (i := 464) (by decide +kernel) (by decide +kernel), gt_mem (i := 85) (by decide +kernel) (by decide +kernel), by decide +kernel, by decide +kernel, by decide +kernel, by decide +kernel⟩
theorem ml_X11_60 : Cond.methodLink RX11 60 yX11_isWithin ∈ GT := gt_mem (i := 448) (by decide +kernel) (by decide +kernel)
theorem sm_X11_isWithin : Cond.static yX11_isWithin ∈ GT := gt_mem (i := 449) (by decide +kernel) (by decide +kernel)
theorem kl_X11_64 : Jvm.Cond.constantLong RX11 64 (-9000000000000000001) ∈ GT := gt_mem (i := 451) (by decide +kernel) (by decide +kernel)
theorem fl_X11_11 : Fl RX11 11 11 0 true (.array (.object "NobodySails$Row")) 2 := ⟨RX11, TX11, 10, tyX11, clX11, by decide, rfl, gt_mem (i := 413) (by decide +kernel) (by decide +kernel), rfl, rfl, rfl⟩
theorem ml_X11_70 : Cond.methodLink RX11 70 yX6_begin ∈ GT := gt_mem (i := 457) (by decide +kernel) (by decide +kernel)
theorem im_X6_begin : Cond.instanceMethod yX6_begin ∈ GT := gt_mem (i := 458) (by decide +kernel) (by decide +kernel)
theorem se_X6_begin : Cond.selects yX6_begin.cls yX6_begin yX6_begin ∈ GT := gt_mem (i := 459) (by decide +kernel) (by decide +kernel)
theorem ml_X11_74 : Cond.methodLink RX11 74 yX11_fine ∈ GT := gt_mem (i := 461) (by decide +kernel) (by decide +kernel)
theorem im_X11_fine : Cond.instanceMethod yX11_fine ∈ GT := gt_mem (i := 463) (by decide +kernel) (by decide +kernel)
theorem se_X11_fine : Cond.selects yX11_fine.cls yX11_fine yX11_fine ∈ GT := gt_mem (i := 1) (by decide +kernel) (by decide +kernel)
theorem ml_X11_66 : Cond.methodLink RX11 66 yX11_found ∈ GT := gt_mem (i := 452) (by decide +kernel) (by decide +kernel)
theorem im_X11_found : Cond.instanceMethod yX11_found ∈ GT := gt_mem (i := 454) (by decide +kernel) (by decide +kernel)
theorem se_X11_found : Cond.selects yX11_found.cls yX11_found yX11_found ∈ GT := gt_mem (i := 0) (by decide +kernel) (by decide +kernel)
theorem mi_X11_row : Mi yX11_row cX11_row 4 (some .long) 3 := ⟨gt_mem (i := 447) (by decide +kernel) (by decide +kernel), gt_mem (i := 85) (by decide +kernel) (by decide +kernel), by decide +kernel, by decide +kernel, by decide +kernel, by decide +kernel⟩
theorem mi_X6_isMissing : Mi yX6_isMissing cX6_isMissing 1 (some .boolean) 0 := ⟨gt_mem (i := 472) (by decide +kernel) (by decide +kernel), gt_mem (i := 96) (by decide +kernel) (by decide +kernel), by decide +kernel, by decide +kernel, by decide +kernel, by decide +kernel⟩
theorem mi_X6_holds : Mi yX6_holds cX6_holds 3 (some .boolean) 2 := ⟨gt_mem (i := 476) (by decide +kernel) (by decide +kernel), gt_mem (i := 96) (by decide +kernel) (by decide +kernel), by decide +kernel, by decide +kernel, by decide +kernel, by decide +kernel⟩
theorem mi_X6_write : Mi yX6_write cX6_write 3 (some .int) 2 := ⟨gt_mem (i := 480) (by decide +kernel) (by decide +kernel), gt_mem (i := 96) (by decide +kernel) (by decide +kernel), by decide +kernel, by decide +kernel, by decide +kernel, by decide +kernel⟩
theorem ml_X11_78 : Cond.methodLink RX11 78 yX6_isMissing ∈ GT := gt_mem (i := 469) (by decide +kernel) (by decide +kernel)
theorem im_X6_isMissing : Cond.instanceMethod yX6_isMissing ∈ GT := gt_mem (i := 470) (by decide +kernel) (by decide +kernel)
theorem se_X6_isMissing : Cond.selects yX6_isMissing.cls yX6_isMissing yX6_isMissing ∈ GT := gt_mem (i := 471) (by decide +kernel) (by decide +kernel)
theorem ml_X11_82 : Cond.methodLink RX11 82 yX6_holds ∈ GT := gt_mem (i := 473) (by decide +kernel) (by decide +kernel)
theorem im_X6_holds : Cond.instanceMethod yX6_holds ∈ GT := gt_mem (i := 474) (by decide +kernel) (by decide +kernel)
theorem se_X6_holds : Cond.selects yX6_holds.cls yX6_holds yX6_holds ∈ GT := gt_mem (i := 475) (by decide +kernel) (by decide +kernel)
theorem ml_X11_86 : Cond.methodLink RX11 86 yX6_write ∈ GT := gt_mem (i := 477) (by decide +kernel) (by decide +kernel)
theorem im_X6_write : Cond.instanceMethod yX6_write ∈ GT := gt_mem (i := 478) (by decide +kernel) (by decide +kernel)
theorem se_X6_write : Cond.selects yX6_write.cls yX6_write yX6_write ∈ GT := gt_mem (i := 479) (by decide +kernel) (by decide +kernel)
theorem mi_X11_set : Mi yX11_set cX11_set 5 (some .long) 3 := ⟨gt_mem (i := 468) (by decide +kernel) (by decide +kernel), gt_mem (i := 85) (by decide +kernel) (by decide +kernel), by decide +kernel, by decide +kernel, by decide +kernel, by decide +kernel⟩
theorem fl_X11_90 : Fl RX11 90 6 1 false (.int) 0 := ⟨RX6, TX6, 3, tyX6, clX6, by decide, rfl, gt_mem (i := 403) (by decide +kernel) (by decide +kernel), rfl, rfl, rfl⟩
theorem fl_X11_94 : Fl RX11 94 6 0 true (.array .int) 2 := ⟨RX6, TX6, 3, tyX6, clX6, by decide, rfl, gt_mem (i := 401) (by decide +kernel) (by decide +kernel), rfl, rfl, rfl⟩
theorem ml_X11_98 : Cond.methodLink RX11 98 arraycopyName ∈ GT := gt_mem (i := 485) (by decide +kernel) (by decide +kernel)
theorem na_copy : Cond.native arraycopyName ∈ GT := gt_mem (i := 487) (by decide +kernel) (by decide +kernel)
theorem sm_copy : Cond.static arraycopyName ∈ GT := gt_mem (i := 486) (by decide +kernel) (by decide +kernel)
theorem in_sys : Cond.initialized "java/lang/System" ∈ GT := gt_mem (i := 98) (by decide +kernel) (by decide +kernel)
theorem mi_X11_copy : Mi yX11_copy cX11_copy 8 (some .long) 5 := ⟨gt_mem (i := 484) (by decide +kernel) (by decide +kernel), gt_mem (i := 85) (by decide +kernel) (by decide +kernel), by decide +kernel, by decide +kernel, by decide +kernel, by decide +kernel⟩
theorem mi_X6_vanish : Mi yX6_vanish cX6_vanish 1 none 0 := ⟨gt_mem (i := 495) (by decide +kernel) (by decide +kernel), gt_mem (i := 96) (by decide +kernel) (by decide +kernel), by decide +kernel, by decide +kernel, by decide +kernel, by decide +kernel⟩
theorem fl_X11_104 : Fl RX11 104 6 2 false (.int) 0 := ⟨RX6, TX6, 3, tyX6, clX6, by decide, rfl, gt_mem (i := 405) (by decide +kernel) (by decide +kernel), rfl, rfl, rfl⟩
theorem ml_X11_107 : Cond.methodLink RX11 107 yX6_vanish ∈ GT := gt_mem (i := 492) (by decide +kernel) (by decide +kernel)
theorem im_X6_vanish : Cond.instanceMethod yX6_vanish ∈ GT := gt_mem (i := 493) (by decide +kernel) (by decide +kernel)
theorem se_X6_vanish : Cond.selects yX6_vanish.cls yX6_vanish yX6_vanish ∈ GT := gt_mem (i := 494) (by decide +kernel) (by decide +kernel)
theorem mi_X11_drop : Mi yX11_drop cX11_drop 4 (some .long) 1 := ⟨gt_mem (i := 491) (by decide +kernel) (by decide +kernel), gt_mem (i := 85) (by decide +kernel) (by decide +kernel), by decide +kernel, by decide +kernel, by decide +kernel, by decide +kernel⟩
theorem fl_X7_15 : Fl RX7 15 7 1 false (.int) 0 := ⟨RX7, TX7, 2, tyX7, clX7, by decide, rfl, gt_mem (i := 123) (by decide +kernel) (by decide +kernel), rfl, rfl, rfl⟩
theorem fl_X7_9 : Fl RX7 9 7 0 true (.array .byte) 2 := ⟨RX7, TX7, 2, tyX7, clX7, by decide, rfl, gt_mem (i := 121) (by decide +kernel) (by decide +kernel), rfl, rfl, rfl⟩
theorem mi_X7_append : Mi yX7_append cX7_append 5 none 2 := ⟨gt_mem (i := 504) (by decide +kernel) (by decide +kernel), gt_mem (i := 86) (by decide +kernel) (by decide +kernel), by decide +kernel, by decide +kernel, by decide +kernel, by decide +kernel⟩
theorem fl_X11_18 : Fl RX11 18 11 1 true (.object "NobodySails$Tape") 2 := ⟨RX11, TX11, 10, tyX11, clX11, by decide, rfl, gt_mem (i := 414) (by decide +kernel) (by decide +kernel), rfl, rfl, rfl⟩
theorem fl_X11_110 : Fl RX11 110 7 1 false (.int) 0 := ⟨RX7, TX7, 2, tyX7, clX7, by decide, rfl, gt_mem (i := 125) (by decide +kernel) (by decide +kernel), rfl, rfl, rfl⟩
theorem ml_X11_113 : Cond.methodLink RX11 113 yX7_append ∈ GT := gt_mem (i := 501) (by decide +kernel) (by decide +kernel)
theorem im_X7_append : Cond.instanceMethod yX7_append ∈ GT := gt_mem (i := 502) (by decide +kernel) (by decide +kernel)
theorem se_X7_append : Cond.selects yX7_append.cls yX7_append yX7_append ∈ GT := gt_mem (i := 503) (by decide +kernel) (by decide +kernel)
theorem kl_X11_111 : Jvm.Cond.constantLong RX11 111 (-9000000000000000003) ∈ GT := gt_mem (i := 500) (by decide +kernel) (by decide +kernel)
theorem mi_X11_feed : Mi yX11_feed cX11_feed 4 (some .long) 2 := ⟨gt_mem (i := 499) (by decide +kernel) (by decide +kernel), gt_mem (i := 85) (by decide +kernel) (by decide +kernel), by decide +kernel, by decide +kernel, by decide +kernel, by decide +kernel⟩
theorem fl_X9_9 : Fl RX9 9 9 0 true (.array .int) 2 := ⟨RX9, TX9, 7, tyX9, clX9, by decide, rfl, gt_mem (i := 242) (by decide +kernel) (by decide +kernel), rfl, rfl, rfl⟩
theorem fl_X9_21 : Fl RX9 21 9 3 false (.int) 0 := ⟨RX9, TX9, 7, tyX9, clX9, by decide, rfl, gt_mem (i := 245) (by decide +kernel) (by decide +kernel), rfl, rfl, rfl⟩
theorem fl_X9_25 : Fl RX9 25 9 4 false (.int) 0 := ⟨RX9, TX9, 7, tyX9, clX9, by decide, rfl, gt_mem (i := 248) (by decide +kernel) (by decide +kernel), rfl, rfl, rfl⟩
theorem fl_X9_28 : Fl RX9 28 9 5 false (.int) 0 := ⟨RX9, TX9, 7, tyX9, clX9, by decide, rfl, gt_mem (i := 251) (by decide +kernel) (by decide +kernel), rfl, rfl, rfl⟩
theorem fl_X9_31 : Fl RX9 31 9 6 false (.int) 0 := ⟨RX9, TX9, 7, tyX9, clX9, by decide, rfl, gt_mem (i := 254) (by decide +kernel) (by decide +kernel), rfl, rfl, rfl⟩
theorem mi_X9_clear : Mi yX9_clear cX9_clear 2 none 0 := ⟨gt_mem (i := 520) (by decide +kernel) (by decide +kernel), gt_mem (i := 92) (by decide +kernel) (by decide +kernel), by decide +kernel, by decide +kernel, by decide +kernel, by decide +kernel⟩
theorem fl_X4_28 : Fl RX4 28 4 3 false (.boolean) 0 := ⟨RX4, TX4, 9, tyX4, clX4, by decide, rfl, gt_mem (i := 284) (by decide +kernel) (by decide +kernel), rfl, rfl, rfl⟩
theorem fl_X4_32 : Fl RX4 32 4 4 false (.int) 0 := ⟨RX4, TX4, 9, tyX4, clX4, by decide, rfl, gt_mem (i := 286) (by decide +kernel) (by decide +kernel), rfl, rfl, rfl⟩
theorem fl_X4_35 : Fl RX4 35 4 5 false (.int) 0 := ⟨RX4, TX4, 9, tyX4, clX4, by decide, rfl, gt_mem (i := 288) (by decide +kernel) (by decide +kernel), rfl, rfl, rfl⟩
theorem fl_X4_38 : Fl RX4 38 4 6 false (.int) 0 := ⟨RX4, TX4, 9, tyX4, clX4, by decide, rfl, gt_mem (i := 290) (by decide +kernel) (by decide +kernel), rfl, rfl, rfl⟩
theorem fl_X4_41 : Fl RX4 41 4 7 false (.boolean) 0 := ⟨RX4, TX4, 9, tyX4, clX4, by decide, rfl, gt_mem (i := 292) (by decide +kernel) (by decide +kernel), rfl, rfl, rfl⟩
theorem mi_X4_launch : Mi yX4_launch cX4_launch 3 none 2 := ⟨gt_mem (i := 532) (by decide +kernel) (by decide +kernel), gt_mem (i := 93) (by decide +kernel) (by decide +kernel), by decide +kernel, by decide +kernel, by decide +kernel, by decide +kernel⟩
theorem fl_X4_15 : Fl RX4 15 4 0 false (.int) 0 := ⟨RX4, TX4, 9, tyX4, clX4, by decide, rfl, gt_mem (i := 278) (by decide +kernel) (by decide +kernel), rfl, rfl, rfl⟩
theorem fl_X4_19 : Fl RX4 19 4 1 false (.int) 0 := ⟨RX4, TX4, 9, tyX4, clX4, by decide, rfl, gt_mem (i := 280) (by decide +kernel) (by decide +kernel), rfl, rfl, rfl⟩
theorem fl_X4_22 : Fl RX4 22 4 8 false (.int) 0 := ⟨RX4, TX4, 9, tyX4, clX4, by decide, rfl, gt_mem (i := 294) (by decide +kernel) (by decide +kernel), rfl, rfl, rfl⟩
theorem fl_X4_25 : Fl RX4 25 4 2 false (.int) 0 := ⟨RX4, TX4, 9, tyX4, clX4, by decide, rfl, gt_mem (i := 282) (by decide +kernel) (by decide +kernel), rfl, rfl, rfl⟩
theorem ml_X4_44 : Cond.methodLink RX4 44 yX4_launch ∈ GT := gt_mem (i := 529) (by decide +kernel) (by decide +kernel)
theorem im_X4_launch : Cond.instanceMethod yX4_launch ∈ GT := gt_mem (i := 530) (by decide +kernel) (by decide +kernel)
theorem se_X4_launch : Cond.selects yX4_launch.cls yX4_launch yX4_launch ∈ GT := gt_mem (i := 531) (by decide +kernel) (by decide +kernel)
theorem mi_X4_build : Mi yX4_build cX4_build 5 none 4 := ⟨gt_mem (i := 528) (by decide +kernel) (by decide +kernel), gt_mem (i := 93) (by decide +kernel) (by decide +kernel), by decide +kernel, by decide +kernel, by decide +kernel, by decide +kernel⟩
theorem ml_X4_9 : Cond.methodLink RX4 9 yX4_build ∈ GT := gt_mem (i := 525) (by decide +kernel) (by decide +kernel)
theorem im_X4_build : Cond.instanceMethod yX4_build ∈ GT := gt_mem (i := 526) (by decide +kernel) (by decide +kernel)
theorem se_X4_build : Cond.selects yX4_build.cls yX4_build yX4_build ∈ GT := gt_mem (i := 527) (by decide +kernel) (by decide +kernel)
theorem mi_X4_clear : Mi yX4_clear cX4_clear 1 none 0 := ⟨gt_mem (i := 524) (by decide +kernel) (by decide +kernel), gt_mem (i := 93) (by decide +kernel) (by decide +kernel), by decide +kernel, by decide +kernel, by decide +kernel, by decide +kernel⟩
theorem fl_X2_18 : Fl RX2 18 2 2 false (.int) 0 := ⟨RX2, TX2, 3, tyX2, clX2, by decide, rfl, gt_mem (i := 322) (by decide +kernel) (by decide +kernel), rfl, rfl, rfl⟩
theorem mi_X2_clear : Mi yX2_clear cX2_clear 1 none 0 := ⟨gt_mem (i := 536) (by decide +kernel) (by decide +kernel), gt_mem (i := 94) (by decide +kernel) (by decide +kernel), by decide +kernel, by decide +kernel, by decide +kernel, by decide +kernel⟩
theorem fl_X1_27 : Fl RX1 27 1 5 false (.int) 0 := ⟨RX1, TX1, 7, tyX1, clX1, by decide, rfl, gt_mem (i := 349) (by decide +kernel) (by decide +kernel), rfl, rfl, rfl⟩
theorem fl_X1_31 : Fl RX1 31 1 6 false (.int) 0 := ⟨RX1, TX1, 7, tyX1, clX1, by decide, rfl, gt_mem (i := 352) (by decide +kernel) (by decide +kernel), rfl, rfl, rfl⟩
theorem mi_X1_clear : Mi yX1_clear cX1_clear 1 none 0 := ⟨gt_mem (i := 540) (by decide +kernel) (by decide +kernel), gt_mem (i := 95) (by decide +kernel) (by decide +kernel), by decide +kernel, by decide +kernel, by decide +kernel, by decide +kernel⟩
theorem fl_X10_37 : Fl RX10 37 10 4 false (.boolean) 0 := ⟨RX10, TX10, 5, tyX10, clX10, by decide, rfl, gt_mem (i := 381) (by decide +kernel) (by decide +kernel), rfl, rfl, rfl⟩
theorem fl_X10_10 : Fl RX10 10 10 0 true (.object "NobodySails$Waters") 2 := ⟨RX10, TX10, 5, tyX10, clX10, by decide, rfl, gt_mem (i := 369) (by decide +kernel) (by decide +kernel), rfl, rfl, rfl⟩
theorem ml_X10_41 : Cond.methodLink RX10 41 yX9_clear ∈ GT := gt_mem (i := 517) (by decide +kernel) (by decide +kernel)
theorem im_X9_clear : Cond.instanceMethod yX9_clear ∈ GT := gt_mem (i := 518) (by decide +kernel) (by decide +kernel)
theorem se_X9_clear : Cond.selects yX9_clear.cls yX9_clear yX9_clear ∈ GT := gt_mem (i := 519) (by decide +kernel) (by decide +kernel)
theorem fl_X10_19 : Fl RX10 19 10 1 true (.object "NobodySails$Hull") 2 := ⟨RX10, TX10, 5, tyX10, clX10, by decide, rfl, gt_mem (i := 372) (by decide +kernel) (by decide +kernel), rfl, rfl, rfl⟩
theorem ml_X10_44 : Cond.methodLink RX10 44 yX4_clear ∈ GT := gt_mem (i := 521) (by decide +kernel) (by decide +kernel)
theorem im_X4_clear : Cond.instanceMethod yX4_clear ∈ GT := gt_mem (i := 522) (by decide +kernel) (by decide +kernel)
theorem se_X4_clear : Cond.selects yX4_clear.cls yX4_clear yX4_clear ∈ GT := gt_mem (i := 523) (by decide +kernel) (by decide +kernel)
theorem fl_X10_26 : Fl RX10 26 10 2 true (.object "NobodySails$Crew") 2 := ⟨RX10, TX10, 5, tyX10, clX10, by decide, rfl, gt_mem (i := 375) (by decide +kernel) (by decide +kernel), rfl, rfl, rfl⟩
theorem ml_X10_45 : Cond.methodLink RX10 45 yX2_clear ∈ GT := gt_mem (i := 533) (by decide +kernel) (by decide +kernel)
theorem im_X2_clear : Cond.instanceMethod yX2_clear ∈ GT := gt_mem (i := 534) (by decide +kernel) (by decide +kernel)
theorem se_X2_clear : Cond.selects yX2_clear.cls yX2_clear yX2_clear ∈ GT := gt_mem (i := 535) (by decide +kernel) (by decide +kernel)
theorem fl_X10_33 : Fl RX10 33 10 3 true (.object "NobodySails$Court") 2 := ⟨RX10, TX10, 5, tyX10, clX10, by decide, rfl, gt_mem (i := 378) (by decide +kernel) (by decide +kernel), rfl, rfl, rfl⟩
theorem ml_X10_46 : Cond.methodLink RX10 46 yX1_clear ∈ GT := gt_mem (i := 537) (by decide +kernel) (by decide +kernel)
theorem im_X1_clear : Cond.instanceMethod yX1_clear ∈ GT := gt_mem (i := 538) (by decide +kernel) (by decide +kernel)
theorem se_X1_clear : Cond.selects yX1_clear.cls yX1_clear yX1_clear ∈ GT := gt_mem (i := 539) (by decide +kernel) (by decide +kernel)
theorem mi_X10_clear : Mi yX10_clear cX10_clear 1 none 0 := ⟨gt_mem (i := 516) (by decide +kernel) (by decide +kernel), gt_mem (i := 91) (by decide +kernel) (by decide +kernel), by decide +kernel, by decide +kernel, by decide +kernel, by decide +kernel⟩
theorem mi_X8_isBlank : Mi yX8_isBlank cX8_isBlank 1 (some .boolean) 1 := ⟨gt_mem (i := 551) (by decide +kernel) (by decide +kernel), gt_mem (i := 88) (by decide +kernel) (by decide +kernel), by decide +kernel, by decide +kernel, by decide +kernel, by decide +kernel⟩
theorem mi_X8_isLetter : Mi yX8_isLetter cX8_isLetter 1 (some .boolean) 1 := ⟨gt_mem (i := 554) (by decide +kernel) (by decide +kernel), gt_mem (i := 88) (by decide +kernel) (by decide +kernel), by decide +kernel, by decide +kernel, by decide +kernel, by decide +kernel⟩
theorem fl_X8_36 : Fl RX8 36 8 3 false (.int) 0 := ⟨RX8, TX8, 5, tyX8, clX8, by decide, rfl, gt_mem (i := 149) (by decide +kernel) (by decide +kernel), rfl, rfl, rfl⟩
theorem fl_X8_13 : Fl RX8 13 8 1 false (.int) 0 := ⟨RX8, TX8, 5, tyX8, clX8, by decide, rfl, gt_mem (i := 145) (by decide +kernel) (by decide +kernel), rfl, rfl, rfl⟩
theorem fl_X8_7 : Fl RX8 7 8 0 true (.object "NobodySails$Tape") 2 := ⟨RX8, TX8, 5, tyX8, clX8, by decide, rfl, gt_mem (i := 144) (by decide +kernel) (by decide +kernel), rfl, rfl, rfl⟩
theorem fl_X8_23 : Fl RX8 23 7 1 false (.int) 0 := ⟨RX7, TX7, 2, tyX7, clX7, by decide, rfl, gt_mem (i := 124) (by decide +kernel) (by decide +kernel), rfl, rfl, rfl⟩
theorem fl_X8_28 : Fl RX8 28 7 0 true (.array .byte) 2 := ⟨RX7, TX7, 2, tyX7, clX7, by decide, rfl, gt_mem (i := 122) (by decide +kernel) (by decide +kernel), rfl, rfl, rfl⟩
theorem ml_X8_39 : Cond.methodLink RX8 39 yX8_isLetter ∈ GT := gt_mem (i := 552) (by decide +kernel) (by decide +kernel)
theorem sm_X8_isLetter : Cond.static yX8_isLetter ∈ GT := gt_mem (i := 553) (by decide +kernel) (by decide +kernel)
theorem mi_X8_takeName : Mi yX8_takeName cX8_takeName 1 none 0 := ⟨gt_mem (i := 558) (by decide +kernel) (by decide +kernel), gt_mem (i := 88) (by decide +kernel) (by decide +kernel), by decide +kernel, by decide +kernel, by decide +kernel, by decide +kernel⟩
theorem mi_X8_isFigure : Mi yX8_isFigure cX8_isFigure 1 (some .boolean) 1 := ⟨gt_mem (i := 561) (by decide +kernel) (by decide +kernel), gt_mem (i := 88) (by decide +kernel) (by decide +kernel), by decide +kernel, by decide +kernel, by decide +kernel, by decide +kernel⟩
theorem fl_X8_20 : Fl RX8 20 8 2 false (.int) 0 := ⟨RX8, TX8, 5, tyX8, clX8, by decide, rfl, gt_mem (i := 146) (by decide +kernel) (by decide +kernel), rfl, rfl, rfl⟩
theorem ml_X8_45 : Cond.methodLink RX8 45 yX8_isFigure ∈ GT := gt_mem (i := 559) (by decide +kernel) (by decide +kernel)
theorem sm_X8_isFigure : Cond.static yX8_isFigure ∈ GT := gt_mem (i := 560) (by decide +kernel) (by decide +kernel)
theorem fl_X8_60 : Fl RX8 60 8 4 false (.int) 0 := ⟨RX8, TX8, 5, tyX8, clX8, by decide, rfl, gt_mem (i := 150) (by decide +kernel) (by decide +kernel), rfl, rfl, rfl⟩
theorem mi_X8_takeNumber : Mi yX8_takeNumber cX8_takeNumber 1 none 0 := ⟨gt_mem (i := 565) (by decide +kernel) (by decide +kernel), gt_mem (i := 88) (by decide +kernel) (by decide +kernel), by decide +kernel, by decide +kernel, by decide +kernel, by decide +kernel⟩
theorem ml_X8_48 : Cond.methodLink RX8 48 yX8_takeNumber ∈ GT := gt_mem (i := 562) (by decide +kernel) (by decide +kernel)
theorem im_X8_takeNumber : Cond.instanceMethod yX8_takeNumber ∈ GT := gt_mem (i := 564) (by decide +kernel) (by decide +kernel)
theorem se_X8_takeNumber : Cond.selects yX8_takeNumber.cls yX8_takeNumber yX8_takeNumber ∈ GT := gt_mem (i := 3) (by decide +kernel) (by decide +kernel)
theorem ml_X8_42 : Cond.methodLink RX8 42 yX8_takeName ∈ GT := gt_mem (i := 555) (by decide +kernel) (by decide +kernel)
theorem im_X8_takeName : Cond.instanceMethod yX8_takeName ∈ GT := gt_mem (i := 557) (by decide +kernel) (by decide +kernel)
theorem se_X8_takeName : Cond.selects yX8_takeName.cls yX8_takeName yX8_takeName ∈ GT := gt_mem (i := 2) (by decide +kernel) (by decide +kernel)
theorem ml_X8_32 : Cond.methodLink RX8 32 yX8_isBlank ∈ GT := gt_mem (i := 549) (by decide +kernel) (by decide +kernel)
theorem sm_X8_isBlank : Cond.static yX8_isBlank ∈ GT := gt_mem (i := 550) (by decide +kernel) (by decide +kernel)
theorem mi_X8_advance : Mi yX8_advance cX8_advance 1 none 0 := ⟨gt_mem (i := 548) (by decide +kernel) (by decide +kernel), gt_mem (i := 88) (by decide +kernel) (by decide +kernel), by decide +kernel, by decide +kernel, by decide +kernel, by decide +kernel⟩
theorem ml_X8_17 : Cond.methodLink RX8 17 yX8_advance ∈ GT := gt_mem (i := 545) (by decide +kernel) (by decide +kernel)
theorem im_X8_advance : Cond.instanceMethod yX8_advance ∈ GT := gt_mem (i := 546) (by decide +kernel) (by decide +kernel)
theorem se_X8_advance : Cond.selects yX8_advance.cls yX8_advance yX8_advance ∈ GT := gt_mem (i := 547) (by decide +kernel) (by decide +kernel)
theorem mi_X8_rewind : Mi yX8_rewind cX8_rewind 1 none 0 := ⟨gt_mem (i := 544) (by decide +kernel) (by decide +kernel), gt_mem (i := 88) (by decide +kernel) (by decide +kernel), by decide +kernel, by decide +kernel, by decide +kernel, by decide +kernel⟩
theorem mi_X8_isName : Mi yX8_isName cX8_isName 3 (some .boolean) 1 := ⟨gt_mem (i := 578) (by decide +kernel) (by decide +kernel), gt_mem (i := 88) (by decide +kernel) (by decide +kernel), by decide +kernel, by decide +kernel, by decide +kernel, by decide +kernel⟩
theorem fl_X5_20 : Fl RX5 20 5 1 false (.int) 0 := ⟨RX5, TX5, 3, tyX5, clX5, by decide, rfl, gt_mem (i := 164) (by decide +kernel) (by decide +kernel), rfl, rfl, rfl⟩
theorem fl_X5_14 : Fl RX5 14 5 0 true (.object "NobodySails$Tokens") 2 := ⟨RX5, TX5, 3, tyX5, clX5, by decide, rfl, gt_mem (i := 163) (by decide +kernel) (by decide +kernel), rfl, rfl, rfl⟩
theorem fl_X5_195 : Fl RX5 195 8 2 false (.int) 0 := ⟨RX8, TX8, 5, tyX8, clX8, by decide, rfl, gt_mem (i := 147) (by decide +kernel) (by decide +kernel), rfl, rfl, rfl⟩
theorem fl_X5_24 : Fl RX5 24 5 2 false (.int) 0 := ⟨RX5, TX5, 3, tyX5, clX5, by decide, rfl, gt_mem (i := 166) (by decide +kernel) (by decide +kernel), rfl, rfl, rfl⟩
theorem mi_X5_fail : Mi yX5_fail cX5_fail 2 none 1 := ⟨gt_mem (i := 631) (by decide +kernel) (by decide +kernel), gt_mem (i := 87) (by decide +kernel) (by decide +kernel), by decide +kernel, by decide +kernel, by decide +kernel, by decide +kernel⟩
theorem ml_X5_108 : Cond.methodLink RX5 108 yX8_isName ∈ GT := gt_mem (i := 575) (by decide +kernel) (by decide +kernel)
theorem im_X8_isName : Cond.instanceMethod yX8_isName ∈ GT := gt_mem (i := 576) (by decide +kernel) (by decide +kernel)
theorem se_X8_isName : Cond.selects yX8_isName.cls yX8_isName yX8_isName ∈ GT := gt_mem (i := 577) (by decide +kernel) (by decide +kernel)
theorem ml_X5_79 : Cond.methodLink RX5 79 yX5_fail ∈ GT := gt_mem (i := 628) (by decide +kernel) (by decide +kernel)
theorem im_X5_fail : Cond.instanceMethod yX5_fail ∈ GT := gt_mem (i := 630) (by decide +kernel) (by decide +kernel)
theorem se_X5_fail : Cond.selects yX5_fail.cls yX5_fail yX5_fail ∈ GT := gt_mem (i := 6) (by decide +kernel) (by decide +kernel)
theorem ml_X5_171 : Cond.methodLink RX5 171 yX8_advance ∈ GT := gt_mem (i := 627) (by decide +kernel) (by decide +kernel)
theorem mi_X5_takeWord : Mi yX5_takeWord cX5_takeWord 2 none 1 := ⟨gt_mem (i := 574) (by decide +kernel) (by decide +kernel), gt_mem (i := 87) (by decide +kernel) (by decide +kernel), by decide +kernel, by decide +kernel, by decide +kernel, by decide +kernel⟩
theorem fl_X5_181 : Fl RX5 181 8 4 false (.int) 0 := ⟨RX8, TX8, 5, tyX8, clX8, by decide, rfl, gt_mem (i := 151) (by decide +kernel) (by decide +kernel), rfl, rfl, rfl⟩
theorem fl_X5_76 : Fl RX5 76 8 3 false (.int) 0 := ⟨RX8, TX8, 5, tyX8, clX8, by decide, rfl, gt_mem (i := 148) (by decide +kernel) (by decide +kernel), rfl, rfl, rfl⟩
theorem mi_X5_takeNumber : Mi yX5_takeNumber cX5_takeNumber 4 (some .int) 2 := ⟨gt_mem (i := 635) (by decide +kernel) (by decide +kernel), gt_mem (i := 87) (by decide +kernel) (by decide +kernel), by decide +kernel, by decide +kernel, by decide +kernel, by decide +kernel⟩
theorem mi_X5_takeEnd : Mi yX5_takeEnd cX5_takeEnd 1 none 0 := ⟨gt_mem (i := 640) (by decide +kernel) (by decide +kernel), gt_mem (i := 87) (by decide +kernel) (by decide +kernel), by decide +kernel, by decide +kernel, by decide +kernel, by decide +kernel⟩
theorem mi_X9_measure : Mi yX9_measure cX9_measure 3 none 2 := ⟨gt_mem (i := 644) (by decide +kernel) (by decide +kernel), gt_mem (i := 92) (by decide +kernel) (by decide +kernel), by decide +kernel, by decide +kernel, by decide +kernel, by decide +kernel⟩
theorem ml_X5_89 : Cond.methodLink RX5 89 yX5_takeWord ∈ GT := gt_mem (i := 571) (by decide +kernel) (by decide +kernel)
theorem im_X5_takeWord : Cond.instanceMethod yX5_takeWord ∈ GT := gt_mem (i := 573) (by decide +kernel) (by decide +kernel)
theorem se_X5_takeWord : Cond.selects yX5_takeWord.cls yX5_takeWord yX5_takeWord ∈ GT := gt_mem (i := 5) (by decide +kernel) (by decide +kernel)
theorem ml_X5_93 : Cond.methodLink RX5 93 yX5_takeNumber ∈ GT := gt_mem (i := 632) (by decide +kernel) (by decide +kernel)
theorem im_X5_takeNumber : Cond.instanceMethod yX5_takeNumber ∈ GT := gt_mem (i := 634) (by decide +kernel) (by decide +kernel)
theorem se_X5_takeNumber : Cond.selects yX5_takeNumber.cls yX5_takeNumber yX5_takeNumber ∈ GT := gt_mem (i := 7) (by decide +kernel) (by decide +kernel)
theorem ml_X5_97 : Cond.methodLink RX5 97 yX5_takeEnd ∈ GT := gt_mem (i := 637) (by decide +kernel) (by decide +kernel)
theorem im_X5_takeEnd : Cond.instanceMethod yX5_takeEnd ∈ GT := gt_mem (i := 639) (by decide +kernel) (by decide +kernel)
theorem se_X5_takeEnd : Cond.selects yX5_takeEnd.cls yX5_takeEnd yX5_takeEnd ∈ GT := gt_mem (i := 8) (by decide +kernel) (by decide +kernel)
theorem ml_X5_100 : Cond.methodLink RX5 100 yX9_measure ∈ GT := gt_mem (i := 641) (by decide +kernel) (by decide +kernel)
theorem im_X9_measure : Cond.instanceMethod yX9_measure ∈ GT := gt_mem (i := 642) (by decide +kernel) (by decide +kernel)
theorem se_X9_measure : Cond.selects yX9_measure.cls yX9_measure yX9_measure ∈ GT := gt_mem (i := 643) (by decide +kernel) (by decide +kernel)
theorem mi_X5_readSize : Mi yX5_readSize cX5_readSize 4 none 1 := ⟨gt_mem (i := 569) (by decide +kernel) (by decide +kernel), gt_mem (i := 87) (by decide +kernel) (by decide +kernel), by decide +kernel, by decide +kernel, by decide +kernel, by decide +kernel⟩
theorem mi_X5_begins : Mi yX5_begins cX5_begins 4 (some .boolean) 3 := ⟨gt_mem (i := 653) (by decide +kernel) (by decide +kernel), gt_mem (i := 87) (by decide +kernel) (by decide +kernel), by decide +kernel, by decide +kernel, by decide +kernel, by decide +kernel⟩
theorem mi_X5_wayName : Mi yX5_wayName cX5_wayName 1 (some (.object "java/lang/String")) 1 := ⟨gt_mem (i := 660) (by decide +kernel) (by decide +kernel), gt_mem (i := 87) (by decide +kernel) (by decide +kernel), by decide +kernel, by decide +kernel, by decide +kernel, by decide +kernel⟩
theorem ml_X5_188 : Cond.methodLink RX5 188 yX5_wayName ∈ GT := gt_mem (i := 658) (by decide +kernel) (by decide +kernel)
theorem sm_X5_wayName : Cond.static yX5_wayName ∈ GT := gt_mem (i := 659) (by decide +kernel) (by decide +kernel)
theorem mi_X5_takeWay : Mi yX5_takeWay cX5_takeWay 2 (some .int) 0 := ⟨gt_mem (i := 657) (by decide +kernel) (by decide +kernel), gt_mem (i := 87) (by decide +kernel) (by decide +kernel), by decide +kernel, by decide +kernel, by decide +kernel, by decide +kernel⟩
theorem fl_X9_15 : Fl RX9 15 9 1 true (.array .int) 2 := ⟨RX9, TX9, 7, tyX9, clX9, by decide, rfl, gt_mem (i := 243) (by decide +kernel) (by decide +kernel), rfl, rfl, rfl⟩
theorem fl_X9_18 : Fl RX9 18 9 2 true (.array .int) 2 := ⟨RX9, TX9, 7, tyX9, clX9, by decide, rfl, gt_mem (i := 244) (by decide +kernel) (by decide +kernel), rfl, rfl, rfl⟩
theorem mi_X9_addWind : Mi yX9_addWind cX9_addWind 3 none 2 := ⟨gt_mem (i := 672) (by decide +kernel) (by decide +kernel), gt_mem (i := 92) (by decide +kernel) (by decide +kernel), by decide +kernel, by decide +kernel, by decide +kernel, by decide +kernel⟩
theorem ml_X5_112 : Cond.methodLink RX5 112 yX5_begins ∈ GT := gt_mem (i := 650) (by decide +kernel) (by decide +kernel)
theorem im_X5_begins : Cond.instanceMethod yX5_begins ∈ GT := gt_mem (i := 652) (by decide +kernel) (by decide +kernel)
theorem se_X5_begins : Cond.selects yX5_begins.cls yX5_begins yX5_begins ∈ GT := gt_mem (i := 10) (by decide +kernel) (by decide +kernel)
theorem ml_X5_116 : Cond.methodLink RX5 116 yX5_takeWay ∈ GT := gt_mem (i := 654) (by decide +kernel) (by decide +kernel)
theorem im_X5_takeWay : Cond.instanceMethod yX5_takeWay ∈ GT := gt_mem (i := 656) (by decide +kernel) (by decide +kernel)
theorem se_X5_takeWay : Cond.selects yX5_takeWay.cls yX5_takeWay yX5_takeWay ∈ GT := gt_mem (i := 11) (by decide +kernel) (by decide +kernel)
theorem ml_X5_120 : Cond.methodLink RX5 120 yX9_addWind ∈ GT := gt_mem (i := 669) (by decide +kernel) (by decide +kernel)
theorem im_X9_addWind : Cond.instanceMethod yX9_addWind ∈ GT := gt_mem (i := 670) (by decide +kernel) (by decide +kernel)
theorem se_X9_addWind : Cond.selects yX9_addWind.cls yX9_addWind yX9_addWind ∈ GT := gt_mem (i := 671) (by decide +kernel) (by decide +kernel)
theorem mi_X5_readWinds : Mi yX5_readWinds cX5_readWinds 5 none 1 := ⟨gt_mem (i := 648) (by decide +kernel) (by decide +kernel), gt_mem (i := 87) (by decide +kernel) (by decide +kernel), by decide +kernel, by decide +kernel, by decide +kernel, by decide +kernel⟩
theorem mi_X9_isInside : Mi yX9_isInside cX9_isInside 3 (some .boolean) 2 := ⟨gt_mem (i := 685) (by decide +kernel) (by decide +kernel), gt_mem (i := 92) (by decide +kernel) (by decide +kernel), by decide +kernel, by decide +kernel, by decide +kernel, by decide +kernel⟩
theorem ml_X9_40 : Cond.methodLink RX9 40 yX9_isInside ∈ GT := gt_mem (i := 682) (by decide +kernel) (by decide +kernel)
theorem im_X9_isInside : Cond.instanceMethod yX9_isInside ∈ GT := gt_mem (i := 683) (by decide +kernel) (by decide +kernel)
theorem se_X9_isInside : Cond.selects yX9_isInside.cls yX9_isInside yX9_isInside ∈ GT := gt_mem (i := 684) (by decide +kernel) (by decide +kernel)
theorem mi_X9_addLand : Mi yX9_addLand cX9_addLand 3 none 2 := ⟨gt_mem (i := 681) (by decide +kernel) (by decide +kernel), gt_mem (i := 92) (by decide +kernel) (by decide +kernel), by decide +kernel, by decide +kernel, by decide +kernel, by decide +kernel⟩
theorem fl_X5_125 : Fl RX5 125 9 3 false (.int) 0 := ⟨RX9, TX9, 7, tyX9, clX9, by decide, rfl, gt_mem (i := 246) (by decide +kernel) (by decide +kernel), rfl, rfl, rfl⟩
theorem fl_X5_128 : Fl RX5 128 9 4 false (.int) 0 := ⟨RX9, TX9, 7, tyX9, clX9, by decide, rfl, gt_mem (i := 249) (by decide +kernel) (by decide +kernel), rfl, rfl, rfl⟩
theorem ml_X5_131 : Cond.methodLink RX5 131 yX9_addLand ∈ GT := gt_mem (i := 678) (by decide +kernel) (by decide +kernel)
theorem im_X9_addLand : Cond.instanceMethod yX9_addLand ∈ GT := gt_mem (i := 679) (by decide +kernel) (by decide +kernel)
theorem se_X9_addLand : Cond.selects yX9_addLand.cls yX9_addLand yX9_addLand ∈ GT := gt_mem (i := 680) (by decide +kernel) (by decide +kernel)
theorem mi_X5_readLands : Mi yX5_readLands cX5_readLands 5 none 1 := ⟨gt_mem (i := 676) (by decide +kernel) (by decide +kernel), gt_mem (i := 87) (by decide +kernel) (by decide +kernel), by decide +kernel, by decide +kernel, by decide +kernel, by decide +kernel⟩
theorem ml_X5_136 : Cond.methodLink RX5 136 yX4_build ∈ GT := gt_mem (i := 692) (by decide +kernel) (by decide +kernel)
theorem mi_X5_readShip : Mi yX5_readShip cX5_readShip 6 none 1 := ⟨gt_mem (i := 690) (by decide +kernel) (by decide +kernel), gt_mem (i := 87) (by decide +kernel) (by decide +kernel), by decide +kernel, by decide +kernel, by decide +kernel, by decide +kernel⟩
theorem fl_X2_9 : Fl RX2 9 2 0 true (.array .int) 2 := ⟨RX2, TX2, 3, tyX2, clX2, by decide, rfl, gt_mem (i := 320) (by decide +kernel) (by decide +kernel), rfl, rfl, rfl⟩
theorem fl_X2_15 : Fl RX2 15 2 1 true (.array .int) 2 := ⟨RX2, TX2, 3, tyX2, clX2, by decide, rfl, gt_mem (i := 321) (by decide +kernel) (by decide +kernel), rfl, rfl, rfl⟩
theorem mi_X2_add : Mi yX2_add cX2_add 3 none 2 := ⟨gt_mem (i := 701) (by decide +kernel) (by decide +kernel), gt_mem (i := 94) (by decide +kernel) (by decide +kernel), by decide +kernel, by decide +kernel, by decide +kernel, by decide +kernel⟩
theorem ml_X5_144 : Cond.methodLink RX5 144 yX2_add ∈ GT := gt_mem (i := 698) (by decide +kernel) (by decide +kernel)
theorem im_X2_add : Cond.instanceMethod yX2_add ∈ GT := gt_mem (i := 699) (by decide +kernel) (by decide +kernel)
theorem se_X2_add : Cond.selects yX2_add.cls yX2_add yX2_add ∈ GT := gt_mem (i := 700) (by decide +kernel) (by decide +kernel)
theorem mi_X5_readMen : Mi yX5_readMen cX5_readMen 5 none 1 := ⟨gt_mem (i := 696) (by decide +kernel) (by decide +kernel), gt_mem (i := 87) (by decide +kernel) (by decide +kernel), by decide +kernel, by decide +kernel, by decide +kernel, by decide +kernel⟩
theorem mi_X5_kindName : Mi yX5_kindName cX5_kindName 1 (some (.object "java/lang/String")) 1 := ⟨gt_mem (i := 713) (by decide +kernel) (by decide +kernel), gt_mem (i := 87) (by decide +kernel) (by decide +kernel), by decide +kernel, by decide +kernel, by decide +kernel, by decide +kernel⟩
theorem ml_X5_192 : Cond.methodLink RX5 192 yX5_kindName ∈ GT := gt_mem (i := 711) (by decide +kernel) (by decide +kernel)
theorem sm_X5_kindName : Cond.static yX5_kindName ∈ GT := gt_mem (i := 712) (by decide +kernel) (by decide +kernel)
theorem mi_X5_takeKind : Mi yX5_takeKind cX5_takeKind 2 (some .int) 0 := ⟨gt_mem (i := 710) (by decide +kernel) (by decide +kernel), gt_mem (i := 87) (by decide +kernel) (by decide +kernel), by decide +kernel, by decide +kernel, by decide +kernel, by decide +kernel⟩
theorem fl_X1_9 : Fl RX1 9 1 0 true (.array .int) 2 := ⟨RX1, TX1, 7, tyX1, clX1, by decide, rfl, gt_mem (i := 337) (by decide +kernel) (by decide +kernel), rfl, rfl, rfl⟩
theorem fl_X1_15 : Fl RX1 15 1 1 true (.array .int) 2 := ⟨RX1, TX1, 7, tyX1, clX1, by decide, rfl, gt_mem (i := 340) (by decide +kernel) (by decide +kernel), rfl, rfl, rfl⟩
theorem mi_X1_addSign : Mi yX1_addSign cX1_addSign 3 none 2 := ⟨gt_mem (i := 724) (by decide +kernel) (by decide +kernel), gt_mem (i := 95) (by decide +kernel) (by decide +kernel), by decide +kernel, by decide +kernel, by decide +kernel, by decide +kernel⟩
theorem ml_X5_151 : Cond.methodLink RX5 151 yX5_takeKind ∈ GT := gt_mem (i := 707) (by decide +kernel) (by decide +kernel)
theorem im_X5_takeKind : Cond.instanceMethod yX5_takeKind ∈ GT := gt_mem (i := 709) (by decide +kernel) (by decide +kernel)
theorem se_X5_takeKind : Cond.selects yX5_takeKind.cls yX5_takeKind yX5_takeKind ∈ GT := gt_mem (i := 16) (by decide +kernel) (by decide +kernel)
theorem ml_X5_154 : Cond.methodLink RX5 154 yX1_addSign ∈ GT := gt_mem (i := 721) (by decide +kernel) (by decide +kernel)
theorem im_X1_addSign : Cond.instanceMethod yX1_addSign ∈ GT := gt_mem (i := 722) (by decide +kernel) (by decide +kernel)
theorem se_X1_addSign : Cond.selects yX1_addSign.cls yX1_addSign yX1_addSign ∈ GT := gt_mem (i := 723) (by decide +kernel) (by decide +kernel)
theorem mi_X5_readSigns : Mi yX5_readSigns cX5_readSigns 5 none 1 := ⟨gt_mem (i := 705) (by decide +kernel) (by decide +kernel), gt_mem (i := 87) (by decide +kernel) (by decide +kernel), by decide +kernel, by decide +kernel, by decide +kernel, by decide +kernel⟩
theorem fl_X1_24 : Fl RX1 24 1 4 true (.array .int) 2 := ⟨RX1, TX1, 7, tyX1, clX1, by decide, rfl, gt_mem (i := 348) (by decide +kernel) (by decide +kernel), rfl, rfl, rfl⟩
theorem fl_X1_18 : Fl RX1 18 1 2 true (.array .int) 2 := ⟨RX1, TX1, 7, tyX1, clX1, by decide, rfl, gt_mem (i := 343) (by decide +kernel) (by decide +kernel), rfl, rfl, rfl⟩
theorem fl_X1_21 : Fl RX1 21 1 3 true (.array .int) 2 := ⟨RX1, TX1, 7, tyX1, clX1, by decide, rfl, gt_mem (i := 346) (by decide +kernel) (by decide +kernel), rfl, rfl, rfl⟩
theorem mi_X1_addStory : Mi yX1_addStory cX1_addStory 2 none 1 := ⟨gt_mem (i := 733) (by decide +kernel) (by decide +kernel), gt_mem (i := 95) (by decide +kernel) (by decide +kernel), by decide +kernel, by decide +kernel, by decide +kernel, by decide +kernel⟩
theorem mi_X1_isSign : Mi yX1_isSign cX1_isSign 2 (some .boolean) 1 := ⟨gt_mem (i := 747) (by decide +kernel) (by decide +kernel), gt_mem (i := 95) (by decide +kernel) (by decide +kernel), by decide +kernel, by decide +kernel, by decide +kernel, by decide +kernel⟩
theorem ml_X1_40 : Cond.methodLink RX1 40 yX1_isSign ∈ GT := gt_mem (i := 744) (by decide +kernel) (by decide +kernel)
theorem im_X1_isSign : Cond.instanceMethod yX1_isSign ∈ GT := gt_mem (i := 745) (by decide +kernel) (by decide +kernel)
theorem se_X1_isSign : Cond.selects yX1_isSign.cls yX1_isSign yX1_isSign ∈ GT := gt_mem (i := 746) (by decide +kernel) (by decide +kernel)
theorem mi_X1_tellOfLatest : Mi yX1_tellOfLatest cX1_tellOfLatest 5 none 2 := ⟨gt_mem (i := 743) (by decide +kernel) (by decide +kernel), gt_mem (i := 95) (by decide +kernel) (by decide +kernel), by decide +kernel, by decide +kernel, by decide +kernel, by decide +kernel⟩
theorem fl_X5_174 : Fl RX5 174 1 5 false (.int) 0 := ⟨RX1, TX1, 7, tyX1, clX1, by decide, rfl, gt_mem (i := 350) (by decide +kernel) (by decide +kernel), rfl, rfl, rfl⟩
theorem ml_X5_177 : Cond.methodLink RX5 177 yX1_tellOfLatest ∈ GT := gt_mem (i := 740) (by decide +kernel) (by decide +kernel)
theorem im_X1_tellOfLatest : Cond.instanceMethod yX1_tellOfLatest ∈ GT := gt_mem (i := 741) (by decide +kernel) (by decide +kernel)
theorem se_X1_tellOfLatest : Cond.selects yX1_tellOfLatest.cls yX1_tellOfLatest yX1_tellOfLatest ∈ GT := gt_mem (i := 742) (by decide +kernel) (by decide +kernel)
theorem mi_X5_readWhatItLeaves : Mi yX5_readWhatItLeaves cX5_readWhatItLeaves 5 none 1 := ⟨gt_mem (i := 737) (by decide +kernel) (by decide +kernel), gt_mem (i := 87) (by decide +kernel) (by decide +kernel), by decide +kernel, by decide +kernel, by decide +kernel, by decide +kernel⟩
theorem ml_X5_161 : Cond.methodLink RX5 161 yX1_addStory ∈ GT := gt_mem (i := 730) (by decide +kernel) (by decide +kernel)
theorem im_X1_addStory : Cond.instanceMethod yX1_addStory ∈ GT := gt_mem (i := 731) (by decide +kernel) (by decide +kernel)
theorem se_X1_addStory : Cond.selects yX1_addStory.cls yX1_addStory yX1_addStory ∈ GT := gt_mem (i := 732) (by decide +kernel) (by decide +kernel)
theorem ml_X5_164 : Cond.methodLink RX5 164 yX5_readWhatItLeaves ∈ GT := gt_mem (i := 734) (by decide +kernel) (by decide +kernel)
theorem im_X5_readWhatItLeaves : Cond.instanceMethod yX5_readWhatItLeaves ∈ GT := gt_mem (i := 736) (by decide +kernel) (by decide +kernel)
theorem se_X5_readWhatItLeaves : Cond.selects yX5_readWhatItLeaves.cls yX5_readWhatItLeaves yX5_readWhatItLeaves ∈ GT := gt_mem (i := 18) (by decide +kernel) (by decide +kernel)
theorem mi_X5_readStories : Mi yX5_readStories cX5_readStories 3 none 1 := ⟨gt_mem (i := 728) (by decide +kernel) (by decide +kernel), gt_mem (i := 87) (by decide +kernel) (by decide +kernel), by decide +kernel, by decide +kernel, by decide +kernel, by decide +kernel⟩
theorem fl_X5_83 : Fl RX5 83 10 4 false (.boolean) 0 := ⟨RX10, TX10, 5, tyX10, clX10, by decide, rfl, gt_mem (i := 382) (by decide +kernel) (by decide +kernel), rfl, rfl, rfl⟩
theorem ml_X5_27 : Cond.methodLink RX5 27 yX10_clear ∈ GT := gt_mem (i := 513) (by decide +kernel) (by decide +kernel)
theorem im_X10_clear : Cond.instanceMethod yX10_clear ∈ GT := gt_mem (i := 514) (by decide +kernel) (by decide +kernel)
theorem se_X10_clear : Cond.selects yX10_clear.cls yX10_clear yX10_clear ∈ GT := gt_mem (i := 515) (by decide +kernel) (by decide +kernel)
theorem ml_X5_32 : Cond.methodLink RX5 32 yX8_rewind ∈ GT := gt_mem (i := 541) (by decide +kernel) (by decide +kernel)
theorem im_X8_rewind : Cond.instanceMethod yX8_rewind ∈ GT := gt_mem (i := 542) (by decide +kernel) (by decide +kernel)
theorem se_X8_rewind : Cond.selects yX8_rewind.cls yX8_rewind yX8_rewind ∈ GT := gt_mem (i := 543) (by decide +kernel) (by decide +kernel)
theorem fl_X5_35 : Fl RX5 35 10 0 true (.object "NobodySails$Waters") 2 := ⟨RX10, TX10, 5, tyX10, clX10, by decide, rfl, gt_mem (i := 370) (by decide +kernel) (by decide +kernel), rfl, rfl, rfl⟩
theorem ml_X5_39 : Cond.methodLink RX5 39 yX5_readSize ∈ GT := gt_mem (i := 566) (by decide +kernel) (by decide +kernel)
theorem im_X5_readSize : Cond.instanceMethod yX5_readSize ∈ GT := gt_mem (i := 568) (by decide +kernel) (by decide +kernel)
theorem se_X5_readSize : Cond.selects yX5_readSize.cls yX5_readSize yX5_readSize ∈ GT := gt_mem (i := 4) (by decide +kernel) (by decide +kernel)
theorem ml_X5_43 : Cond.methodLink RX5 43 yX5_readWinds ∈ GT := gt_mem (i := 645) (by decide +kernel) (by decide +kernel)
theorem im_X5_readWinds : Cond.instanceMethod yX5_readWinds ∈ GT := gt_mem (i := 647) (by decide +kernel) (by decide +kernel)
theorem se_X5_readWinds : Cond.selects yX5_readWinds.cls yX5_readWinds yX5_readWinds ∈ GT := gt_mem (i := 9) (by decide +kernel) (by decide +kernel)
theorem ml_X5_46 : Cond.methodLink RX5 46 yX5_readLands ∈ GT := gt_mem (i := 673) (by decide +kernel) (by decide +kernel)
theorem im_X5_readLands : Cond.instanceMethod yX5_readLands ∈ GT := gt_mem (i := 675) (by decide +kernel) (by decide +kernel)
theorem se_X5_readLands : Cond.selects yX5_readLands.cls yX5_readLands yX5_readLands ∈ GT := gt_mem (i := 12) (by decide +kernel) (by decide +kernel)
theorem fl_X5_49 : Fl RX5 49 10 1 true (.object "NobodySails$Hull") 2 := ⟨RX10, TX10, 5, tyX10, clX10, by decide, rfl, gt_mem (i := 373) (by decide +kernel) (by decide +kernel), rfl, rfl, rfl⟩
theorem ml_X5_53 : Cond.methodLink RX5 53 yX5_readShip ∈ GT := gt_mem (i := 687) (by decide +kernel) (by decide +kernel)
theorem im_X5_readShip : Cond.instanceMethod yX5_readShip ∈ GT := gt_mem (i := 689) (by decide +kernel) (by decide +kernel)
theorem se_X5_readShip : Cond.selects yX5_readShip.cls yX5_readShip yX5_readShip ∈ GT := gt_mem (i := 13) (by decide +kernel) (by decide +kernel)
theorem fl_X5_57 : Fl RX5 57 10 2 true (.object "NobodySails$Crew") 2 := ⟨RX10, TX10, 5, tyX10, clX10, by decide, rfl, gt_mem (i := 376) (by decide +kernel) (by decide +kernel), rfl, rfl, rfl⟩
theorem ml_X5_61 : Cond.methodLink RX5 61 yX5_readMen ∈ GT := gt_mem (i := 693) (by decide +kernel) (by decide +kernel)
theorem im_X5_readMen : Cond.instanceMethod yX5_readMen ∈ GT := gt_mem (i := 695) (by decide +kernel) (by decide +kernel)
theorem se_X5_readMen : Cond.selects yX5_readMen.cls yX5_readMen yX5_readMen ∈ GT := gt_mem (i := 14) (by decide +kernel) (by decide +kernel)
theorem fl_X5_65 : Fl RX5 65 10 3 true (.object "NobodySails$Court") 2 := ⟨RX10, TX10, 5, tyX10, clX10, by decide, rfl, gt_mem (i := 379) (by decide +kernel) (by decide +kernel), rfl, rfl, rfl⟩
theorem ml_X5_69 : Cond.methodLink RX5 69 yX5_readSigns ∈ GT := gt_mem (i := 702) (by decide +kernel) (by decide +kernel)
theorem im_X5_readSigns : Cond.instanceMethod yX5_readSigns ∈ GT := gt_mem (i := 704) (by decide +kernel) (by decide +kernel)
theorem se_X5_readSigns : Cond.selects yX5_readSigns.cls yX5_readSigns yX5_readSigns ∈ GT := gt_mem (i := 15) (by decide +kernel) (by decide +kernel)
theorem ml_X5_73 : Cond.methodLink RX5 73 yX5_readStories ∈ GT := gt_mem (i := 725) (by decide +kernel) (by decide +kernel)
theorem im_X5_readStories : Cond.instanceMethod yX5_readStories ∈ GT := gt_mem (i := 727) (by decide +kernel) (by decide +kernel)
theorem se_X5_readStories : Cond.selects yX5_readStories.cls yX5_readStories yX5_readStories ∈ GT := gt_mem (i := 17) (by decide +kernel) (by decide +kernel)
theorem mi_X5_readInto : Mi yX5_readInto cX5_readInto 2 none 1 := ⟨gt_mem (i := 512) (by decide +kernel) (by decide +kernel), gt_mem (i := 87) (by decide +kernel) (by decide +kernel), by decide +kernel, by decide +kernel, by decide +kernel, by decide +kernel⟩
theorem mi_X7_empty : Mi yX7_empty cX7_empty 1 none 0 := ⟨gt_mem (i := 752) (by decide +kernel) (by decide +kernel), gt_mem (i := 86) (by decide +kernel) (by decide +kernel), by decide +kernel, by decide +kernel, by decide +kernel, by decide +kernel⟩
theorem fl_X11_27 : Fl RX11 27 11 2 true (.object "NobodySails$Reader") 2 := ⟨RX11, TX11, 10, tyX11, clX11, by decide, rfl, gt_mem (i := 415) (by decide +kernel) (by decide +kernel), rfl, rfl, rfl⟩
theorem fl_X11_56 : Fl RX11 56 11 7 false (.object "NobodySails$World") 2 := ⟨RX11, TX11, 10, tyX11, clX11, by decide, rfl, gt_mem (i := 420) (by decide +kernel) (by decide +kernel), rfl, rfl, rfl⟩
theorem ml_X11_117 : Cond.methodLink RX11 117 yX5_readInto ∈ GT := gt_mem (i := 509) (by decide +kernel) (by decide +kernel)
theorem im_X5_readInto : Cond.instanceMethod yX5_readInto ∈ GT := gt_mem (i := 510) (by decide +kernel) (by decide +kernel)
theorem se_X5_readInto : Cond.selects yX5_readInto.cls yX5_readInto yX5_readInto ∈ GT := gt_mem (i := 511) (by decide +kernel) (by decide +kernel)
theorem ml_X11_121 : Cond.methodLink RX11 121 yX7_empty ∈ GT := gt_mem (i := 749) (by decide +kernel) (by decide +kernel)
theorem im_X7_empty : Cond.instanceMethod yX7_empty ∈ GT := gt_mem (i := 750) (by decide +kernel) (by decide +kernel)
theorem se_X7_empty : Cond.selects yX7_empty.cls yX7_empty yX7_empty ∈ GT := gt_mem (i := 751) (by decide +kernel) (by decide +kernel)
theorem fl_X11_124 : Fl RX11 124 5 1 false (.int) 0 := ⟨RX5, TX5, 3, tyX5, clX5, by decide, rfl, gt_mem (i := 165) (by decide +kernel) (by decide +kernel), rfl, rfl, rfl⟩
theorem fl_X11_52 : Fl RX11 52 11 6 false (.object "NobodySails$World") 2 := ⟨RX11, TX11, 10, tyX11, clX11, by decide, rfl, gt_mem (i := 419) (by decide +kernel) (by decide +kernel), rfl, rfl, rfl⟩
theorem fl_X11_135 : Fl RX11 135 10 3 true (.object "NobodySails$Court") 2 := ⟨RX10, TX10, 5, tyX10, clX10, by decide, rfl, gt_mem (i := 380) (by decide +kernel) (by decide +kernel), rfl, rfl, rfl⟩
theorem fl_X11_139 : Fl RX11 139 1 6 false (.int) 0 := ⟨RX1, TX1, 7, tyX1, clX1, by decide, rfl, gt_mem (i := 353) (by decide +kernel) (by decide +kernel), rfl, rfl, rfl⟩
theorem fl_X11_127 : Fl RX11 127 11 8 false (.int) 0 := ⟨RX11, TX11, 10, tyX11, clX11, by decide, rfl, gt_mem (i := 421) (by decide +kernel) (by decide +kernel), rfl, rfl, rfl⟩
theorem kl_X11_130 : Jvm.Cond.constantLong RX11 130 (-9000000000000000100) ∈ GT := gt_mem (i := 753) (by decide +kernel) (by decide +kernel)
theorem fl_X11_132 : Fl RX11 132 5 2 false (.int) 0 := ⟨RX5, TX5, 3, tyX5, clX5, by decide, rfl, gt_mem (i := 167) (by decide +kernel) (by decide +kernel), rfl, rfl, rfl⟩
theorem mi_X11_sea : Mi yX11_sea cX11_sea 2 (some .long) 0 := ⟨gt_mem (i := 508) (by decide +kernel) (by decide +kernel), gt_mem (i := 85) (by decide +kernel) (by decide +kernel), by decide +kernel, by decide +kernel, by decide +kernel, by decide +kernel⟩
theorem mi_X11_fault : Mi yX11_fault cX11_fault 1 (some .int) 0 := ⟨gt_mem (i := 757) (by decide +kernel) (by decide +kernel), gt_mem (i := 85) (by decide +kernel) (by decide +kernel), by decide +kernel, by decide +kernel, by decide +kernel, by decide +kernel⟩
theorem mi_X9_isCell : Mi yX9_isCell cX9_isCell 2 (some .boolean) 1 := ⟨gt_mem (i := 771) (by decide +kernel) (by decide +kernel), gt_mem (i := 92) (by decide +kernel) (by decide +kernel), by decide +kernel, by decide +kernel, by decide +kernel, by decide +kernel⟩
theorem mi_X11_isIn : Mi yX11_isIn cX11_isIn 2 (some .boolean) 2 := ⟨gt_mem (i := 774) (by decide +kernel) (by decide +kernel), gt_mem (i := 85) (by decide +kernel) (by decide +kernel), by decide +kernel, by decide +kernel, by decide +kernel, by decide +kernel⟩
theorem ml_X9_48 : Cond.methodLink RX9 48 yX9_isCell ∈ GT := gt_mem (i := 768) (by decide +kernel) (by decide +kernel)
theorem im_X9_isCell : Cond.instanceMethod yX9_isCell ∈ GT := gt_mem (i := 769) (by decide +kernel) (by decide +kernel)
theorem se_X9_isCell : Cond.selects yX9_isCell.cls yX9_isCell yX9_isCell ∈ GT := gt_mem (i := 770) (by decide +kernel) (by decide +kernel)
theorem sm_X11_isIn : Cond.static yX11_isIn ∈ GT := gt_mem (i := 773) (by decide +kernel) (by decide +kernel)
theorem mi_X9_isLand : Mi yX9_isLand cX9_isLand 2 (some .boolean) 1 := ⟨gt_mem (i := 767) (by decide +kernel) (by decide +kernel), gt_mem (i := 92) (by decide +kernel) (by decide +kernel), by decide +kernel, by decide +kernel, by decide +kernel, by decide +kernel⟩
theorem fl_X11_144 : Fl RX11 144 10 4 false (.boolean) 0 := ⟨RX10, TX10, 5, tyX10, clX10, by decide, rfl, gt_mem (i := 383) (by decide +kernel) (by decide +kernel), rfl, rfl, rfl⟩
theorem fl_X11_150 : Fl RX11 150 10 0 true (.object "NobodySails$Waters") 2 := ⟨RX10, TX10, 5, tyX10, clX10, by decide, rfl, gt_mem (i := 371) (by decide +kernel) (by decide +kernel), rfl, rfl, rfl⟩
theorem ml_X11_154 : Cond.methodLink RX11 154 yX9_isInside ∈ GT := gt_mem (i := 763) (by decide +kernel) (by decide +kernel)
theorem fl_X11_159 : Fl RX11 159 10 1 true (.object "NobodySails$Hull") 2 := ⟨RX10, TX10, 5, tyX10, clX10, by decide, rfl, gt_mem (i := 374) (by decide +kernel) (by decide +kernel), rfl, rfl, rfl⟩
theorem fl_X11_163 : Fl RX11 163 4 2 false (.int) 0 := ⟨RX4, TX4, 9, tyX4, clX4, by decide, rfl, gt_mem (i := 283) (by decide +kernel) (by decide +kernel), rfl, rfl, rfl⟩
theorem ml_X11_168 : Cond.methodLink RX11 168 yX9_isLand ∈ GT := gt_mem (i := 764) (by decide +kernel) (by decide +kernel)
theorem im_X9_isLand : Cond.instanceMethod yX9_isLand ∈ GT := gt_mem (i := 765) (by decide +kernel) (by decide +kernel)
theorem se_X9_isLand : Cond.selects yX9_isLand.cls yX9_isLand yX9_isLand ∈ GT := gt_mem (i := 766) (by decide +kernel) (by decide +kernel)
theorem ml_X11_172 : Cond.methodLink RX11 172 yX4_launch ∈ GT := gt_mem (i := 775) (by decide +kernel) (by decide +kernel)
theorem kl_X11_148 : Jvm.Cond.constantLong RX11 148 (-9000000000000000002) ∈ GT := gt_mem (i := 762) (by decide +kernel) (by decide +kernel)
theorem mi_X11_put : Mi yX11_put cX11_put 5 (some .long) 3 := ⟨gt_mem (i := 761) (by decide +kernel) (by decide +kernel), gt_mem (i := 85) (by decide +kernel) (by decide +kernel), by decide +kernel, by decide +kernel, by decide +kernel, by decide +kernel⟩
theorem fl_X11_175 : Fl RX11 175 4 0 false (.int) 0 := ⟨RX4, TX4, 9, tyX4, clX4, by decide, rfl, gt_mem (i := 279) (by decide +kernel) (by decide +kernel), rfl, rfl, rfl⟩
theorem mi_X11_head : Mi yX11_head cX11_head 3 (some .long) 1 := ⟨gt_mem (i := 779) (by decide +kernel) (by decide +kernel), gt_mem (i := 85) (by decide +kernel) (by decide +kernel), by decide +kernel, by decide +kernel, by decide +kernel, by decide +kernel⟩
theorem mi_X9_drawWind : Mi yX9_drawWind cX9_drawWind 7 (some .int) 1 := ⟨gt_mem (i := 790) (by decide +kernel) (by decide +kernel), gt_mem (i := 92) (by decide +kernel) (by decide +kernel), by decide +kernel, by decide +kernel, by decide +kernel, by decide +kernel⟩
theorem mi_X4_isSunk : Mi yX4_isSunk cX4_isSunk 1 (some .boolean) 0 := ⟨gt_mem (i := 798) (by decide +kernel) (by decide +kernel), gt_mem (i := 93) (by decide +kernel) (by decide +kernel), by decide +kernel, by decide +kernel, by decide +kernel, by decide +kernel⟩
theorem fs_X9_64 : Cond.fieldLink RX9 64 "NobodySails$Waters" "EAST" "[I" ∈ GT := gt_mem (i := 803) (by decide +kernel) (by decide +kernel)
theorem fs_X9_67 : Cond.fieldLink RX9 67 "NobodySails$Waters" "SOUTH" "[I" ∈ GT := gt_mem (i := 805) (by decide +kernel) (by decide +kernel)
theorem mi_X9_cellBehind : Mi yX9_cellBehind cX9_cellBehind 7 (some .int) 3 := ⟨gt_mem (i := 802) (by decide +kernel) (by decide +kernel), gt_mem (i := 92) (by decide +kernel) (by decide +kernel), by decide +kernel, by decide +kernel, by decide +kernel, by decide +kernel⟩
theorem ml_X4_67 : Cond.methodLink RX4 67 Lib.Math.min.name ∈ GT := gt_mem (i := 812) (by decide +kernel) (by decide +kernel)
theorem sm_min : Cond.static Lib.Math.min.name ∈ GT := gt_mem (i := 813) (by decide +kernel) (by decide +kernel)
theorem in_math : Cond.initialized "java/lang/Math" ∈ GT := gt_mem (i := 103) (by decide +kernel) (by decide +kernel)
theorem co_min : Cond.code Lib.Math.min.name Lib.Math.min.code 2 (some .int) ∈ GT := gt_mem (i := 814) (by decide +kernel) (by decide +kernel)
theorem ml_X4_73 : Cond.methodLink RX4 73 Lib.Math.max.name ∈ GT := gt_mem (i := 815) (by decide +kernel) (by decide +kernel)
theorem sm_max : Cond.static Lib.Math.max.name ∈ GT := gt_mem (i := 816) (by decide +kernel) (by decide +kernel)
theorem co_max : Cond.code Lib.Math.max.name Lib.Math.max.code 2 (some .int) ∈ GT := gt_mem (i := 817) (by decide +kernel) (by decide +kernel)
theorem mi_X4_held : Mi yX4_held cX4_held 2 (some .int) 1 := ⟨gt_mem (i := 811) (by decide +kernel) (by decide +kernel), gt_mem (i := 93) (by decide +kernel) (by decide +kernel), by decide +kernel, by decide +kernel, by decide +kernel, by decide +kernel⟩
theorem ml_X4_62 : Cond.methodLink RX4 62 yX4_held ∈ GT := gt_mem (i := 808) (by decide +kernel) (by decide +kernel)
theorem im_X4_held : Cond.instanceMethod yX4_held ∈ GT := gt_mem (i := 810) (by decide +kernel) (by decide +kernel)
theorem se_X4_held : Cond.selects yX4_held.cls yX4_held yX4_held ∈ GT := gt_mem (i := 19) (by decide +kernel) (by decide +kernel)
theorem ml_X4_48 : Cond.methodLink RX4 48 yX4_isSunk ∈ GT := gt_mem (i := 795) (by decide +kernel) (by decide +kernel)
theorem im_X4_isSunk : Cond.instanceMethod yX4_isSunk ∈ GT := gt_mem (i := 796) (by decide +kernel) (by decide +kernel)
theorem se_X4_isSunk : Cond.selects yX4_isSunk.cls yX4_isSunk yX4_isSunk ∈ GT := gt_mem (i := 797) (by decide +kernel) (by decide +kernel)
theorem ml_X4_52 : Cond.methodLink RX4 52 yX9_cellBehind ∈ GT := gt_mem (i := 799) (by decide +kernel) (by decide +kernel)
theorem im_X9_cellBehind : Cond.instanceMethod yX9_cellBehind ∈ GT := gt_mem (i := 800) (by decide +kernel) (by decide +kernel)
theorem se_X9_cellBehind : Cond.selects yX9_cellBehind.cls yX9_cellBehind yX9_cellBehind ∈ GT := gt_mem (i := 801) (by decide +kernel) (by decide +kernel)
theorem ml_X4_58 : Cond.methodLink RX4 58 yX9_isLand ∈ GT := gt_mem (i := 807) (by decide +kernel) (by decide +kernel)
theorem mi_X4_passHour : Mi yX4_passHour cX4_passHour 4 none 3 := ⟨gt_mem (i := 794) (by decide +kernel) (by decide +kernel), gt_mem (i := 93) (by decide +kernel) (by decide +kernel), by decide +kernel, by decide +kernel, by decide +kernel, by decide +kernel⟩
theorem fl_X11_194 : Fl RX11 194 4 6 false (.int) 0 := ⟨RX4, TX4, 9, tyX4, clX4, by decide, rfl, gt_mem (i := 291) (by decide +kernel) (by decide +kernel), rfl, rfl, rfl⟩
theorem ml_X11_190 : Cond.methodLink RX11 190 yX4_passHour ∈ GT := gt_mem (i := 791) (by decide +kernel) (by decide +kernel)
theorem im_X4_passHour : Cond.instanceMethod yX4_passHour ∈ GT := gt_mem (i := 792) (by decide +kernel) (by decide +kernel)
theorem se_X4_passHour : Cond.selects yX4_passHour.cls yX4_passHour yX4_passHour ∈ GT := gt_mem (i := 793) (by decide +kernel) (by decide +kernel)
theorem kl_X11_182 : Jvm.Cond.constantLong RX11 182 (16807) ∈ GT := gt_mem (i := 785) (by decide +kernel) (by decide +kernel)
theorem kl_X11_184 : Jvm.Cond.constantLong RX11 184 (2147483647) ∈ GT := gt_mem (i := 786) (by decide +kernel) (by decide +kernel)
theorem ml_X11_186 : Cond.methodLink RX11 186 yX9_drawWind ∈ GT := gt_mem (i := 787) (by decide +kernel) (by decide +kernel)
theorem im_X9_drawWind : Cond.instanceMethod yX9_drawWind ∈ GT := gt_mem (i := 788) (by decide +kernel) (by decide +kernel)
theorem se_X9_drawWind : Cond.selects yX9_drawWind.cls yX9_drawWind yX9_drawWind ∈ GT := gt_mem (i := 789) (by decide +kernel) (by decide +kernel)
theorem fl_X11_178 : Fl RX11 178 4 3 false (.boolean) 0 := ⟨RX4, TX4, 9, tyX4, clX4, by decide, rfl, gt_mem (i := 285) (by decide +kernel) (by decide +kernel), rfl, rfl, rfl⟩
theorem k_X11_181 : Jvm.Cond.constant RX11 181 (999999) ∈ GT := gt_mem (i := 784) (by decide +kernel) (by decide +kernel)
theorem mi_X11_sailed : Mi yX11_sailed cX11_sailed 7 (some .long) 3 := ⟨gt_mem (i := 783) (by decide +kernel) (by decide +kernel), gt_mem (i := 85) (by decide +kernel) (by decide +kernel), by decide +kernel, by decide +kernel, by decide +kernel, by decide +kernel⟩
theorem mi_X6_isAllWithin : Mi yX6_isAllWithin cX6_isAllWithin 5 (some .boolean) 3 := ⟨gt_mem (i := 825) (by decide +kernel) (by decide +kernel), gt_mem (i := 96) (by decide +kernel) (by decide +kernel), by decide +kernel, by decide +kernel, by decide +kernel, by decide +kernel⟩
theorem fl_X11_197 : Fl RX11 197 9 5 false (.int) 0 := ⟨RX9, TX9, 7, tyX9, clX9, by decide, rfl, gt_mem (i := 253) (by decide +kernel) (by decide +kernel), rfl, rfl, rfl⟩
theorem ml_X11_200 : Cond.methodLink RX11 200 yX6_isAllWithin ∈ GT := gt_mem (i := 822) (by decide +kernel) (by decide +kernel)
theorem im_X6_isAllWithin : Cond.instanceMethod yX6_isAllWithin ∈ GT := gt_mem (i := 823) (by decide +kernel) (by decide +kernel)
theorem se_X6_isAllWithin : Cond.selects yX6_isAllWithin.cls yX6_isAllWithin yX6_isAllWithin ∈ GT := gt_mem (i := 824) (by decide +kernel) (by decide +kernel)
theorem mi_X11_blown : Mi yX11_blown cX11_blown 6 (some .long) 3 := ⟨gt_mem (i := 821) (by decide +kernel) (by decide +kernel), gt_mem (i := 85) (by decide +kernel) (by decide +kernel), by decide +kernel, by decide +kernel, by decide +kernel, by decide +kernel⟩
theorem fl_X11_203 : Fl RX11 203 4 4 false (.int) 0 := ⟨RX4, TX4, 9, tyX4, clX4, by decide, rfl, gt_mem (i := 287) (by decide +kernel) (by decide +kernel), rfl, rfl, rfl⟩
theorem fl_X11_206 : Fl RX11 206 4 5 false (.int) 0 := ⟨RX4, TX4, 9, tyX4, clX4, by decide, rfl, gt_mem (i := 289) (by decide +kernel) (by decide +kernel), rfl, rfl, rfl⟩
theorem fl_X11_209 : Fl RX11 209 4 7 false (.boolean) 0 := ⟨RX4, TX4, 9, tyX4, clX4, by decide, rfl, gt_mem (i := 293) (by decide +kernel) (by decide +kernel), rfl, rfl, rfl⟩
theorem ml_X11_212 : Cond.methodLink RX11 212 yX4_isSunk ∈ GT := gt_mem (i := 831) (by decide +kernel) (by decide +kernel)
theorem mi_X11_ship : Mi yX11_ship cX11_ship 3 (some .long) 1 := ⟨gt_mem (i := 830) (by decide +kernel) (by decide +kernel), gt_mem (i := 85) (by decide +kernel) (by decide +kernel), by decide +kernel, by decide +kernel, by decide +kernel, by decide +kernel⟩
theorem ml_X9_55 : Cond.methodLink RX9 55 yX9_isLand ∈ GT := gt_mem (i := 840) (by decide +kernel) (by decide +kernel)
theorem mi_X9_isOpen : Mi yX9_isOpen cX9_isOpen 2 (some .boolean) 1 := ⟨gt_mem (i := 839) (by decide +kernel) (by decide +kernel), gt_mem (i := 92) (by decide +kernel) (by decide +kernel), by decide +kernel, by decide +kernel, by decide +kernel, by decide +kernel⟩
theorem fl_X3_9 : Fl RX3 9 3 0 false (.array .long) 2 := ⟨RX3, TX3, 5, tyX3, clX3, by decide, rfl, gt_mem (i := 183) (by decide +kernel) (by decide +kernel), rfl, rfl, rfl⟩
theorem fl_X3_15 : Fl RX3 15 3 1 false (.array .int) 2 := ⟨RX3, TX3, 5, tyX3, clX3, by decide, rfl, gt_mem (i := 185) (by decide +kernel) (by decide +kernel), rfl, rfl, rfl⟩
theorem mi_X3_begin : Mi yX3_begin cX3_begin 3 none 1 := ⟨gt_mem (i := 849) (by decide +kernel) (by decide +kernel), gt_mem (i := 89) (by decide +kernel) (by decide +kernel), by decide +kernel, by decide +kernel, by decide +kernel, by decide +kernel⟩
theorem mi_X9_oddsOf : Mi yX9_oddsOf cX9_oddsOf 2 (some .int) 1 := ⟨gt_mem (i := 863) (by decide +kernel) (by decide +kernel), gt_mem (i := 92) (by decide +kernel) (by decide +kernel), by decide +kernel, by decide +kernel, by decide +kernel, by decide +kernel⟩
theorem fl_X3_19 : Fl RX3 19 3 2 false (.array .long) 2 := ⟨RX3, TX3, 5, tyX3, clX3, by decide, rfl, gt_mem (i := 187) (by decide +kernel) (by decide +kernel), rfl, rfl, rfl⟩
theorem ml_X3_61 : Cond.methodLink RX3 61 yX9_oddsOf ∈ GT := gt_mem (i := 860) (by decide +kernel) (by decide +kernel)
theorem im_X9_oddsOf : Cond.instanceMethod yX9_oddsOf ∈ GT := gt_mem (i := 861) (by decide +kernel) (by decide +kernel)
theorem se_X9_oddsOf : Cond.selects yX9_oddsOf.cls yX9_oddsOf yX9_oddsOf ∈ GT := gt_mem (i := 862) (by decide +kernel) (by decide +kernel)
theorem fl_X3_22 : Fl RX3 22 3 3 false (.array .int) 2 := ⟨RX3, TX3, 5, tyX3, clX3, by decide, rfl, gt_mem (i := 188) (by decide +kernel) (by decide +kernel), rfl, rfl, rfl⟩
theorem fl_X3_54 : Fl RX3 54 9 5 false (.int) 0 := ⟨RX9, TX9, 7, tyX9, clX9, by decide, rfl, gt_mem (i := 252) (by decide +kernel) (by decide +kernel), rfl, rfl, rfl⟩
theorem ml_X3_57 : Cond.methodLink RX3 57 yX9_cellBehind ∈ GT := gt_mem (i := 859) (by decide +kernel) (by decide +kernel)
theorem ml_X3_50 : Cond.methodLink RX3 50 yX9_isLand ∈ GT := gt_mem (i := 858) (by decide +kernel) (by decide +kernel)
theorem mi_X3_spread : Mi yX3_spread cX3_spread 7 none 3 := ⟨gt_mem (i := 857) (by decide +kernel) (by decide +kernel), gt_mem (i := 89) (by decide +kernel) (by decide +kernel), by decide +kernel, by decide +kernel, by decide +kernel, by decide +kernel⟩
theorem ml_X3_46 : Cond.methodLink RX3 46 yX3_spread ∈ GT := gt_mem (i := 854) (by decide +kernel) (by decide +kernel)
theorem im_X3_spread : Cond.instanceMethod yX3_spread ∈ GT := gt_mem (i := 856) (by decide +kernel) (by decide +kernel)
theorem se_X3_spread : Cond.selects yX3_spread.cls yX3_spread yX3_spread ∈ GT := gt_mem (i := 22) (by decide +kernel) (by decide +kernel)
theorem mi_X3_passHour : Mi yX3_passHour cX3_passHour 5 none 2 := ⟨gt_mem (i := 853) (by decide +kernel) (by decide +kernel), gt_mem (i := 89) (by decide +kernel) (by decide +kernel), by decide +kernel, by decide +kernel, by decide +kernel, by decide +kernel⟩
theorem ml_X3_32 : Cond.methodLink RX3 32 yX3_passHour ∈ GT := gt_mem (i := 850) (by decide +kernel) (by decide +kernel)
theorem im_X3_passHour : Cond.instanceMethod yX3_passHour ∈ GT := gt_mem (i := 852) (by decide +kernel) (by decide +kernel)
theorem se_X3_passHour : Cond.selects yX3_passHour.cls yX3_passHour yX3_passHour ∈ GT := gt_mem (i := 21) (by decide +kernel) (by decide +kernel)
theorem ml_X3_28 : Cond.methodLink RX3 28 yX3_begin ∈ GT := gt_mem (i := 846) (by decide +kernel) (by decide +kernel)
theorem im_X3_begin : Cond.instanceMethod yX3_begin ∈ GT := gt_mem (i := 848) (by decide +kernel) (by decide +kernel)
theorem se_X3_begin : Cond.selects yX3_begin.cls yX3_begin yX3_begin ∈ GT := gt_mem (i := 20) (by decide +kernel) (by decide +kernel)
theorem mi_X3_go : Mi yX3_go cX3_go 6 none 4 := ⟨gt_mem (i := 845) (by decide +kernel) (by decide +kernel), gt_mem (i := 89) (by decide +kernel) (by decide +kernel), by decide +kernel, by decide +kernel, by decide +kernel, by decide +kernel⟩
theorem mi_X11_power : Mi yX11_power cX11_power 6 (some .long) 2 := ⟨gt_mem (i := 866) (by decide +kernel) (by decide +kernel), gt_mem (i := 85) (by decide +kernel) (by decide +kernel), by decide +kernel, by decide +kernel, by decide +kernel, by decide +kernel⟩
theorem mi_X11_partOfFraction : Mi yX11_partOfFraction cX11_partOfFraction 12 (some .long) 3 := ⟨gt_mem (i := 869) (by decide +kernel) (by decide +kernel), gt_mem (i := 85) (by decide +kernel) (by decide +kernel), by decide +kernel, by decide +kernel, by decide +kernel, by decide +kernel⟩
theorem ml_X11_215 : Cond.methodLink RX11 215 yX9_isOpen ∈ GT := gt_mem (i := 836) (by decide +kernel) (by decide +kernel)
theorem im_X9_isOpen : Cond.instanceMethod yX9_isOpen ∈ GT := gt_mem (i := 837) (by decide +kernel) (by decide +kernel)
theorem se_X9_isOpen : Cond.selects yX9_isOpen.cls yX9_isOpen yX9_isOpen ∈ GT := gt_mem (i := 838) (by decide +kernel) (by decide +kernel)
theorem ml_X11_218 : Cond.methodLink RX11 218 yX9_isCell ∈ GT := gt_mem (i := 841) (by decide +kernel) (by decide +kernel)
theorem fl_X11_40 : Fl RX11 40 11 4 true (.object "NobodySails$Drift") 2 := ⟨RX11, TX11, 10, tyX11, clX11, by decide, rfl, gt_mem (i := 417) (by decide +kernel) (by decide +kernel), rfl, rfl, rfl⟩
theorem ml_X11_221 : Cond.methodLink RX11 221 yX3_go ∈ GT := gt_mem (i := 842) (by decide +kernel) (by decide +kernel)
theorem im_X3_go : Cond.instanceMethod yX3_go ∈ GT := gt_mem (i := 843) (by decide +kernel) (by decide +kernel)
theorem se_X3_go : Cond.selects yX3_go.cls yX3_go yX3_go ∈ GT := gt_mem (i := 844) (by decide +kernel) (by decide +kernel)
theorem fl_X11_228 : Fl RX11 228 3 0 false (.array .long) 2 := ⟨RX3, TX3, 5, tyX3, clX3, by decide, rfl, gt_mem (i := 184) (by decide +kernel) (by decide +kernel), rfl, rfl, rfl⟩
theorem fl_X11_232 : Fl RX11 232 9 6 false (.int) 0 := ⟨RX9, TX9, 7, tyX9, clX9, by decide, rfl, gt_mem (i := 256) (by decide +kernel) (by decide +kernel), rfl, rfl, rfl⟩
theorem ml_X11_235 : Cond.methodLink RX11 235 yX11_power ∈ GT := gt_mem (i := 864) (by decide +kernel) (by decide +kernel)
theorem sm_X11_power : Cond.static yX11_power ∈ GT := gt_mem (i := 865) (by decide +kernel) (by decide +kernel)
theorem ml_X11_239 : Cond.methodLink RX11 239 yX11_partOfFraction ∈ GT := gt_mem (i := 867) (by decide +kernel) (by decide +kernel)
theorem sm_X11_partOfFraction : Cond.static yX11_partOfFraction ∈ GT := gt_mem (i := 868) (by decide +kernel) (by decide +kernel)
theorem fl_X11_225 : Fl RX11 225 3 1 false (.array .int) 2 := ⟨RX3, TX3, 5, tyX3, clX3, by decide, rfl, gt_mem (i := 186) (by decide +kernel) (by decide +kernel), rfl, rfl, rfl⟩
theorem mi_X11_herself : Mi yX11_herself cX11_herself 6 (some .long) 5 := ⟨gt_mem (i := 835) (by decide +kernel) (by decide +kernel), gt_mem (i := 85) (by decide +kernel) (by decide +kernel), by decide +kernel, by decide +kernel, by decide +kernel, by decide +kernel⟩
theorem fl_X3_25 : Fl RX3 25 3 4 true (.array .long) 2 := ⟨RX3, TX3, 5, tyX3, clX3, by decide, rfl, gt_mem (i := 189) (by decide +kernel) (by decide +kernel), rfl, rfl, rfl⟩
theorem fl_X3_36 : Fl RX3 36 9 6 false (.int) 0 := ⟨RX9, TX9, 7, tyX9, clX9, by decide, rfl, gt_mem (i := 255) (by decide +kernel) (by decide +kernel), rfl, rfl, rfl⟩
theorem mi_X3_timeArrivals : Mi yX3_timeArrivals cX3_timeArrivals 6 none 4 := ⟨gt_mem (i := 877) (by decide +kernel) (by decide +kernel), gt_mem (i := 89) (by decide +kernel) (by decide +kernel), by decide +kernel, by decide +kernel, by decide +kernel, by decide +kernel⟩
theorem fl_X11_246 : Fl RX11 246 3 4 true (.array .long) 2 := ⟨RX3, TX3, 5, tyX3, clX3, by decide, rfl, gt_mem (i := 190) (by decide +kernel) (by decide +kernel), rfl, rfl, rfl⟩
theorem ml_X11_243 : Cond.methodLink RX11 243 yX3_timeArrivals ∈ GT := gt_mem (i := 874) (by decide +kernel) (by decide +kernel)
theorem im_X3_timeArrivals : Cond.instanceMethod yX3_timeArrivals ∈ GT := gt_mem (i := 875) (by decide +kernel) (by decide +kernel)
theorem se_X3_timeArrivals : Cond.selects yX3_timeArrivals.cls yX3_timeArrivals yX3_timeArrivals ∈ GT := gt_mem (i := 876) (by decide +kernel) (by decide +kernel)
theorem mi_X11_could : Mi yX11_could cX11_could 5 (some .long) 2 := ⟨gt_mem (i := 873) (by decide +kernel) (by decide +kernel), gt_mem (i := 85) (by decide +kernel) (by decide +kernel), by decide +kernel, by decide +kernel, by decide +kernel, by decide +kernel⟩
theorem mi_X11_isSetOfHours : Mi yX11_isSetOfHours cX11_isSetOfHours 1 (some .boolean) 1 := ⟨gt_mem (i := 885) (by decide +kernel) (by decide +kernel), gt_mem (i := 85) (by decide +kernel) (by decide +kernel), by decide +kernel, by decide +kernel, by decide +kernel, by decide +kernel⟩
theorem ml_X11_253 : Cond.methodLink RX11 253 yX11_isIn ∈ GT := gt_mem (i := 887) (by decide +kernel) (by decide +kernel)
theorem ml_X11_249 : Cond.methodLink RX11 249 yX11_isSetOfHours ∈ GT := gt_mem (i := 883) (by decide +kernel) (by decide +kernel)
theorem sm_X11_isSetOfHours : Cond.static yX11_isSetOfHours ∈ GT := gt_mem (i := 884) (by decide +kernel) (by decide +kernel)
theorem k_X11_252 : Jvm.Cond.constant RX11 252 (-1000000) ∈ GT := gt_mem (i := 886) (by decide +kernel) (by decide +kernel)
theorem mi_X11_leftAt : Mi yX11_leftAt cX11_leftAt 8 (some .long) 3 := ⟨gt_mem (i := 882) (by decide +kernel) (by decide +kernel), gt_mem (i := 85) (by decide +kernel) (by decide +kernel), by decide +kernel, by decide +kernel, by decide +kernel, by decide +kernel⟩
theorem kl_X11_256 : Jvm.Cond.constantLong RX11 256 (-1000000) ∈ GT := gt_mem (i := 892) (by decide +kernel) (by decide +kernel)
theorem mi_X11_leftOdds : Mi yX11_leftOdds cX11_leftOdds 9 (some .long) 5 := ⟨gt_mem (i := 891) (by decide +kernel) (by decide +kernel), gt_mem (i := 85) (by decide +kernel) (by decide +kernel), by decide +kernel, by decide +kernel, by decide +kernel, by decide +kernel⟩
theorem mi_X3_likeliestCell : Mi yX3_likeliestCell cX3_likeliestCell 3 (some .int) 0 := ⟨gt_mem (i := 900) (by decide +kernel) (by decide +kernel), gt_mem (i := 89) (by decide +kernel) (by decide +kernel), by decide +kernel, by decide +kernel, by decide +kernel, by decide +kernel⟩
theorem ml_X11_258 : Cond.methodLink RX11 258 yX3_likeliestCell ∈ GT := gt_mem (i := 897) (by decide +kernel) (by decide +kernel)
theorem im_X3_likeliestCell : Cond.instanceMethod yX3_likeliestCell ∈ GT := gt_mem (i := 898) (by decide +kernel) (by decide +kernel)
theorem se_X3_likeliestCell : Cond.selects yX3_likeliestCell.cls yX3_likeliestCell yX3_likeliestCell ∈ GT := gt_mem (i := 899) (by decide +kernel) (by decide +kernel)
theorem mi_X11_boat : Mi yX11_boat cX11_boat 4 (some .long) 3 := ⟨gt_mem (i := 896) (by decide +kernel) (by decide +kernel), gt_mem (i := 85) (by decide +kernel) (by decide +kernel), by decide +kernel, by decide +kernel, by decide +kernel, by decide +kernel⟩
theorem mi_X11_thought : Mi yX11_thought cX11_thought 4 (some .long) 3 := ⟨gt_mem (i := 904) (by decide +kernel) (by decide +kernel), gt_mem (i := 85) (by decide +kernel) (by decide +kernel), by decide +kernel, by decide +kernel, by decide +kernel, by decide +kernel⟩
theorem mi_X11_isTold : Mi yX11_isTold cX11_isTold 2 (some .boolean) 2 := ⟨gt_mem (i := 911) (by decide +kernel) (by decide +kernel), gt_mem (i := 85) (by decide +kernel) (by decide +kernel), by decide +kernel, by decide +kernel, by decide +kernel, by decide +kernel⟩
theorem mi_X4_waterByRod : Mi yX4_waterByRod cX4_waterByRod 4 (some .int) 3 := ⟨gt_mem (i := 915) (by decide +kernel) (by decide +kernel), gt_mem (i := 93) (by decide +kernel) (by decide +kernel), by decide +kernel, by decide +kernel, by decide +kernel, by decide +kernel⟩
theorem ml_X11_262 : Cond.methodLink RX11 262 yX11_isTold ∈ GT := gt_mem (i := 909) (by decide +kernel) (by decide +kernel)
theorem sm_X11_isTold : Cond.static yX11_isTold ∈ GT := gt_mem (i := 910) (by decide +kernel) (by decide +kernel)
theorem ml_X11_265 : Cond.methodLink RX11 265 yX4_waterByRod ∈ GT := gt_mem (i := 912) (by decide +kernel) (by decide +kernel)
theorem im_X4_waterByRod : Cond.instanceMethod yX4_waterByRod ∈ GT := gt_mem (i := 913) (by decide +kernel) (by decide +kernel)
theorem se_X4_waterByRod : Cond.selects yX4_waterByRod.cls yX4_waterByRod yX4_waterByRod ∈ GT := gt_mem (i := 914) (by decide +kernel) (by decide +kernel)
theorem mi_X11_seemed : Mi yX11_seemed cX11_seemed 4 (some .long) 3 := ⟨gt_mem (i := 908) (by decide +kernel) (by decide +kernel), gt_mem (i := 85) (by decide +kernel) (by decide +kernel), by decide +kernel, by decide +kernel, by decide +kernel, by decide +kernel⟩
theorem k_X4_66 : Jvm.Cond.constant RX4 66 (-1000000) ∈ GT := gt_mem (i := 924) (by decide +kernel) (by decide +kernel)
theorem mi_X4_hoursToDeep : Mi yX4_hoursToDeep cX4_hoursToDeep 2 (some .int) 1 := ⟨gt_mem (i := 923) (by decide +kernel) (by decide +kernel), gt_mem (i := 93) (by decide +kernel) (by decide +kernel), by decide +kernel, by decide +kernel, by decide +kernel, by decide +kernel⟩
theorem ml_X11_269 : Cond.methodLink RX11 269 yX4_hoursToDeep ∈ GT := gt_mem (i := 920) (by decide +kernel) (by decide +kernel)
theorem im_X4_hoursToDeep : Cond.instanceMethod yX4_hoursToDeep ∈ GT := gt_mem (i := 921) (by decide +kernel) (by decide +kernel)
theorem se_X4_hoursToDeep : Cond.selects yX4_hoursToDeep.cls yX4_hoursToDeep yX4_hoursToDeep ∈ GT := gt_mem (i := 922) (by decide +kernel) (by decide +kernel)
theorem mi_X11_deep : Mi yX11_deep cX11_deep 2 (some .long) 1 := ⟨gt_mem (i := 919) (by decide +kernel) (by decide +kernel), gt_mem (i := 85) (by decide +kernel) (by decide +kernel), by decide +kernel, by decide +kernel, by decide +kernel, by decide +kernel⟩
theorem fl_X11_273 : Fl RX11 273 4 1 false (.int) 0 := ⟨RX4, TX4, 9, tyX4, clX4, by decide, rfl, gt_mem (i := 281) (by decide +kernel) (by decide +kernel), rfl, rfl, rfl⟩
theorem ml_X11_276 : Cond.methodLink RX11 276 Lib.Math.max.name ∈ GT := gt_mem (i := 929) (by decide +kernel) (by decide +kernel)
theorem mi_X11_was : Mi yX11_was cX11_was 5 (some .long) 4 := ⟨gt_mem (i := 928) (by decide +kernel) (by decide +kernel), gt_mem (i := 85) (by decide +kernel) (by decide +kernel), by decide +kernel, by decide +kernel, by decide +kernel, by decide +kernel⟩
theorem mi_X11_bang : Mi yX11_bang cX11_bang 10 (some .long) 5 := ⟨gt_mem (i := 933) (by decide +kernel) (by decide +kernel), gt_mem (i := 85) (by decide +kernel) (by decide +kernel), by decide +kernel, by decide +kernel, by decide +kernel, by decide +kernel⟩
theorem k_J6_265 : Jvm.Cond.constant RJ6 265 (1431655765) ∈ GT := gt_mem (i := 949) (by decide +kernel) (by decide +kernel)
theorem k_J6_266 : Jvm.Cond.constant RJ6 266 (858993459) ∈ GT := gt_mem (i := 950) (by decide +kernel) (by decide +kernel)
theorem k_J6_267 : Jvm.Cond.constant RJ6 267 (252645135) ∈ GT := gt_mem (i := 951) (by decide +kernel) (by decide +kernel)
theorem mi_J6_bitCount_0f7a4 : Mi yJ6_bitCount_0f7a4 cJ6_bitCount_0f7a4 1 (some .int) 1 := ⟨gt_mem (i := 948) (by decide +kernel) (by decide +kernel), gt_mem (i := 104) (by decide +kernel) (by decide +kernel), by decide +kernel, by decide +kernel, by decide +kernel, by decide +kernel⟩
theorem ml_X2_36 : Cond.methodLink RX2 36 yJ6_bitCount_0f7a4 ∈ GT := gt_mem (i := 946) (by decide +kernel) (by decide +kernel)
theorem sm_J6_bitCount_0f7a4 : Cond.static yJ6_bitCount_0f7a4 ∈ GT := gt_mem (i := 947) (by decide +kernel) (by decide +kernel)
theorem mi_X2_leavingBeside : Mi yX2_leavingBeside cX2_leavingBeside 7 (some .int) 3 := ⟨gt_mem (i := 945) (by decide +kernel) (by decide +kernel), gt_mem (i := 94) (by decide +kernel) (by decide +kernel), by decide +kernel, by decide +kernel, by decide +kernel, by decide +kernel⟩
theorem ml_X2_28 : Cond.methodLink RX2 28 yX2_leavingBeside ∈ GT := gt_mem (i := 942) (by decide +kernel) (by decide +kernel)
theorem im_X2_leavingBeside : Cond.instanceMethod yX2_leavingBeside ∈ GT := gt_mem (i := 944) (by decide +kernel) (by decide +kernel)
theorem se_X2_leavingBeside : Cond.selects yX2_leavingBeside.cls yX2_leavingBeside yX2_leavingBeside ∈ GT := gt_mem (i := 23) (by decide +kernel) (by decide +kernel)
theorem mi_X2_leaving : Mi yX2_leaving cX2_leaving 8 (some .int) 3 := ⟨gt_mem (i := 941) (by decide +kernel) (by decide +kernel), gt_mem (i := 94) (by decide +kernel) (by decide +kernel), by decide +kernel, by decide +kernel, by decide +kernel, by decide +kernel⟩
theorem fl_X11_281 : Fl RX11 281 10 2 true (.object "NobodySails$Crew") 2 := ⟨RX10, TX10, 5, tyX10, clX10, by decide, rfl, gt_mem (i := 377) (by decide +kernel) (by decide +kernel), rfl, rfl, rfl⟩
theorem ml_X11_285 : Cond.methodLink RX11 285 yX2_leaving ∈ GT := gt_mem (i := 938) (by decide +kernel) (by decide +kernel)
theorem im_X2_leaving : Cond.instanceMethod yX2_leaving ∈ GT := gt_mem (i := 939) (by decide +kernel) (by decide +kernel)
theorem se_X2_leaving : Cond.selects yX2_leaving.cls yX2_leaving yX2_leaving ∈ GT := gt_mem (i := 940) (by decide +kernel) (by decide +kernel)
theorem mi_X11_leave : Mi yX11_leave cX11_leave 4 (some .long) 3 := ⟨gt_mem (i := 937) (by decide +kernel) (by decide +kernel), gt_mem (i := 85) (by decide +kernel) (by decide +kernel), by decide +kernel, by decide +kernel, by decide +kernel, by decide +kernel⟩
theorem ml_X2_33 : Cond.methodLink RX2 33 yX2_leaving ∈ GT := gt_mem (i := 961) (by decide +kernel) (by decide +kernel)
theorem k_X2_32 : Jvm.Cond.constant RX2 32 (-1000000) ∈ GT := gt_mem (i := 960) (by decide +kernel) (by decide +kernel)
theorem mi_X2_leastWaterForAll : Mi yX2_leastWaterForAll cX2_leastWaterForAll 6 (some .int) 1 := ⟨gt_mem (i := 959) (by decide +kernel) (by decide +kernel), gt_mem (i := 94) (by decide +kernel) (by decide +kernel), by decide +kernel, by decide +kernel, by decide +kernel, by decide +kernel⟩
theorem ml_X11_290 : Cond.methodLink RX11 290 yX2_leastWaterForAll ∈ GT := gt_mem (i := 956) (by decide +kernel) (by decide +kernel)
theorem im_X2_leastWaterForAll : Cond.instanceMethod yX2_leastWaterForAll ∈ GT := gt_mem (i := 957) (by decide +kernel) (by decide +kernel)
theorem se_X2_leastWaterForAll : Cond.selects yX2_leastWaterForAll.cls yX2_leastWaterForAll yX2_leastWaterForAll ∈ GT := gt_mem (i := 958) (by decide +kernel) (by decide +kernel)
theorem mi_X11_leastWater : Mi yX11_leastWater cX11_leastWater 2 (some .long) 1 := ⟨gt_mem (i := 955) (by decide +kernel) (by decide +kernel), gt_mem (i := 85) (by decide +kernel) (by decide +kernel), by decide +kernel, by decide +kernel, by decide +kernel, by decide +kernel⟩
theorem mi_X1_storiesWith : Mi yX1_storiesWith cX1_storiesWith 5 (some .int) 2 := ⟨gt_mem (i := 970) (by decide +kernel) (by decide +kernel), gt_mem (i := 95) (by decide +kernel) (by decide +kernel), by decide +kernel, by decide +kernel, by decide +kernel, by decide +kernel⟩
theorem ml_X11_293 : Cond.methodLink RX11 293 yX1_isSign ∈ GT := gt_mem (i := 966) (by decide +kernel) (by decide +kernel)
theorem fl_X11_296 : Fl RX11 296 1 1 true (.array .int) 2 := ⟨RX1, TX1, 7, tyX1, clX1, by decide, rfl, gt_mem (i := 342) (by decide +kernel) (by decide +kernel), rfl, rfl, rfl⟩
theorem fl_X11_299 : Fl RX11 299 1 2 true (.array .int) 2 := ⟨RX1, TX1, 7, tyX1, clX1, by decide, rfl, gt_mem (i := 345) (by decide +kernel) (by decide +kernel), rfl, rfl, rfl⟩
theorem ml_X11_302 : Cond.methodLink RX11 302 yX1_storiesWith ∈ GT := gt_mem (i := 967) (by decide +kernel) (by decide +kernel)
theorem im_X1_storiesWith : Cond.instanceMethod yX1_storiesWith ∈ GT := gt_mem (i := 968) (by decide +kernel) (by decide +kernel)
theorem se_X1_storiesWith : Cond.selects yX1_storiesWith.cls yX1_storiesWith yX1_storiesWith ∈ GT := gt_mem (i := 969) (by decide +kernel) (by decide +kernel)
theorem fl_X11_306 : Fl RX11 306 1 3 true (.array .int) 2 := ⟨RX1, TX1, 7, tyX1, clX1, by decide, rfl, gt_mem (i := 347) (by decide +kernel) (by decide +kernel), rfl, rfl, rfl⟩
theorem mi_X11_sign : Mi yX11_sign cX11_sign 3 (some .long) 2 := ⟨gt_mem (i := 965) (by decide +kernel) (by decide +kernel), gt_mem (i := 85) (by decide +kernel) (by decide +kernel), by decide +kernel, by decide +kernel, by decide +kernel, by decide +kernel⟩
theorem mi_X1_underOath : Mi yX1_underOath cX1_underOath 4 (some .int) 1 := ⟨gt_mem (i := 979) (by decide +kernel) (by decide +kernel), gt_mem (i := 95) (by decide +kernel) (by decide +kernel), by decide +kernel, by decide +kernel, by decide +kernel, by decide +kernel⟩
theorem ml_X11_309 : Cond.methodLink RX11 309 yX1_underOath ∈ GT := gt_mem (i := 976) (by decide +kernel) (by decide +kernel)
theorem im_X1_underOath : Cond.instanceMethod yX1_underOath ∈ GT := gt_mem (i := 977) (by decide +kernel) (by decide +kernel)
theorem se_X1_underOath : Cond.selects yX1_underOath.cls yX1_underOath yX1_underOath ∈ GT := gt_mem (i := 978) (by decide +kernel) (by decide +kernel)
theorem mi_X11_oath : Mi yX11_oath cX11_oath 2 (some .long) 1 := ⟨gt_mem (i := 975) (by decide +kernel) (by decide +kernel), gt_mem (i := 85) (by decide +kernel) (by decide +kernel), by decide +kernel, by decide +kernel, by decide +kernel, by decide +kernel⟩
theorem mi_X1_inventedFor : Mi yX1_inventedFor cX1_inventedFor 4 (some .int) 1 := ⟨gt_mem (i := 987) (by decide +kernel) (by decide +kernel), gt_mem (i := 95) (by decide +kernel) (by decide +kernel), by decide +kernel, by decide +kernel, by decide +kernel, by decide +kernel⟩
theorem ml_X11_312 : Cond.methodLink RX11 312 yX1_inventedFor ∈ GT := gt_mem (i := 984) (by decide +kernel) (by decide +kernel)
theorem im_X1_inventedFor : Cond.instanceMethod yX1_inventedFor ∈ GT := gt_mem (i := 985) (by decide +kernel) (by decide +kernel)
theorem se_X1_inventedFor : Cond.selects yX1_inventedFor.cls yX1_inventedFor yX1_inventedFor ∈ GT := gt_mem (i := 986) (by decide +kernel) (by decide +kernel)
theorem mi_X11_madeUp : Mi yX11_madeUp cX11_madeUp 2 (some .long) 1 := ⟨gt_mem (i := 983) (by decide +kernel) (by decide +kernel), gt_mem (i := 85) (by decide +kernel) (by decide +kernel), by decide +kernel, by decide +kernel, by decide +kernel, by decide +kernel⟩
theorem mi_X1_isStory : Mi yX1_isStory cX1_isStory 2 (some .boolean) 1 := ⟨gt_mem (i := 995) (by decide +kernel) (by decide +kernel), gt_mem (i := 95) (by decide +kernel) (by decide +kernel), by decide +kernel, by decide +kernel, by decide +kernel, by decide +kernel⟩
theorem mi_X1_isSetOfSigns : Mi yX1_isSetOfSigns cX1_isSetOfSigns 2 (some .boolean) 1 := ⟨gt_mem (i := 999) (by decide +kernel) (by decide +kernel), gt_mem (i := 95) (by decide +kernel) (by decide +kernel), by decide +kernel, by decide +kernel, by decide +kernel, by decide +kernel⟩
theorem kl_X1_55 : Jvm.Cond.constantLong RX1 55 (2) ∈ GT := gt_mem (i := 1005) (by decide +kernel) (by decide +kernel)
theorem kl_X1_57 : Jvm.Cond.constantLong RX1 57 (4) ∈ GT := gt_mem (i := 1006) (by decide +kernel) (by decide +kernel)
theorem ml_X1_52 : Cond.methodLink RX1 52 yX1_isStory ∈ GT := gt_mem (i := 1004) (by decide +kernel) (by decide +kernel)
theorem im_X1_isStory : Cond.instanceMethod yX1_isStory ∈ GT := gt_mem (i := 993) (by decide +kernel) (by decide +kernel)
theorem se_X1_isStory : Cond.selects yX1_isStory.cls yX1_isStory yX1_isStory ∈ GT := gt_mem (i := 994) (by decide +kernel) (by decide +kernel)
theorem mi_X1_weight : Mi yX1_weight cX1_weight 7 (some .long) 2 := ⟨gt_mem (i := 1003) (by decide +kernel) (by decide +kernel), gt_mem (i := 95) (by decide +kernel) (by decide +kernel), by decide +kernel, by decide +kernel, by decide +kernel, by decide +kernel⟩
theorem ml_X11_321 : Cond.methodLink RX11 321 yX1_weight ∈ GT := gt_mem (i := 1000) (by decide +kernel) (by decide +kernel)
theorem im_X1_weight : Cond.instanceMethod yX1_weight ∈ GT := gt_mem (i := 1001) (by decide +kernel) (by decide +kernel)
theorem se_X1_weight : Cond.selects yX1_weight.cls yX1_weight yX1_weight ∈ GT := gt_mem (i := 1002) (by decide +kernel) (by decide +kernel)
theorem ml_X11_315 : Cond.methodLink RX11 315 yX1_isStory ∈ GT := gt_mem (i := 992) (by decide +kernel) (by decide +kernel)
theorem ml_X11_318 : Cond.methodLink RX11 318 yX1_isSetOfSigns ∈ GT := gt_mem (i := 996) (by decide +kernel) (by decide +kernel)
theorem im_X1_isSetOfSigns : Cond.instanceMethod yX1_isSetOfSigns ∈ GT := gt_mem (i := 997) (by decide +kernel) (by decide +kernel)
theorem se_X1_isSetOfSigns : Cond.selects yX1_isSetOfSigns.cls yX1_isSetOfSigns yX1_isSetOfSigns ∈ GT := gt_mem (i := 998) (by decide +kernel) (by decide +kernel)
theorem mi_X11_odds : Mi yX11_odds cX11_odds 8 (some .long) 3 := ⟨gt_mem (i := 991) (by decide +kernel) (by decide +kernel), gt_mem (i := 85) (by decide +kernel) (by decide +kernel), by decide +kernel, by decide +kernel, by decide +kernel, by decide +kernel⟩
theorem ml_X1_60 : Cond.methodLink RX1 60 yX1_weight ∈ GT := gt_mem (i := 1016) (by decide +kernel) (by decide +kernel)
theorem k_X1_59 : Jvm.Cond.constant RX1 59 (-1000000) ∈ GT := gt_mem (i := 1015) (by decide +kernel) (by decide +kernel)
theorem mi_X1_likeliestStory : Mi yX1_likeliestStory cX1_likeliestStory 8 (some .int) 1 := ⟨gt_mem (i := 1014) (by decide +kernel) (by decide +kernel), gt_mem (i := 95) (by decide +kernel) (by decide +kernel), by decide +kernel, by decide +kernel, by decide +kernel, by decide +kernel⟩
theorem ml_X11_325 : Cond.methodLink RX11 325 yX1_likeliestStory ∈ GT := gt_mem (i := 1011) (by decide +kernel) (by decide +kernel)
theorem im_X1_likeliestStory : Cond.instanceMethod yX1_likeliestStory ∈ GT := gt_mem (i := 1012) (by decide +kernel) (by decide +kernel)
theorem se_X1_likeliestStory : Cond.selects yX1_likeliestStory.cls yX1_likeliestStory yX1_likeliestStory ∈ GT := gt_mem (i := 1013) (by decide +kernel) (by decide +kernel)
theorem mi_X11_likeliest : Mi yX11_likeliest cX11_likeliest 2 (some .long) 1 := ⟨gt_mem (i := 1010) (by decide +kernel) (by decide +kernel), gt_mem (i := 85) (by decide +kernel) (by decide +kernel), by decide +kernel, by decide +kernel, by decide +kernel, by decide +kernel⟩
theorem mi_X11_lacks : Mi yX11_lacks cX11_lacks 5 (some .long) 3 := ⟨gt_mem (i := 1020) (by decide +kernel) (by decide +kernel), gt_mem (i := 85) (by decide +kernel) (by decide +kernel), by decide +kernel, by decide +kernel, by decide +kernel, by decide +kernel⟩
theorem ml_X1_64 : Cond.methodLink RX1 64 yX1_storiesWith ∈ GT := gt_mem (i := 1029) (by decide +kernel) (by decide +kernel)
theorem ml_X1_68 : Cond.methodLink RX1 68 yJ6_bitCount_0f7a4 ∈ GT := gt_mem (i := 1030) (by decide +kernel) (by decide +kernel)
theorem mi_X1_signToAskFor : Mi yX1_signToAskFor cX1_signToAskFor 7 (some .int) 1 := ⟨gt_mem (i := 1028) (by decide +kernel) (by decide +kernel), gt_mem (i := 95) (by decide +kernel) (by decide +kernel), by decide +kernel, by decide +kernel, by decide +kernel, by decide +kernel⟩
theorem ml_X11_328 : Cond.methodLink RX11 328 yX1_signToAskFor ∈ GT := gt_mem (i := 1025) (by decide +kernel) (by decide +kernel)
theorem im_X1_signToAskFor : Cond.instanceMethod yX1_signToAskFor ∈ GT := gt_mem (i := 1026) (by decide +kernel) (by decide +kernel)
theorem se_X1_signToAskFor : Cond.selects yX1_signToAskFor.cls yX1_signToAskFor yX1_signToAskFor ∈ GT := gt_mem (i := 1027) (by decide +kernel) (by decide +kernel)
theorem mi_X11_next : Mi yX11_next cX11_next 2 (some .long) 1 := ⟨gt_mem (i := 1024) (by decide +kernel) (by decide +kernel), gt_mem (i := 85) (by decide +kernel) (by decide +kernel), by decide +kernel, by decide +kernel, by decide +kernel, by decide +kernel⟩
theorem ml_X9_34 : Cond.methodLink RX9 34 arraycopyName ∈ GT := gt_mem (i := 1043) (by decide +kernel) (by decide +kernel)
theorem mi_X9_become : Mi yX9_become cX9_become 2 none 1 := ⟨gt_mem (i := 1042) (by decide +kernel) (by decide +kernel), gt_mem (i := 92) (by decide +kernel) (by decide +kernel), by decide +kernel, by decide +kernel, by decide +kernel, by decide +kernel⟩
theorem mi_X4_become : Mi yX4_become cX4_become 2 none 1 := ⟨gt_mem (i := 1047) (by decide +kernel) (by decide +kernel), gt_mem (i := 93) (by decide +kernel) (by decide +kernel), by decide +kernel, by decide +kernel, by decide +kernel, by decide +kernel⟩
theorem ml_X2_22 : Cond.methodLink RX2 22 arraycopyName ∈ GT := gt_mem (i := 1052) (by decide +kernel) (by decide +kernel)
theorem mi_X2_become : Mi yX2_become cX2_become 2 none 1 := ⟨gt_mem (i := 1051) (by decide +kernel) (by decide +kernel), gt_mem (i := 94) (by decide +kernel) (by decide +kernel), by decide +kernel, by decide +kernel, by decide +kernel, by decide +kernel⟩
theorem ml_X1_34 : Cond.methodLink RX1 34 arraycopyName ∈ GT := gt_mem (i := 1057) (by decide +kernel) (by decide +kernel)
theorem mi_X1_become : Mi yX1_become cX1_become 2 none 1 := ⟨gt_mem (i := 1056) (by decide +kernel) (by decide +kernel), gt_mem (i := 95) (by decide +kernel) (by decide +kernel), by decide +kernel, by decide +kernel, by decide +kernel, by decide +kernel⟩
theorem ml_X10_47 : Cond.methodLink RX10 47 yX9_become ∈ GT := gt_mem (i := 1039) (by decide +kernel) (by decide +kernel)
theorem im_X9_become : Cond.instanceMethod yX9_become ∈ GT := gt_mem (i := 1040) (by decide +kernel) (by decide +kernel)
theorem se_X9_become : Cond.selects yX9_become.cls yX9_become yX9_become ∈ GT := gt_mem (i := 1041) (by decide +kernel) (by decide +kernel)
theorem ml_X10_51 : Cond.methodLink RX10 51 yX4_become ∈ GT := gt_mem (i := 1044) (by decide +kernel) (by decide +kernel)
theorem im_X4_become : Cond.instanceMethod yX4_become ∈ GT := gt_mem (i := 1045) (by decide +kernel) (by decide +kernel)
theorem se_X4_become : Cond.selects yX4_become.cls yX4_become yX4_become ∈ GT := gt_mem (i := 1046) (by decide +kernel) (by decide +kernel)
theorem ml_X10_54 : Cond.methodLink RX10 54 yX2_become ∈ GT := gt_mem (i := 1048) (by decide +kernel) (by decide +kernel)
theorem im_X2_become : Cond.instanceMethod yX2_become ∈ GT := gt_mem (i := 1049) (by decide +kernel) (by decide +kernel)
theorem se_X2_become : Cond.selects yX2_become.cls yX2_become yX2_become ∈ GT := gt_mem (i := 1050) (by decide +kernel) (by decide +kernel)
theorem ml_X10_57 : Cond.methodLink RX10 57 yX1_become ∈ GT := gt_mem (i := 1053) (by decide +kernel) (by decide +kernel)
theorem im_X1_become : Cond.instanceMethod yX1_become ∈ GT := gt_mem (i := 1054) (by decide +kernel) (by decide +kernel)
theorem se_X1_become : Cond.selects yX1_become.cls yX1_become yX1_become ∈ GT := gt_mem (i := 1055) (by decide +kernel) (by decide +kernel)
theorem mi_X10_become : Mi yX10_become cX10_become 2 none 1 := ⟨gt_mem (i := 1038) (by decide +kernel) (by decide +kernel), gt_mem (i := 91) (by decide +kernel) (by decide +kernel), by decide +kernel, by decide +kernel, by decide +kernel, by decide +kernel⟩
theorem fl_X11_33 : Fl RX11 33 11 3 true (.array (.object "NobodySails$World")) 2 := ⟨RX11, TX11, 10, tyX11, clX11, by decide, rfl, gt_mem (i := 416) (by decide +kernel) (by decide +kernel), rfl, rfl, rfl⟩
theorem ml_X11_331 : Cond.methodLink RX11 331 yX10_become ∈ GT := gt_mem (i := 1035) (by decide +kernel) (by decide +kernel)
theorem im_X10_become : Cond.instanceMethod yX10_become ∈ GT := gt_mem (i := 1036) (by decide +kernel) (by decide +kernel)
theorem se_X10_become : Cond.selects yX10_become.cls yX10_become yX10_become ∈ GT := gt_mem (i := 1037) (by decide +kernel) (by decide +kernel)
theorem mi_X11_image : Mi yX11_image cX11_image 2 (some .long) 1 := ⟨gt_mem (i := 1034) (by decide +kernel) (by decide +kernel), gt_mem (i := 85) (by decide +kernel) (by decide +kernel), by decide +kernel, by decide +kernel, by decide +kernel, by decide +kernel⟩
theorem mi_X11_restore : Mi yX11_restore cX11_restore 2 (some .long) 1 := ⟨gt_mem (i := 1061) (by decide +kernel) (by decide +kernel), gt_mem (i := 85) (by decide +kernel) (by decide +kernel), by decide +kernel, by decide +kernel, by decide +kernel, by decide +kernel⟩
theorem fl_X11_334 : Fl RX11 334 1 0 true (.array .int) 2 := ⟨RX1, TX1, 7, tyX1, clX1, by decide, rfl, gt_mem (i := 339) (by decide +kernel) (by decide +kernel), rfl, rfl, rfl⟩
theorem mi_X11_kind : Mi yX11_kind cX11_kind 2 (some .long) 1 := ⟨gt_mem (i := 1065) (by decide +kernel) (by decide +kernel), gt_mem (i := 85) (by decide +kernel) (by decide +kernel), by decide +kernel, by decide +kernel, by decide +kernel, by decide +kernel⟩
theorem mi_X11_kindAbove : Mi yX11_kindAbove cX11_kindAbove 1 (some .int) 1 := ⟨gt_mem (i := 1075) (by decide +kernel) (by decide +kernel), gt_mem (i := 85) (by decide +kernel) (by decide +kernel), by decide +kernel, by decide +kernel, by decide +kernel, by decide +kernel⟩
theorem ml_X11_378 : Cond.methodLink RX11 378 yX11_kindAbove ∈ GT := gt_mem (i := 1073) (by decide +kernel) (by decide +kernel)
theorem sm_X11_kindAbove : Cond.static yX11_kindAbove ∈ GT := gt_mem (i := 1074) (by decide +kernel) (by decide +kernel)
theorem mi_X11_isKindOf : Mi yX11_isKindOf cX11_isKindOf 2 (some .boolean) 2 := ⟨gt_mem (i := 1072) (by decide +kernel) (by decide +kernel), gt_mem (i := 85) (by decide +kernel) (by decide +kernel), by decide +kernel, by decide +kernel, by decide +kernel, by decide +kernel⟩
theorem ml_X11_337 : Cond.methodLink RX11 337 yX11_isKindOf ∈ GT := gt_mem (i := 1070) (by decide +kernel) (by decide +kernel)
theorem sm_X11_isKindOf : Cond.static yX11_isKindOf ∈ GT := gt_mem (i := 1071) (by decide +kernel) (by decide +kernel)
theorem mi_X11_as : Mi yX11_as cX11_as 3 (some .long) 2 := ⟨gt_mem (i := 1069) (by decide +kernel) (by decide +kernel), gt_mem (i := 85) (by decide +kernel) (by decide +kernel), by decide +kernel, by decide +kernel, by decide +kernel, by decide +kernel⟩
theorem fl_X0_15 : Fl RX0 15 0 1 false (.int) 0 := ⟨RX0, TX0, 6, tyX0, clX0, by decide, rfl, gt_mem (i := 212) (by decide +kernel) (by decide +kernel), rfl, rfl, rfl⟩
theorem ml_X0_19 : Cond.methodLink RX0 19 yX1_isSign ∈ GT := gt_mem (i := 1084) (by decide +kernel) (by decide +kernel)
theorem fl_X0_25 : Fl RX0 25 0 2 false (.int) 0 := ⟨RX0, TX0, 6, tyX0, clX0, by decide, rfl, gt_mem (i := 214) (by decide +kernel) (by decide +kernel), rfl, rfl, rfl⟩
theorem fl_X0_28 : Fl RX0 28 1 0 true (.array .int) 2 := ⟨RX1, TX1, 7, tyX1, clX1, by decide, rfl, gt_mem (i := 338) (by decide +kernel) (by decide +kernel), rfl, rfl, rfl⟩
theorem fl_X0_31 : Fl RX0 31 0 3 false (.int) 0 := ⟨RX0, TX0, 6, tyX0, clX0, by decide, rfl, gt_mem (i := 215) (by decide +kernel) (by decide +kernel), rfl, rfl, rfl⟩
theorem fl_X0_34 : Fl RX0 34 1 1 true (.array .int) 2 := ⟨RX1, TX1, 7, tyX1, clX1, by decide, rfl, gt_mem (i := 341) (by decide +kernel) (by decide +kernel), rfl, rfl, rfl⟩
theorem fl_X0_37 : Fl RX0 37 0 4 false (.int) 0 := ⟨RX0, TX0, 6, tyX0, clX0, by decide, rfl, gt_mem (i := 216) (by decide +kernel) (by decide +kernel), rfl, rfl, rfl⟩
theorem fl_X0_40 : Fl RX0 40 1 2 true (.array .int) 2 := ⟨RX1, TX1, 7, tyX1, clX1, by decide, rfl, gt_mem (i := 344) (by decide +kernel) (by decide +kernel), rfl, rfl, rfl⟩
theorem ml_X0_43 : Cond.methodLink RX0 43 yX1_storiesWith ∈ GT := gt_mem (i := 1085) (by decide +kernel) (by decide +kernel)
theorem ml_X0_47 : Cond.methodLink RX0 47 yJ6_bitCount_0f7a4 ∈ GT := gt_mem (i := 1086) (by decide +kernel) (by decide +kernel)
theorem fl_X0_53 : Fl RX0 53 0 5 false (.int) 0 := ⟨RX0, TX0, 6, tyX0, clX0, by decide, rfl, gt_mem (i := 217) (by decide +kernel) (by decide +kernel), rfl, rfl, rfl⟩
theorem mi_X0_begin : Mi yX0_begin cX0_begin 3 none 2 := ⟨gt_mem (i := 1083) (by decide +kernel) (by decide +kernel), gt_mem (i := 90) (by decide +kernel) (by decide +kernel), by decide +kernel, by decide +kernel, by decide +kernel, by decide +kernel⟩
theorem fl_X0_9 : Fl RX0 9 0 0 true (.array .int) 2 := ⟨RX0, TX0, 6, tyX0, clX0, by decide, rfl, gt_mem (i := 210) (by decide +kernel) (by decide +kernel), rfl, rfl, rfl⟩
theorem mi_X0_write : Mi yX0_write cX0_write 2 none 1 := ⟨gt_mem (i := 1098) (by decide +kernel) (by decide +kernel), gt_mem (i := 90) (by decide +kernel) (by decide +kernel), by decide +kernel, by decide +kernel, by decide +kernel, by decide +kernel⟩
theorem ml_X0_88 : Cond.methodLink RX0 88 yX0_write ∈ GT := gt_mem (i := 1095) (by decide +kernel) (by decide +kernel)
theorem im_X0_write : Cond.instanceMethod yX0_write ∈ GT := gt_mem (i := 1097) (by decide +kernel) (by decide +kernel)
theorem se_X0_write : Cond.selects yX0_write.cls yX0_write yX0_write ∈ GT := gt_mem (i := 25) (by decide +kernel) (by decide +kernel)
theorem mi_X0_body10 : Mi yX0_body10 cX0_body10 1 (some .long) 0 := ⟨gt_mem (i := 1102) (by decide +kernel) (by decide +kernel), gt_mem (i := 90) (by decide +kernel) (by decide +kernel), by decide +kernel, by decide +kernel, by decide +kernel, by decide +kernel⟩
theorem mi_X0_body20 : Mi yX0_body20 cX0_body20 1 (some .long) 0 := ⟨gt_mem (i := 1114) (by decide +kernel) (by decide +kernel), gt_mem (i := 90) (by decide +kernel) (by decide +kernel), by decide +kernel, by decide +kernel, by decide +kernel, by decide +kernel⟩
theorem ml_X0_85 : Cond.methodLink RX0 85 yX0_body20 ∈ GT := gt_mem (i := 1111) (by decide +kernel) (by decide +kernel)
theorem im_X0_body20 : Cond.instanceMethod yX0_body20 ∈ GT := gt_mem (i := 1113) (by decide +kernel) (by decide +kernel)
theorem se_X0_body20 : Cond.selects yX0_body20.cls yX0_body20 yX0_body20 ∈ GT := gt_mem (i := 28) (by decide +kernel) (by decide +kernel)
theorem mi_X0_body23 : Mi yX0_body23 cX0_body23 1 (some .long) 0 := ⟨gt_mem (i := 1128) (by decide +kernel) (by decide +kernel), gt_mem (i := 90) (by decide +kernel) (by decide +kernel), by decide +kernel, by decide +kernel, by decide +kernel, by decide +kernel⟩
theorem kl_X0_95 : Jvm.Cond.constantLong RX0 95 (10) ∈ GT := gt_mem (i := 1133) (by decide +kernel) (by decide +kernel)
theorem ml_X0_70 : Cond.methodLink RX0 70 yX0_body10 ∈ GT := gt_mem (i := 1099) (by decide +kernel) (by decide +kernel)
theorem im_X0_body10 : Cond.instanceMethod yX0_body10 ∈ GT := gt_mem (i := 1101) (by decide +kernel) (by decide +kernel)
theorem se_X0_body10 : Cond.selects yX0_body10.cls yX0_body10 yX0_body10 ∈ GT := gt_mem (i := 26) (by decide +kernel) (by decide +kernel)
theorem mi_X0_body12 : Mi yX0_body12 cX0_body12 1 (some .long) 0 := ⟨gt_mem (i := 1132) (by decide +kernel) (by decide +kernel), gt_mem (i := 90) (by decide +kernel) (by decide +kernel), by decide +kernel, by decide +kernel, by decide +kernel, by decide +kernel⟩
theorem mi_X0_body13 : Mi yX0_body13 cX0_body13 1 (some .long) 0 := ⟨gt_mem (i := 1137) (by decide +kernel) (by decide +kernel), gt_mem (i := 90) (by decide +kernel) (by decide +kernel), by decide +kernel, by decide +kernel, by decide +kernel, by decide +kernel⟩
theorem ml_X0_64 : Cond.methodLink RX0 64 yX0_body13 ∈ GT := gt_mem (i := 1134) (by decide +kernel) (by decide +kernel)
theorem im_X0_body13 : Cond.instanceMethod yX0_body13 ∈ GT := gt_mem (i := 1136) (by decide +kernel) (by decide +kernel)
theorem se_X0_body13 : Cond.selects yX0_body13.cls yX0_body13 yX0_body13 ∈ GT := gt_mem (i := 33) (by decide +kernel) (by decide +kernel)
theorem mi_X0_body14 : Mi yX0_body14 cX0_body14 1 (some .long) 0 := ⟨gt_mem (i := 1141) (by decide +kernel) (by decide +kernel), gt_mem (i := 90) (by decide +kernel) (by decide +kernel), by decide +kernel, by decide +kernel, by decide +kernel, by decide +kernel⟩
theorem ml_X0_60 : Cond.methodLink RX0 60 yX0_body12 ∈ GT := gt_mem (i := 1129) (by decide +kernel) (by decide +kernel)
theorem im_X0_body12 : Cond.instanceMethod yX0_body12 ∈ GT := gt_mem (i := 1131) (by decide +kernel) (by decide +kernel)
theorem se_X0_body12 : Cond.selects yX0_body12.cls yX0_body12 yX0_body12 ∈ GT := gt_mem (i := 32) (by decide +kernel) (by decide +kernel)
theorem ml_X0_67 : Cond.methodLink RX0 67 yX0_body14 ∈ GT := gt_mem (i := 1138) (by decide +kernel) (by decide +kernel)
theorem im_X0_body14 : Cond.instanceMethod yX0_body14 ∈ GT := gt_mem (i := 1140) (by decide +kernel) (by decide +kernel)
theorem se_X0_body14 : Cond.selects yX0_body14.cls yX0_body14 yX0_body14 ∈ GT := gt_mem (i := 34) (by decide +kernel) (by decide +kernel)
theorem mi_X0_askSize : Mi yX0_askSize cX0_askSize 2 (some .long) 1 := ⟨gt_mem (i := 1090) (by decide +kernel) (by decide +kernel), gt_mem (i := 90) (by decide +kernel) (by decide +kernel), by decide +kernel, by decide +kernel, by decide +kernel, by decide +kernel⟩
theorem ml_X0_82 : Cond.methodLink RX0 82 yX0_body23 ∈ GT := gt_mem (i := 1125) (by decide +kernel) (by decide +kernel)
theorem im_X0_body23 : Cond.instanceMethod yX0_body23 ∈ GT := gt_mem (i := 1127) (by decide +kernel) (by decide +kernel)
theorem se_X0_body23 : Cond.selects yX0_body23.cls yX0_body23 yX0_body23 ∈ GT := gt_mem (i := 31) (by decide +kernel) (by decide +kernel)
theorem mi_X0_askMark : Mi yX0_askMark cX0_askMark 2 (some .long) 1 := ⟨gt_mem (i := 1106) (by decide +kernel) (by decide +kernel), gt_mem (i := 90) (by decide +kernel) (by decide +kernel), by decide +kernel, by decide +kernel, by decide +kernel, by decide +kernel⟩
theorem ml_X0_92 : Cond.methodLink RX0 92 yX0_askMark ∈ GT := gt_mem (i := 1103) (by decide +kernel) (by decide +kernel)
theorem im_X0_askMark : Cond.instanceMethod yX0_askMark ∈ GT := gt_mem (i := 1104) (by decide +kernel) (by decide +kernel)
theorem se_X0_askMark : Cond.selects yX0_askMark.cls yX0_askMark yX0_askMark ∈ GT := gt_mem (i := 1105) (by decide +kernel) (by decide +kernel)
theorem mi_X0_body11 : Mi yX0_body11 cX0_body11 2 (some .long) 1 := ⟨gt_mem (i := 1094) (by decide +kernel) (by decide +kernel), gt_mem (i := 90) (by decide +kernel) (by decide +kernel), by decide +kernel, by decide +kernel, by decide +kernel, by decide +kernel⟩
theorem ml_X0_97 : Cond.methodLink RX0 97 yX0_askSize ∈ GT := gt_mem (i := 1115) (by decide +kernel) (by decide +kernel)
theorem im_X0_askSize : Cond.instanceMethod yX0_askSize ∈ GT := gt_mem (i := 1088) (by decide +kernel) (by decide +kernel)
theorem se_X0_askSize : Cond.selects yX0_askSize.cls yX0_askSize yX0_askSize ∈ GT := gt_mem (i := 1089) (by decide +kernel) (by decide +kernel)
theorem mi_X0_body24 : Mi yX0_body24 cX0_body24 2 (some .long) 1 := ⟨gt_mem (i := 1110) (by decide +kernel) (by decide +kernel), gt_mem (i := 90) (by decide +kernel) (by decide +kernel), by decide +kernel, by decide +kernel, by decide +kernel, by decide +kernel⟩
theorem mi_X0_body21 : Mi yX0_body21 cX0_body21 2 (some .long) 1 := ⟨gt_mem (i := 1119) (by decide +kernel) (by decide +kernel), gt_mem (i := 90) (by decide +kernel) (by decide +kernel), by decide +kernel, by decide +kernel, by decide +kernel, by decide +kernel⟩
theorem ml_X0_76 : Cond.methodLink RX0 76 yX0_body21 ∈ GT := gt_mem (i := 1116) (by decide +kernel) (by decide +kernel)
theorem im_X0_body21 : Cond.instanceMethod yX0_body21 ∈ GT := gt_mem (i := 1118) (by decide +kernel) (by decide +kernel)
theorem se_X0_body21 : Cond.selects yX0_body21.cls yX0_body21 yX0_body21 ∈ GT := gt_mem (i := 29) (by decide +kernel) (by decide +kernel)
theorem kl_X0_100 : Jvm.Cond.constantLong RX0 100 (100) ∈ GT := gt_mem (i := 1124) (by decide +kernel) (by decide +kernel)
theorem mi_X0_body22 : Mi yX0_body22 cX0_body22 2 (some .long) 1 := ⟨gt_mem (i := 1123) (by decide +kernel) (by decide +kernel), gt_mem (i := 90) (by decide +kernel) (by decide +kernel), by decide +kernel, by decide +kernel, by decide +kernel, by decide +kernel⟩
theorem ml_X0_56 : Cond.methodLink RX0 56 yX0_body11 ∈ GT := gt_mem (i := 1091) (by decide +kernel) (by decide +kernel)
theorem im_X0_body11 : Cond.instanceMethod yX0_body11 ∈ GT := gt_mem (i := 1093) (by decide +kernel) (by decide +kernel)
theorem se_X0_body11 : Cond.selects yX0_body11.cls yX0_body11 yX0_body11 ∈ GT := gt_mem (i := 24) (by decide +kernel) (by decide +kernel)
theorem ml_X0_73 : Cond.methodLink RX0 73 yX0_body24 ∈ GT := gt_mem (i := 1107) (by decide +kernel) (by decide +kernel)
theorem im_X0_body24 : Cond.instanceMethod yX0_body24 ∈ GT := gt_mem (i := 1109) (by decide +kernel) (by decide +kernel)
theorem se_X0_body24 : Cond.selects yX0_body24.cls yX0_body24 yX0_body24 ∈ GT := gt_mem (i := 27) (by decide +kernel) (by decide +kernel)
theorem ml_X0_79 : Cond.methodLink RX0 79 yX0_body22 ∈ GT := gt_mem (i := 1120) (by decide +kernel) (by decide +kernel)
theorem im_X0_body22 : Cond.instanceMethod yX0_body22 ∈ GT := gt_mem (i := 1122) (by decide +kernel) (by decide +kernel)
theorem se_X0_body22 : Cond.selects yX0_body22.cls yX0_body22 yX0_body22 ∈ GT := gt_mem (i := 30) (by decide +kernel) (by decide +kernel)
theorem fl_X11_47 : Fl RX11 47 11 5 true (.object "NobodySails$Asker") 2 := ⟨RX11, TX11, 10, tyX11, clX11, by decide, rfl, gt_mem (i := 418) (by decide +kernel) (by decide +kernel), rfl, rfl, rfl⟩
theorem ml_X11_340 : Cond.methodLink RX11 340 yX0_begin ∈ GT := gt_mem (i := 1080) (by decide +kernel) (by decide +kernel)
theorem im_X0_begin : Cond.instanceMethod yX0_begin ∈ GT := gt_mem (i := 1081) (by decide +kernel) (by decide +kernel)
theorem se_X0_begin : Cond.selects yX0_begin.cls yX0_begin yX0_begin ∈ GT := gt_mem (i := 1082) (by decide +kernel) (by decide +kernel)
theorem ml_X11_346 : Cond.methodLink RX11 346 yX0_askMark ∈ GT := gt_mem (i := 1142) (by decide +kernel) (by decide +kernel)
theorem ml_X11_343 : Cond.methodLink RX11 343 yX0_askSize ∈ GT := gt_mem (i := 1087) (by decide +kernel) (by decide +kernel)
theorem mi_X11_ask : Mi yX11_ask cX11_ask 3 (some .long) 2 := ⟨gt_mem (i := 1079) (by decide +kernel) (by decide +kernel), gt_mem (i := 85) (by decide +kernel) (by decide +kernel), by decide +kernel, by decide +kernel, by decide +kernel, by decide +kernel⟩
theorem fl_X11_349 : Fl RX11 349 0 1 false (.int) 0 := ⟨RX0, TX0, 6, tyX0, clX0, by decide, rfl, gt_mem (i := 213) (by decide +kernel) (by decide +kernel), rfl, rfl, rfl⟩
theorem fl_X11_352 : Fl RX11 352 0 0 true (.array .int) 2 := ⟨RX0, TX0, 6, tyX0, clX0, by decide, rfl, gt_mem (i := 211) (by decide +kernel) (by decide +kernel), rfl, rfl, rfl⟩
theorem mi_X11_trace : Mi yX11_trace cX11_trace 2 (some .int) 1 := ⟨gt_mem (i := 1146) (by decide +kernel) (by decide +kernel), gt_mem (i := 85) (by decide +kernel) (by decide +kernel), by decide +kernel, by decide +kernel, by decide +kernel, by decide +kernel⟩
theorem mi_X11_rowsThere : Mi yX11_rowsThere cX11_rowsThere 3 (some .int) 0 := ⟨gt_mem (i := 1154) (by decide +kernel) (by decide +kernel), gt_mem (i := 85) (by decide +kernel) (by decide +kernel), by decide +kernel, by decide +kernel, by decide +kernel, by decide +kernel⟩
theorem ml_X9_58 : Cond.methodLink RX9 58 yJ6_bitCount_0f7a4 ∈ GT := gt_mem (i := 1159) (by decide +kernel) (by decide +kernel)
theorem mi_X9_cellsOfLand : Mi yX9_cellsOfLand cX9_cellsOfLand 3 (some .int) 0 := ⟨gt_mem (i := 1158) (by decide +kernel) (by decide +kernel), gt_mem (i := 92) (by decide +kernel) (by decide +kernel), by decide +kernel, by decide +kernel, by decide +kernel, by decide +kernel⟩
theorem ml_X11_355 : Cond.methodLink RX11 355 yX11_rowsThere ∈ GT := gt_mem (i := 1151) (by decide +kernel) (by decide +kernel)
theorem im_X11_rowsThere : Cond.instanceMethod yX11_rowsThere ∈ GT := gt_mem (i := 1153) (by decide +kernel) (by decide +kernel)
theorem se_X11_rowsThere : Cond.selects yX11_rowsThere.cls yX11_rowsThere yX11_rowsThere ∈ GT := gt_mem (i := 35) (by decide +kernel) (by decide +kernel)
theorem fl_X11_358 : Fl RX11 358 9 3 false (.int) 0 := ⟨RX9, TX9, 7, tyX9, clX9, by decide, rfl, gt_mem (i := 247) (by decide +kernel) (by decide +kernel), rfl, rfl, rfl⟩
theorem fl_X11_361 : Fl RX11 361 9 4 false (.int) 0 := ⟨RX9, TX9, 7, tyX9, clX9, by decide, rfl, gt_mem (i := 250) (by decide +kernel) (by decide +kernel), rfl, rfl, rfl⟩
theorem ml_X11_364 : Cond.methodLink RX11 364 yX9_cellsOfLand ∈ GT := gt_mem (i := 1155) (by decide +kernel) (by decide +kernel)
theorem im_X9_cellsOfLand : Cond.instanceMethod yX9_cellsOfLand ∈ GT := gt_mem (i := 1156) (by decide +kernel) (by decide +kernel)
theorem se_X9_cellsOfLand : Cond.selects yX9_cellsOfLand.cls yX9_cellsOfLand yX9_cellsOfLand ∈ GT := gt_mem (i := 1157) (by decide +kernel) (by decide +kernel)
theorem fl_X11_367 : Fl RX11 367 2 2 false (.int) 0 := ⟨RX2, TX2, 3, tyX2, clX2, by decide, rfl, gt_mem (i := 323) (by decide +kernel) (by decide +kernel), rfl, rfl, rfl⟩
theorem fl_X11_370 : Fl RX11 370 1 5 false (.int) 0 := ⟨RX1, TX1, 7, tyX1, clX1, by decide, rfl, gt_mem (i := 351) (by decide +kernel) (by decide +kernel), rfl, rfl, rfl⟩
theorem mi_X11_count : Mi yX11_count cX11_count 2 (some .long) 1 := ⟨gt_mem (i := 1150) (by decide +kernel) (by decide +kernel), gt_mem (i := 85) (by decide +kernel) (by decide +kernel), by decide +kernel, by decide +kernel, by decide +kernel, by decide +kernel⟩
theorem mi_X11_status : Mi yX11_status cX11_status 1 (some .int) 0 := ⟨gt_mem (i := 1163) (by decide +kernel) (by decide +kernel), gt_mem (i := 85) (by decide +kernel) (by decide +kernel), by decide +kernel, by decide +kernel, by decide +kernel, by decide +kernel⟩
theorem mi_X12_in : Mi yX12_in cX12_in 6 (some .boolean) 3 := ⟨gt_mem (i := 1275) (by decide +kernel) (by decide +kernel), gt_mem (i := 97) (by decide +kernel) (by decide +kernel), by decide +kernel, by decide +kernel, by decide +kernel, by decide +kernel⟩
theorem fl_X12_64 : Fl RX12 64 12 1 false (.int) 0 := ⟨RX12, TX12, 31, tyX12, clX12, by decide, rfl, gt_mem (i := 1171) (by decide +kernel) (by decide +kernel), rfl, rfl, rfl⟩
theorem kl_X12_67 : Jvm.Cond.constantLong RX12 67 (-9000000000000000010) ∈ GT := gt_mem (i := 1282) (by decide +kernel) (by decide +kernel)
theorem mi_X12_finding : Mi yX12_finding cX12_finding 2 (some .long) 1 := ⟨gt_mem (i := 1281) (by decide +kernel) (by decide +kernel), gt_mem (i := 97) (by decide +kernel) (by decide +kernel), by decide +kernel, by decide +kernel, by decide +kernel, by decide +kernel⟩
theorem kl_X12_69 : Jvm.Cond.constantLong RX12 69 (7) ∈ GT := gt_mem (i := 1272) (by decide +kernel) (by decide +kernel)
theorem ml_X12_71 : Cond.methodLink RX12 71 yX12_in ∈ GT := gt_mem (i := 1273) (by decide +kernel) (by decide +kernel)
theorem sm_X12_in : Cond.static yX12_in ∈ GT := gt_mem (i := 1274) (by decide +kernel) (by decide +kernel)
theorem mi_X12_isRow : Mi yX12_isRow cX12_isRow 1 (some .boolean) 1 := ⟨gt_mem (i := 1271) (by decide +kernel) (by decide +kernel), gt_mem (i := 97) (by decide +kernel) (by decide +kernel), by decide +kernel, by decide +kernel, by decide +kernel, by decide +kernel⟩
theorem fl_X12_16 : Fl RX12 16 12 4 true (.array .int) 2 := ⟨RX12, TX12, 31, tyX12, clX12, by decide, rfl, gt_mem (i := 1174) (by decide +kernel) (by decide +kernel), rfl, rfl, rfl⟩
theorem fl_X12_60 : Fl RX12 60 12 0 false (.int) 0 := ⟨RX12, TX12, 31, tyX12, clX12, by decide, rfl, gt_mem (i := 1170) (by decide +kernel) (by decide +kernel), rfl, rfl, rfl⟩
theorem ml_X12_75 : Cond.methodLink RX12 75 yX12_isRow ∈ GT := gt_mem (i := 1269) (by decide +kernel) (by decide +kernel)
theorem sm_X12_isRow : Cond.static yX12_isRow ∈ GT := gt_mem (i := 1270) (by decide +kernel) (by decide +kernel)
theorem kl_X12_81 : Jvm.Cond.constantLong RX12 81 (-9000000000000000001) ∈ GT := gt_mem (i := 1277) (by decide +kernel) (by decide +kernel)
theorem kl_X12_79 : Jvm.Cond.constantLong RX12 79 (2) ∈ GT := gt_mem (i := 1276) (by decide +kernel) (by decide +kernel)
theorem fl_X12_9 : Fl RX12 9 12 2 true (.array .int) 2 := ⟨RX12, TX12, 31, tyX12, clX12, by decide, rfl, gt_mem (i := 1172) (by decide +kernel) (by decide +kernel), rfl, rfl, rfl⟩
theorem fl_X12_13 : Fl RX12 13 12 3 true (.array .int) 2 := ⟨RX12, TX12, 31, tyX12, clX12, by decide, rfl, gt_mem (i := 1173) (by decide +kernel) (by decide +kernel), rfl, rfl, rfl⟩
theorem ml_X12_83 : Cond.methodLink RX12 83 yX12_finding ∈ GT := gt_mem (i := 1278) (by decide +kernel) (by decide +kernel)
theorem im_X12_finding : Cond.instanceMethod yX12_finding ∈ GT := gt_mem (i := 1280) (by decide +kernel) (by decide +kernel)
theorem se_X12_finding : Cond.selects yX12_finding.cls yX12_finding yX12_finding ∈ GT := gt_mem (i := 36) (by decide +kernel) (by decide +kernel)
theorem mi_X12_row : Mi yX12_row cX12_row 5 (some .long) 3 := ⟨gt_mem (i := 1268) (by decide +kernel) (by decide +kernel), gt_mem (i := 97) (by decide +kernel) (by decide +kernel), by decide +kernel, by decide +kernel, by decide +kernel, by decide +kernel⟩
theorem mi_X12_set : Mi yX12_set cX12_set 4 (some .long) 3 := ⟨gt_mem (i := 1286) (by decide +kernel) (by decide +kernel), gt_mem (i := 97) (by decide +kernel) (by decide +kernel), by decide +kernel, by decide +kernel, by decide +kernel, by decide +kernel⟩
theorem mi_X12_copy : Mi yX12_copy cX12_copy 9 (some .long) 5 := ⟨gt_mem (i := 1290) (by decide +kernel) (by decide +kernel), gt_mem (i := 97) (by decide +kernel) (by decide +kernel), by decide +kernel, by decide +kernel, by decide +kernel, by decide +kernel⟩
theorem mi_X12_drop : Mi yX12_drop cX12_drop 2 (some .long) 1 := ⟨gt_mem (i := 1294) (by decide +kernel) (by decide +kernel), gt_mem (i := 97) (by decide +kernel) (by decide +kernel), by decide +kernel, by decide +kernel, by decide +kernel, by decide +kernel⟩
theorem fl_X12_89 : Fl RX12 89 12 10 false (.int) 0 := ⟨RX12, TX12, 31, tyX12, clX12, by decide, rfl, gt_mem (i := 1180) (by decide +kernel) (by decide +kernel), rfl, rfl, rfl⟩
theorem fl_X12_28 : Fl RX12 28 12 9 true (.array .int) 2 := ⟨RX12, TX12, 31, tyX12, clX12, by decide, rfl, gt_mem (i := 1179) (by decide +kernel) (by decide +kernel), rfl, rfl, rfl⟩
theorem kl_X12_94 : Jvm.Cond.constantLong RX12 94 (255) ∈ GT := gt_mem (i := 1301) (by decide +kernel) (by decide +kernel)
theorem kl_X12_87 : Jvm.Cond.constantLong RX12 87 (8) ∈ GT := gt_mem (i := 1299) (by decide +kernel) (by decide +kernel)
theorem kl_X12_92 : Jvm.Cond.constantLong RX12 92 (-9000000000000000003) ∈ GT := gt_mem (i := 1300) (by decide +kernel) (by decide +kernel)
theorem mi_X12_feed : Mi yX12_feed cX12_feed 5 (some .long) 2 := ⟨gt_mem (i := 1298) (by decide +kernel) (by decide +kernel), gt_mem (i := 97) (by decide +kernel) (by decide +kernel), by decide +kernel, by decide +kernel, by decide +kernel, by decide +kernel⟩
theorem fl_X12_96 : Fl RX12 96 12 12 false (.int) 0 := ⟨RX12, TX12, 31, tyX12, clX12, by decide, rfl, gt_mem (i := 1182) (by decide +kernel) (by decide +kernel), rfl, rfl, rfl⟩
theorem k_X12_99 : Jvm.Cond.constant RX12 99 (-1000000) ∈ GT := gt_mem (i := 1314) (by decide +kernel) (by decide +kernel)
theorem mi_X12_byteAt : Mi yX12_byteAt cX12_byteAt 2 (some .int) 1 := ⟨gt_mem (i := 1313) (by decide +kernel) (by decide +kernel), gt_mem (i := 97) (by decide +kernel) (by decide +kernel), by decide +kernel, by decide +kernel, by decide +kernel, by decide +kernel⟩
theorem mi_X12_isLetter : Mi yX12_isLetter cX12_isLetter 1 (some .boolean) 1 := ⟨gt_mem (i := 1317) (by decide +kernel) (by decide +kernel), gt_mem (i := 97) (by decide +kernel) (by decide +kernel), by decide +kernel, by decide +kernel, by decide +kernel, by decide +kernel⟩
theorem mi_X12_isFigure : Mi yX12_isFigure cX12_isFigure 1 (some .boolean) 1 := ⟨gt_mem (i := 1320) (by decide +kernel) (by decide +kernel), gt_mem (i := 97) (by decide +kernel) (by decide +kernel), by decide +kernel, by decide +kernel, by decide +kernel, by decide +kernel⟩
theorem fl_X12_100 : Fl RX12 100 12 13 false (.int) 0 := ⟨RX12, TX12, 31, tyX12, clX12, by decide, rfl, gt_mem (i := 1183) (by decide +kernel) (by decide +kernel), rfl, rfl, rfl⟩
theorem fl_X12_119 : Fl RX12 119 12 16 false (.int) 0 := ⟨RX12, TX12, 31, tyX12, clX12, by decide, rfl, gt_mem (i := 1186) (by decide +kernel) (by decide +kernel), rfl, rfl, rfl⟩
theorem fl_X12_110 : Fl RX12 110 12 14 false (.int) 0 := ⟨RX12, TX12, 31, tyX12, clX12, by decide, rfl, gt_mem (i := 1184) (by decide +kernel) (by decide +kernel), rfl, rfl, rfl⟩
theorem fl_X12_107 : Fl RX12 107 12 15 false (.int) 0 := ⟨RX12, TX12, 31, tyX12, clX12, by decide, rfl, gt_mem (i := 1185) (by decide +kernel) (by decide +kernel), rfl, rfl, rfl⟩
theorem ml_X12_103 : Cond.methodLink RX12 103 yX12_byteAt ∈ GT := gt_mem (i := 1310) (by decide +kernel) (by decide +kernel)
theorem im_X12_byteAt : Cond.instanceMethod yX12_byteAt ∈ GT := gt_mem (i := 1312) (by decide +kernel) (by decide +kernel)
theorem se_X12_byteAt : Cond.selects yX12_byteAt.cls yX12_byteAt yX12_byteAt ∈ GT := gt_mem (i := 38) (by decide +kernel) (by decide +kernel)
theorem ml_X12_116 : Cond.methodLink RX12 116 yX12_isFigure ∈ GT := gt_mem (i := 1318) (by decide +kernel) (by decide +kernel)
theorem sm_X12_isFigure : Cond.static yX12_isFigure ∈ GT := gt_mem (i := 1319) (by decide +kernel) (by decide +kernel)
theorem ml_X12_113 : Cond.methodLink RX12 113 yX12_isLetter ∈ GT := gt_mem (i := 1315) (by decide +kernel) (by decide +kernel)
theorem sm_X12_isLetter : Cond.static yX12_isLetter ∈ GT := gt_mem (i := 1316) (by decide +kernel) (by decide +kernel)
theorem mi_X12_next : Mi yX12_next cX12_next 2 none 0 := ⟨gt_mem (i := 1309) (by decide +kernel) (by decide +kernel), gt_mem (i := 97) (by decide +kernel) (by decide +kernel), by decide +kernel, by decide +kernel, by decide +kernel, by decide +kernel⟩
theorem fl_X12_122 : Fl RX12 122 12 17 false (.int) 0 := ⟨RX12, TX12, 31, tyX12, clX12, by decide, rfl, gt_mem (i := 1187) (by decide +kernel) (by decide +kernel), rfl, rfl, rfl⟩
theorem fl_X12_125 : Fl RX12 125 12 18 false (.int) 0 := ⟨RX12, TX12, 31, tyX12, clX12, by decide, rfl, gt_mem (i := 1188) (by decide +kernel) (by decide +kernel), rfl, rfl, rfl⟩
theorem mi_X12_bad : Mi yX12_bad cX12_bad 2 none 1 := ⟨gt_mem (i := 1337) (by decide +kernel) (by decide +kernel), gt_mem (i := 97) (by decide +kernel) (by decide +kernel), by decide +kernel, by decide +kernel, by decide +kernel, by decide +kernel⟩
theorem ml_X12_132 : Cond.methodLink RX12 132 yX12_next ∈ GT := gt_mem (i := 1306) (by decide +kernel) (by decide +kernel)
theorem im_X12_next : Cond.instanceMethod yX12_next ∈ GT := gt_mem (i := 1308) (by decide +kernel) (by decide +kernel)
theorem se_X12_next : Cond.selects yX12_next.cls yX12_next yX12_next ∈ GT := gt_mem (i := 37) (by decide +kernel) (by decide +kernel)
theorem ml_X12_128 : Cond.methodLink RX12 128 yX12_bad ∈ GT := gt_mem (i := 1334) (by decide +kernel) (by decide +kernel)
theorem im_X12_bad : Cond.instanceMethod yX12_bad ∈ GT := gt_mem (i := 1336) (by decide +kernel) (by decide +kernel)
theorem se_X12_bad : Cond.selects yX12_bad.cls yX12_bad yX12_bad ∈ GT := gt_mem (i := 42) (by decide +kernel) (by decide +kernel)
theorem mi_X12_must : Mi yX12_must cX12_must 2 none 1 := ⟨gt_mem (i := 1333) (by decide +kernel) (by decide +kernel), gt_mem (i := 97) (by decide +kernel) (by decide +kernel), by decide +kernel, by decide +kernel, by decide +kernel, by decide +kernel⟩
theorem mi_X12_word : Mi yX12_word cX12_word 4 (some .long) 0 := ⟨gt_mem (i := 1328) (by decide +kernel) (by decide +kernel), gt_mem (i := 97) (by decide +kernel) (by decide +kernel), by decide +kernel, by decide +kernel, by decide +kernel, by decide +kernel⟩
theorem ml_X12_135 : Cond.methodLink RX12 135 yX12_must ∈ GT := gt_mem (i := 1330) (by decide +kernel) (by decide +kernel)
theorem im_X12_must : Cond.instanceMethod yX12_must ∈ GT := gt_mem (i := 1332) (by decide +kernel) (by decide +kernel)
theorem se_X12_must : Cond.selects yX12_must.cls yX12_must yX12_must ∈ GT := gt_mem (i := 41) (by decide +kernel) (by decide +kernel)
theorem mi_X12_number : Mi yX12_number cX12_number 5 (some .int) 2 := ⟨gt_mem (i := 1341) (by decide +kernel) (by decide +kernel), gt_mem (i := 97) (by decide +kernel) (by decide +kernel), by decide +kernel, by decide +kernel, by decide +kernel, by decide +kernel⟩
theorem fl_X12_22 : Fl RX12 22 12 6 true (.array .int) 2 := ⟨RX12, TX12, 31, tyX12, clX12, by decide, rfl, gt_mem (i := 1176) (by decide +kernel) (by decide +kernel), rfl, rfl, rfl⟩
theorem mi_X12_begins : Mi yX12_begins cX12_begins 3 none 2 := ⟨gt_mem (i := 1350) (by decide +kernel) (by decide +kernel), gt_mem (i := 97) (by decide +kernel) (by decide +kernel), by decide +kernel, by decide +kernel, by decide +kernel, by decide +kernel⟩
theorem mi_X12_ends : Mi yX12_ends cX12_ends 2 (some .boolean) 1 := ⟨gt_mem (i := 1369) (by decide +kernel) (by decide +kernel), gt_mem (i := 97) (by decide +kernel) (by decide +kernel), by decide +kernel, by decide +kernel, by decide +kernel, by decide +kernel⟩
theorem kl_X12_139 : Jvm.Cond.constantLong RX12 139 (110) ∈ GT := gt_mem (i := 1354) (by decide +kernel) (by decide +kernel)
theorem kl_X12_141 : Jvm.Cond.constantLong RX12 141 (28261) ∈ GT := gt_mem (i := 1355) (by decide +kernel) (by decide +kernel)
theorem kl_X12_143 : Jvm.Cond.constantLong RX12 143 (101) ∈ GT := gt_mem (i := 1356) (by decide +kernel) (by decide +kernel)
theorem kl_X12_145 : Jvm.Cond.constantLong RX12 145 (29541) ∈ GT := gt_mem (i := 1357) (by decide +kernel) (by decide +kernel)
theorem kl_X12_147 : Jvm.Cond.constantLong RX12 147 (115) ∈ GT := gt_mem (i := 1358) (by decide +kernel) (by decide +kernel)
theorem kl_X12_149 : Jvm.Cond.constantLong RX12 149 (29559) ∈ GT := gt_mem (i := 1359) (by decide +kernel) (by decide +kernel)
theorem kl_X12_151 : Jvm.Cond.constantLong RX12 151 (119) ∈ GT := gt_mem (i := 1360) (by decide +kernel) (by decide +kernel)
theorem kl_X12_153 : Jvm.Cond.constantLong RX12 153 (28279) ∈ GT := gt_mem (i := 1361) (by decide +kernel) (by decide +kernel)
theorem mi_X12_wayOf : Mi yX12_wayOf cX12_wayOf 2 (some .int) 1 := ⟨gt_mem (i := 1353) (by decide +kernel) (by decide +kernel), gt_mem (i := 97) (by decide +kernel) (by decide +kernel), by decide +kernel, by decide +kernel, by decide +kernel, by decide +kernel⟩
theorem kl_X12_155 : Jvm.Cond.constantLong RX12 155 (8319381538419076711) ∈ GT := gt_mem (i := 1393) (by decide +kernel) (by decide +kernel)
theorem kl_X12_157 : Jvm.Cond.constantLong RX12 157 (1735356005) ∈ GT := gt_mem (i := 1394) (by decide +kernel) (by decide +kernel)
theorem kl_X12_159 : Jvm.Cond.constantLong RX12 159 (1818584692) ∈ GT := gt_mem (i := 1395) (by decide +kernel) (by decide +kernel)
theorem kl_X12_161 : Jvm.Cond.constantLong RX12 161 (119225731999076) ∈ GT := gt_mem (i := 1396) (by decide +kernel) (by decide +kernel)
theorem kl_X12_163 : Jvm.Cond.constantLong RX12 163 (28273294687102308) ∈ GT := gt_mem (i := 1397) (by decide +kernel) (by decide +kernel)
theorem kl_X12_165 : Jvm.Cond.constantLong RX12 165 (1953459300) ∈ GT := gt_mem (i := 1398) (by decide +kernel) (by decide +kernel)
theorem kl_X12_167 : Jvm.Cond.constantLong RX12 167 (1835099237) ∈ GT := gt_mem (i := 1399) (by decide +kernel) (by decide +kernel)
theorem mi_X12_whatOf : Mi yX12_whatOf cX12_whatOf 2 (some .int) 1 := ⟨gt_mem (i := 1392) (by decide +kernel) (by decide +kernel), gt_mem (i := 97) (by decide +kernel) (by decide +kernel), by decide +kernel, by decide +kernel, by decide +kernel, by decide +kernel⟩
theorem mi_X12_named : Mi yX12_named cX12_named 2 (some .int) 1 := ⟨gt_mem (i := 1365) (by decide +kernel) (by decide +kernel), gt_mem (i := 97) (by decide +kernel) (by decide +kernel), by decide +kernel, by decide +kernel, by decide +kernel, by decide +kernel⟩
theorem ml_X12_169 : Cond.methodLink RX12 169 yX12_begins ∈ GT := gt_mem (i := 1347) (by decide +kernel) (by decide +kernel)
theorem im_X12_begins : Cond.instanceMethod yX12_begins ∈ GT := gt_mem (i := 1349) (by decide +kernel) (by decide +kernel)
theorem se_X12_begins : Cond.selects yX12_begins.cls yX12_begins yX12_begins ∈ GT := gt_mem (i := 45) (by decide +kernel) (by decide +kernel)
theorem ml_X12_173 : Cond.methodLink RX12 173 yX12_word ∈ GT := gt_mem (i := 1325) (by decide +kernel) (by decide +kernel)
theorem im_X12_word : Cond.instanceMethod yX12_word ∈ GT := gt_mem (i := 1327) (by decide +kernel) (by decide +kernel)
theorem se_X12_word : Cond.selects yX12_word.cls yX12_word yX12_word ∈ GT := gt_mem (i := 40) (by decide +kernel) (by decide +kernel)
theorem ml_X12_177 : Cond.methodLink RX12 177 yX12_wayOf ∈ GT := gt_mem (i := 1351) (by decide +kernel) (by decide +kernel)
theorem sm_X12_wayOf : Cond.static yX12_wayOf ∈ GT := gt_mem (i := 1352) (by decide +kernel) (by decide +kernel)
theorem ml_X12_181 : Cond.methodLink RX12 181 yX12_named ∈ GT := gt_mem (i := 1362) (by decide +kernel) (by decide +kernel)
theorem im_X12_named : Cond.instanceMethod yX12_named ∈ GT := gt_mem (i := 1364) (by decide +kernel) (by decide +kernel)
theorem se_X12_named : Cond.selects yX12_named.cls yX12_named yX12_named ∈ GT := gt_mem (i := 46) (by decide +kernel) (by decide +kernel)
theorem ml_X12_184 : Cond.methodLink RX12 184 yX12_number ∈ GT := gt_mem (i := 1338) (by decide +kernel) (by decide +kernel)
theorem im_X12_number : Cond.instanceMethod yX12_number ∈ GT := gt_mem (i := 1340) (by decide +kernel) (by decide +kernel)
theorem se_X12_number : Cond.selects yX12_number.cls yX12_number yX12_number ∈ GT := gt_mem (i := 43) (by decide +kernel) (by decide +kernel)
theorem ml_X12_188 : Cond.methodLink RX12 188 yX12_ends ∈ GT := gt_mem (i := 1366) (by decide +kernel) (by decide +kernel)
theorem im_X12_ends : Cond.instanceMethod yX12_ends ∈ GT := gt_mem (i := 1368) (by decide +kernel) (by decide +kernel)
theorem se_X12_ends : Cond.selects yX12_ends.cls yX12_ends yX12_ends ∈ GT := gt_mem (i := 47) (by decide +kernel) (by decide +kernel)
theorem mi_X12_readWind : Mi yX12_readWind cX12_readWind 4 none 0 := ⟨gt_mem (i := 1346) (by decide +kernel) (by decide +kernel), gt_mem (i := 97) (by decide +kernel) (by decide +kernel), by decide +kernel, by decide +kernel, by decide +kernel, by decide +kernel⟩
theorem mi_X12_readLand : Mi yX12_readLand cX12_readLand 3 none 0 := ⟨gt_mem (i := 1374) (by decide +kernel) (by decide +kernel), gt_mem (i := 97) (by decide +kernel) (by decide +kernel), by decide +kernel, by decide +kernel, by decide +kernel, by decide +kernel⟩
theorem mi_X12_readShip : Mi yX12_readShip cX12_readShip 5 none 0 := ⟨gt_mem (i := 1379) (by decide +kernel) (by decide +kernel), gt_mem (i := 97) (by decide +kernel) (by decide +kernel), by decide +kernel, by decide +kernel, by decide +kernel, by decide +kernel⟩
theorem mi_X12_readMan : Mi yX12_readMan cX12_readMan 4 none 0 := ⟨gt_mem (i := 1384) (by decide +kernel) (by decide +kernel), gt_mem (i := 97) (by decide +kernel) (by decide +kernel), by decide +kernel, by decide +kernel, by decide +kernel, by decide +kernel⟩
theorem ml_X12_191 : Cond.methodLink RX12 191 yX12_whatOf ∈ GT := gt_mem (i := 1390) (by decide +kernel) (by decide +kernel)
theorem sm_X12_whatOf : Cond.static yX12_whatOf ∈ GT := gt_mem (i := 1391) (by decide +kernel) (by decide +kernel)
theorem mi_X12_readSign : Mi yX12_readSign cX12_readSign 4 none 0 := ⟨gt_mem (i := 1389) (by decide +kernel) (by decide +kernel), gt_mem (i := 97) (by decide +kernel) (by decide +kernel), by decide +kernel, by decide +kernel, by decide +kernel, by decide +kernel⟩
theorem kl_X12_194 : Jvm.Cond.constantLong RX12 194 (119182682645875) ∈ GT := gt_mem (i := 1405) (by decide +kernel) (by decide +kernel)
theorem kl_X12_196 : Jvm.Cond.constantLong RX12 196 (1650553459) ∈ GT := gt_mem (i := 1406) (by decide +kernel) (by decide +kernel)
theorem mi_X12_readStory : Mi yX12_readStory cX12_readStory 7 none 0 := ⟨gt_mem (i := 1404) (by decide +kernel) (by decide +kernel), gt_mem (i := 97) (by decide +kernel) (by decide +kernel), by decide +kernel, by decide +kernel, by decide +kernel, by decide +kernel⟩
theorem kl_X12_205 : Jvm.Cond.constantLong RX12 205 (1818324580) ∈ GT := gt_mem (i := 1370) (by decide +kernel) (by decide +kernel)
theorem ml_X12_207 : Cond.methodLink RX12 207 yX12_readLand ∈ GT := gt_mem (i := 1371) (by decide +kernel) (by decide +kernel)
theorem im_X12_readLand : Cond.instanceMethod yX12_readLand ∈ GT := gt_mem (i := 1373) (by decide +kernel) (by decide +kernel)
theorem se_X12_readLand : Cond.selects yX12_readLand.cls yX12_readLand yX12_readLand ∈ GT := gt_mem (i := 48) (by decide +kernel) (by decide +kernel)
theorem kl_X12_200 : Jvm.Cond.constantLong RX12 200 (2003398244) ∈ GT := gt_mem (i := 1342) (by decide +kernel) (by decide +kernel)
theorem ml_X12_202 : Cond.methodLink RX12 202 yX12_readWind ∈ GT := gt_mem (i := 1343) (by decide +kernel) (by decide +kernel)
theorem im_X12_readWind : Cond.instanceMethod yX12_readWind ∈ GT := gt_mem (i := 1345) (by decide +kernel) (by decide +kernel)
theorem se_X12_readWind : Cond.selects yX12_readWind.cls yX12_readWind yX12_readWind ∈ GT := gt_mem (i := 44) (by decide +kernel) (by decide +kernel)
theorem kl_X12_198 : Jvm.Cond.constantLong RX12 198 (7562593) ∈ GT := gt_mem (i := 1329) (by decide +kernel) (by decide +kernel)
theorem mi_X12_readShore : Mi yX12_readShore cX12_readShore 1 none 0 := ⟨gt_mem (i := 1324) (by decide +kernel) (by decide +kernel), gt_mem (i := 97) (by decide +kernel) (by decide +kernel), by decide +kernel, by decide +kernel, by decide +kernel, by decide +kernel⟩
theorem fl_X12_25 : Fl RX12 25 12 8 true (.array .int) 2 := ⟨RX12, TX12, 31, tyX12, clX12, by decide, rfl, gt_mem (i := 1178) (by decide +kernel) (by decide +kernel), rfl, rfl, rfl⟩
theorem fl_X12_19 : Fl RX12 19 12 5 true (.array .int) 2 := ⟨RX12, TX12, 31, tyX12, clX12, by decide, rfl, gt_mem (i := 1175) (by decide +kernel) (by decide +kernel), rfl, rfl, rfl⟩
theorem fl_X12_238 : Fl RX12 238 12 7 false (.boolean) 0 := ⟨RX12, TX12, 31, tyX12, clX12, by decide, rfl, gt_mem (i := 1177) (by decide +kernel) (by decide +kernel), rfl, rfl, rfl⟩
theorem fl_X12_233 : Fl RX12 233 12 11 false (.int) 0 := ⟨RX12, TX12, 31, tyX12, clX12, by decide, rfl, gt_mem (i := 1181) (by decide +kernel) (by decide +kernel), rfl, rfl, rfl⟩
theorem kl_X12_236 : Jvm.Cond.constantLong RX12 236 (-9000000000000000100) ∈ GT := gt_mem (i := 1407) (by decide +kernel) (by decide +kernel)
theorem kl_X12_228 : Jvm.Cond.constantLong RX12 228 (495874699897) ∈ GT := gt_mem (i := 1400) (by decide +kernel) (by decide +kernel)
theorem ml_X12_230 : Cond.methodLink RX12 230 yX12_readStory ∈ GT := gt_mem (i := 1401) (by decide +kernel) (by decide +kernel)
theorem im_X12_readStory : Cond.instanceMethod yX12_readStory ∈ GT := gt_mem (i := 1403) (by decide +kernel) (by decide +kernel)
theorem se_X12_readStory : Cond.selects yX12_readStory.cls yX12_readStory yX12_readStory ∈ GT := gt_mem (i := 52) (by decide +kernel) (by decide +kernel)
theorem kl_X12_223 : Jvm.Cond.constantLong RX12 223 (1936287598) ∈ GT := gt_mem (i := 1385) (by decide +kernel) (by decide +kernel)
theorem ml_X12_225 : Cond.methodLink RX12 225 yX12_readSign ∈ GT := gt_mem (i := 1386) (by decide +kernel) (by decide +kernel)
theorem im_X12_readSign : Cond.instanceMethod yX12_readSign ∈ GT := gt_mem (i := 1388) (by decide +kernel) (by decide +kernel)
theorem se_X12_readSign : Cond.selects yX12_readSign.cls yX12_readSign yX12_readSign ∈ GT := gt_mem (i := 51) (by decide +kernel) (by decide +kernel)
theorem kl_X12_218 : Jvm.Cond.constantLong RX12 218 (7168366) ∈ GT := gt_mem (i := 1380) (by decide +kernel) (by decide +kernel)
theorem ml_X12_220 : Cond.methodLink RX12 220 yX12_readMan ∈ GT := gt_mem (i := 1381) (by decide +kernel) (by decide +kernel)
theorem im_X12_readMan : Cond.instanceMethod yX12_readMan ∈ GT := gt_mem (i := 1383) (by decide +kernel) (by decide +kernel)
theorem se_X12_readMan : Cond.selects yX12_readMan.cls yX12_readMan yX12_readMan ∈ GT := gt_mem (i := 50) (by decide +kernel) (by decide +kernel)
theorem ml_X12_210 : Cond.methodLink RX12 210 yX12_readShore ∈ GT := gt_mem (i := 1321) (by decide +kernel) (by decide +kernel)
theorem im_X12_readShore : Cond.instanceMethod yX12_readShore ∈ GT := gt_mem (i := 1323) (by decide +kernel) (by decide +kernel)
theorem se_X12_readShore : Cond.selects yX12_readShore.cls yX12_readShore yX12_readShore ∈ GT := gt_mem (i := 39) (by decide +kernel) (by decide +kernel)
theorem kl_X12_213 : Jvm.Cond.constantLong RX12 213 (1936222576) ∈ GT := gt_mem (i := 1375) (by decide +kernel) (by decide +kernel)
theorem ml_X12_215 : Cond.methodLink RX12 215 yX12_readShip ∈ GT := gt_mem (i := 1376) (by decide +kernel) (by decide +kernel)
theorem im_X12_readShip : Cond.instanceMethod yX12_readShip ∈ GT := gt_mem (i := 1378) (by decide +kernel) (by decide +kernel)
theorem se_X12_readShip : Cond.selects yX12_readShip.cls yX12_readShip yX12_readShip ∈ GT := gt_mem (i := 49) (by decide +kernel) (by decide +kernel)
theorem mi_X12_sea : Mi yX12_sea cX12_sea 2 (some .long) 0 := ⟨gt_mem (i := 1305) (by decide +kernel) (by decide +kernel), gt_mem (i := 97) (by decide +kernel) (by decide +kernel), by decide +kernel, by decide +kernel, by decide +kernel, by decide +kernel⟩
theorem mi_X12_fault : Mi yX12_fault cX12_fault 1 (some .int) 0 := ⟨gt_mem (i := 1411) (by decide +kernel) (by decide +kernel), gt_mem (i := 97) (by decide +kernel) (by decide +kernel), by decide +kernel, by decide +kernel, by decide +kernel, by decide +kernel⟩
theorem mi_X12_isCell : Mi yX12_isCell cX12_isCell 3 (some .boolean) 2 := ⟨gt_mem (i := 1424) (by decide +kernel) (by decide +kernel), gt_mem (i := 97) (by decide +kernel) (by decide +kernel), by decide +kernel, by decide +kernel, by decide +kernel, by decide +kernel⟩
theorem mi_X12_isLand : Mi yX12_isLand cX12_isLand 2 (some .boolean) 1 := ⟨gt_mem (i := 1428) (by decide +kernel) (by decide +kernel), gt_mem (i := 97) (by decide +kernel) (by decide +kernel), by decide +kernel, by decide +kernel, by decide +kernel, by decide +kernel⟩
theorem ml_X12_242 : Cond.methodLink RX12 242 yX12_isCell ∈ GT := gt_mem (i := 1421) (by decide +kernel) (by decide +kernel)
theorem im_X12_isCell : Cond.instanceMethod yX12_isCell ∈ GT := gt_mem (i := 1423) (by decide +kernel) (by decide +kernel)
theorem se_X12_isCell : Cond.selects yX12_isCell.cls yX12_isCell yX12_isCell ∈ GT := gt_mem (i := 54) (by decide +kernel) (by decide +kernel)
theorem ml_X12_246 : Cond.methodLink RX12 246 yX12_isLand ∈ GT := gt_mem (i := 1425) (by decide +kernel) (by decide +kernel)
theorem im_X12_isLand : Cond.instanceMethod yX12_isLand ∈ GT := gt_mem (i := 1427) (by decide +kernel) (by decide +kernel)
theorem se_X12_isLand : Cond.selects yX12_isLand.cls yX12_isLand yX12_isLand ∈ GT := gt_mem (i := 55) (by decide +kernel) (by decide +kernel)
theorem mi_X12_isWater : Mi yX12_isWater cX12_isWater 3 (some .boolean) 2 := ⟨gt_mem (i := 1420) (by decide +kernel) (by decide +kernel), gt_mem (i := 97) (by decide +kernel) (by decide +kernel), by decide +kernel, by decide +kernel, by decide +kernel, by decide +kernel⟩
theorem mi_X12_isAny : Mi yX12_isAny cX12_isAny 2 (some .boolean) 1 := ⟨gt_mem (i := 1491) (by decide +kernel) (by decide +kernel), gt_mem (i := 97) (by decide +kernel) (by decide +kernel), by decide +kernel, by decide +kernel, by decide +kernel, by decide +kernel⟩
theorem ml_X12_249 : Cond.methodLink RX12 249 yX12_isAny ∈ GT := gt_mem (i := 1488) (by decide +kernel) (by decide +kernel)
theorem im_X12_isAny : Cond.instanceMethod yX12_isAny ∈ GT := gt_mem (i := 1490) (by decide +kernel) (by decide +kernel)
theorem se_X12_isAny : Cond.selects yX12_isAny.cls yX12_isAny yX12_isAny ∈ GT := gt_mem (i := 63) (by decide +kernel) (by decide +kernel)
theorem mi_X12_isOpen : Mi yX12_isOpen cX12_isOpen 2 (some .boolean) 1 := ⟨gt_mem (i := 1487) (by decide +kernel) (by decide +kernel), gt_mem (i := 97) (by decide +kernel) (by decide +kernel), by decide +kernel, by decide +kernel, by decide +kernel, by decide +kernel⟩
theorem kl_X12_252 : Jvm.Cond.constantLong RX12 252 (3) ∈ GT := gt_mem (i := 1468) (by decide +kernel) (by decide +kernel)
theorem kl_X12_254 : Jvm.Cond.constantLong RX12 254 (5) ∈ GT := gt_mem (i := 1469) (by decide +kernel) (by decide +kernel)
theorem mi_X12_goneTo : Mi yX12_goneTo cX12_goneTo 7 (some .int) 2 := ⟨gt_mem (i := 1467) (by decide +kernel) (by decide +kernel), gt_mem (i := 97) (by decide +kernel) (by decide +kernel), by decide +kernel, by decide +kernel, by decide +kernel, by decide +kernel⟩
theorem mi_X12_wayBy : Mi yX12_wayBy cX12_wayBy 3 (some .int) 2 := ⟨gt_mem (i := 1463) (by decide +kernel) (by decide +kernel), gt_mem (i := 97) (by decide +kernel) (by decide +kernel), by decide +kernel, by decide +kernel, by decide +kernel, by decide +kernel⟩
theorem mi_X12_oddsOf : Mi yX12_oddsOf cX12_oddsOf 2 (some .int) 1 := ⟨gt_mem (i := 1451) (by decide +kernel) (by decide +kernel), gt_mem (i := 97) (by decide +kernel) (by decide +kernel), by decide +kernel, by decide +kernel, by decide +kernel, by decide +kernel⟩
theorem ml_X12_256 : Cond.methodLink RX12 256 yX12_oddsOf ∈ GT := gt_mem (i := 1448) (by decide +kernel) (by decide +kernel)
theorem im_X12_oddsOf : Cond.instanceMethod yX12_oddsOf ∈ GT := gt_mem (i := 1450) (by decide +kernel) (by decide +kernel)
theorem se_X12_oddsOf : Cond.selects yX12_oddsOf.cls yX12_oddsOf yX12_oddsOf ∈ GT := gt_mem (i := 57) (by decide +kernel) (by decide +kernel)
theorem mi_X12_allOdds : Mi yX12_allOdds cX12_allOdds 3 (some .int) 0 := ⟨gt_mem (i := 1447) (by decide +kernel) (by decide +kernel), gt_mem (i := 97) (by decide +kernel) (by decide +kernel), by decide +kernel, by decide +kernel, by decide +kernel, by decide +kernel⟩
theorem ml_X12_261 : Cond.methodLink RX12 261 yX12_isWater ∈ GT := gt_mem (i := 1417) (by decide +kernel) (by decide +kernel)
theorem im_X12_isWater : Cond.instanceMethod yX12_isWater ∈ GT := gt_mem (i := 1419) (by decide +kernel) (by decide +kernel)
theorem se_X12_isWater : Cond.selects yX12_isWater.cls yX12_isWater yX12_isWater ∈ GT := gt_mem (i := 53) (by decide +kernel) (by decide +kernel)
theorem kl_X12_259 : Jvm.Cond.constantLong RX12 259 (-9000000000000000002) ∈ GT := gt_mem (i := 1416) (by decide +kernel) (by decide +kernel)
theorem mi_X12_put : Mi yX12_put cX12_put 4 (some .long) 3 := ⟨gt_mem (i := 1415) (by decide +kernel) (by decide +kernel), gt_mem (i := 97) (by decide +kernel) (by decide +kernel), by decide +kernel, by decide +kernel, by decide +kernel, by decide +kernel⟩
theorem mi_X12_isHead : Mi yX12_isHead cX12_isHead 1 (some .boolean) 1 := ⟨gt_mem (i := 1435) (by decide +kernel) (by decide +kernel), gt_mem (i := 97) (by decide +kernel) (by decide +kernel), by decide +kernel, by decide +kernel, by decide +kernel, by decide +kernel⟩
theorem ml_X12_264 : Cond.methodLink RX12 264 yX12_isHead ∈ GT := gt_mem (i := 1433) (by decide +kernel) (by decide +kernel)
theorem sm_X12_isHead : Cond.static yX12_isHead ∈ GT := gt_mem (i := 1434) (by decide +kernel) (by decide +kernel)
theorem mi_X12_head : Mi yX12_head cX12_head 3 (some .long) 1 := ⟨gt_mem (i := 1432) (by decide +kernel) (by decide +kernel), gt_mem (i := 97) (by decide +kernel) (by decide +kernel), by decide +kernel, by decide +kernel, by decide +kernel, by decide +kernel⟩
theorem ml_X12_267 : Cond.methodLink RX12 267 yX12_wayBy ∈ GT := gt_mem (i := 1460) (by decide +kernel) (by decide +kernel)
theorem im_X12_wayBy : Cond.instanceMethod yX12_wayBy ∈ GT := gt_mem (i := 1462) (by decide +kernel) (by decide +kernel)
theorem se_X12_wayBy : Cond.selects yX12_wayBy.cls yX12_wayBy yX12_wayBy ∈ GT := gt_mem (i := 60) (by decide +kernel) (by decide +kernel)
theorem ml_X12_270 : Cond.methodLink RX12 270 yX12_goneTo ∈ GT := gt_mem (i := 1464) (by decide +kernel) (by decide +kernel)
theorem im_X12_goneTo : Cond.instanceMethod yX12_goneTo ∈ GT := gt_mem (i := 1466) (by decide +kernel) (by decide +kernel)
theorem se_X12_goneTo : Cond.selects yX12_goneTo.cls yX12_goneTo yX12_goneTo ∈ GT := gt_mem (i := 61) (by decide +kernel) (by decide +kernel)
theorem mi_X12_oneHour : Mi yX12_oneHour cX12_oneHour 4 none 2 := ⟨gt_mem (i := 1459) (by decide +kernel) (by decide +kernel), gt_mem (i := 97) (by decide +kernel) (by decide +kernel), by decide +kernel, by decide +kernel, by decide +kernel, by decide +kernel⟩
theorem mi_X12_windBy : Mi yX12_windBy cX12_windBy 6 (some .int) 1 := ⟨gt_mem (i := 1455) (by decide +kernel) (by decide +kernel), gt_mem (i := 97) (by decide +kernel) (by decide +kernel), by decide +kernel, by decide +kernel, by decide +kernel, by decide +kernel⟩
theorem ml_X12_288 : Cond.methodLink RX12 288 yX12_oneHour ∈ GT := gt_mem (i := 1456) (by decide +kernel) (by decide +kernel)
theorem im_X12_oneHour : Cond.instanceMethod yX12_oneHour ∈ GT := gt_mem (i := 1458) (by decide +kernel) (by decide +kernel)
theorem se_X12_oneHour : Cond.selects yX12_oneHour.cls yX12_oneHour yX12_oneHour ∈ GT := gt_mem (i := 59) (by decide +kernel) (by decide +kernel)
theorem kl_X12_277 : Jvm.Cond.constantLong RX12 277 (16807) ∈ GT := gt_mem (i := 1442) (by decide +kernel) (by decide +kernel)
theorem kl_X12_279 : Jvm.Cond.constantLong RX12 279 (2147483647) ∈ GT := gt_mem (i := 1443) (by decide +kernel) (by decide +kernel)
theorem ml_X12_281 : Cond.methodLink RX12 281 yX12_allOdds ∈ GT := gt_mem (i := 1444) (by decide +kernel) (by decide +kernel)
theorem im_X12_allOdds : Cond.instanceMethod yX12_allOdds ∈ GT := gt_mem (i := 1446) (by decide +kernel) (by decide +kernel)
theorem se_X12_allOdds : Cond.selects yX12_allOdds.cls yX12_allOdds yX12_allOdds ∈ GT := gt_mem (i := 56) (by decide +kernel) (by decide +kernel)
theorem ml_X12_285 : Cond.methodLink RX12 285 yX12_windBy ∈ GT := gt_mem (i := 1452) (by decide +kernel) (by decide +kernel)
theorem im_X12_windBy : Cond.instanceMethod yX12_windBy ∈ GT := gt_mem (i := 1454) (by decide +kernel) (by decide +kernel)
theorem se_X12_windBy : Cond.selects yX12_windBy.cls yX12_windBy yX12_windBy ∈ GT := gt_mem (i := 58) (by decide +kernel) (by decide +kernel)
theorem kl_X12_273 : Jvm.Cond.constantLong RX12 273 (100) ∈ GT := gt_mem (i := 1440) (by decide +kernel) (by decide +kernel)
theorem kl_X12_275 : Jvm.Cond.constantLong RX12 275 (999999) ∈ GT := gt_mem (i := 1441) (by decide +kernel) (by decide +kernel)
theorem mi_X12_sailed : Mi yX12_sailed cX12_sailed 7 (some .long) 3 := ⟨gt_mem (i := 1439) (by decide +kernel) (by decide +kernel), gt_mem (i := 97) (by decide +kernel) (by decide +kernel), by decide +kernel, by decide +kernel, by decide +kernel, by decide +kernel⟩
theorem kl_X12_292 : Jvm.Cond.constantLong RX12 292 (40) ∈ GT := gt_mem (i := 1474) (by decide +kernel) (by decide +kernel)
theorem mi_X12_blown : Mi yX12_blown cX12_blown 5 (some .long) 3 := ⟨gt_mem (i := 1473) (by decide +kernel) (by decide +kernel), gt_mem (i := 97) (by decide +kernel) (by decide +kernel), by decide +kernel, by decide +kernel, by decide +kernel, by decide +kernel⟩
theorem kl_X12_294 : Jvm.Cond.constantLong RX12 294 (6) ∈ GT := gt_mem (i := 1479) (by decide +kernel) (by decide +kernel)
theorem mi_X12_ship : Mi yX12_ship cX12_ship 2 (some .long) 1 := ⟨gt_mem (i := 1478) (by decide +kernel) (by decide +kernel), gt_mem (i := 97) (by decide +kernel) (by decide +kernel), by decide +kernel, by decide +kernel, by decide +kernel, by decide +kernel⟩
theorem fl_X12_35 : Fl RX12 35 12 20 true (.array .long) 2 := ⟨RX12, TX12, 31, tyX12, clX12, by decide, rfl, gt_mem (i := 1190) (by decide +kernel) (by decide +kernel), rfl, rfl, rfl⟩
theorem fl_X12_31 : Fl RX12 31 12 19 true (.array .long) 2 := ⟨RX12, TX12, 31, tyX12, clX12, by decide, rfl, gt_mem (i := 1189) (by decide +kernel) (by decide +kernel), rfl, rfl, rfl⟩
theorem mi_X12_layOne : Mi yX12_layOne cX12_layOne 3 none 1 := ⟨gt_mem (i := 1499) (by decide +kernel) (by decide +kernel), gt_mem (i := 97) (by decide +kernel) (by decide +kernel), by decide +kernel, by decide +kernel, by decide +kernel, by decide +kernel⟩
theorem fl_X12_38 : Fl RX12 38 12 21 true (.array .long) 2 := ⟨RX12, TX12, 31, tyX12, clX12, by decide, rfl, gt_mem (i := 1191) (by decide +kernel) (by decide +kernel), rfl, rfl, rfl⟩
theorem fl_X12_41 : Fl RX12 41 12 22 true (.array .long) 2 := ⟨RX12, TX12, 31, tyX12, clX12, by decide, rfl, gt_mem (i := 1192) (by decide +kernel) (by decide +kernel), rfl, rfl, rfl⟩
theorem mi_X12_goHour : Mi yX12_goHour cX12_goHour 5 none 1 := ⟨gt_mem (i := 1503) (by decide +kernel) (by decide +kernel), gt_mem (i := 97) (by decide +kernel) (by decide +kernel), by decide +kernel, by decide +kernel, by decide +kernel, by decide +kernel⟩
theorem ml_X12_299 : Cond.methodLink RX12 299 yX12_goHour ∈ GT := gt_mem (i := 1500) (by decide +kernel) (by decide +kernel)
theorem im_X12_goHour : Cond.instanceMethod yX12_goHour ∈ GT := gt_mem (i := 1502) (by decide +kernel) (by decide +kernel)
theorem se_X12_goHour : Cond.selects yX12_goHour.cls yX12_goHour yX12_goHour ∈ GT := gt_mem (i := 66) (by decide +kernel) (by decide +kernel)
theorem ml_X12_296 : Cond.methodLink RX12 296 yX12_layOne ∈ GT := gt_mem (i := 1496) (by decide +kernel) (by decide +kernel)
theorem im_X12_layOne : Cond.instanceMethod yX12_layOne ∈ GT := gt_mem (i := 1498) (by decide +kernel) (by decide +kernel)
theorem se_X12_layOne : Cond.selects yX12_layOne.cls yX12_layOne yX12_layOne ∈ GT := gt_mem (i := 65) (by decide +kernel) (by decide +kernel)
theorem mi_X12_goHours : Mi yX12_goHours cX12_goHours 5 none 3 := ⟨gt_mem (i := 1495) (by decide +kernel) (by decide +kernel), gt_mem (i := 97) (by decide +kernel) (by decide +kernel), by decide +kernel, by decide +kernel, by decide +kernel, by decide +kernel⟩
theorem mi_X12_allTo : Mi yX12_allTo cX12_allTo 5 (some .long) 1 := ⟨gt_mem (i := 1507) (by decide +kernel) (by decide +kernel), gt_mem (i := 97) (by decide +kernel) (by decide +kernel), by decide +kernel, by decide +kernel, by decide +kernel, by decide +kernel⟩
theorem mi_X12_partOf : Mi yX12_partOf cX12_partOf 11 (some .long) 3 := ⟨gt_mem (i := 1510) (by decide +kernel) (by decide +kernel), gt_mem (i := 97) (by decide +kernel) (by decide +kernel), by decide +kernel, by decide +kernel, by decide +kernel, by decide +kernel⟩
theorem ml_X12_302 : Cond.methodLink RX12 302 yX12_isOpen ∈ GT := gt_mem (i := 1484) (by decide +kernel) (by decide +kernel)
theorem im_X12_isOpen : Cond.instanceMethod yX12_isOpen ∈ GT := gt_mem (i := 1486) (by decide +kernel) (by decide +kernel)
theorem se_X12_isOpen : Cond.selects yX12_isOpen.cls yX12_isOpen yX12_isOpen ∈ GT := gt_mem (i := 62) (by decide +kernel) (by decide +kernel)
theorem ml_X12_305 : Cond.methodLink RX12 305 yX12_goHours ∈ GT := gt_mem (i := 1492) (by decide +kernel) (by decide +kernel)
theorem im_X12_goHours : Cond.instanceMethod yX12_goHours ∈ GT := gt_mem (i := 1494) (by decide +kernel) (by decide +kernel)
theorem se_X12_goHours : Cond.selects yX12_goHours.cls yX12_goHours yX12_goHours ∈ GT := gt_mem (i := 64) (by decide +kernel) (by decide +kernel)
theorem ml_X12_309 : Cond.methodLink RX12 309 yX12_allTo ∈ GT := gt_mem (i := 1504) (by decide +kernel) (by decide +kernel)
theorem im_X12_allTo : Cond.instanceMethod yX12_allTo ∈ GT := gt_mem (i := 1506) (by decide +kernel) (by decide +kernel)
theorem se_X12_allTo : Cond.selects yX12_allTo.cls yX12_allTo yX12_allTo ∈ GT := gt_mem (i := 67) (by decide +kernel) (by decide +kernel)
theorem ml_X12_312 : Cond.methodLink RX12 312 yX12_partOf ∈ GT := gt_mem (i := 1508) (by decide +kernel) (by decide +kernel)
theorem sm_X12_partOf : Cond.static yX12_partOf ∈ GT := gt_mem (i := 1509) (by decide +kernel) (by decide +kernel)
theorem mi_X12_herself : Mi yX12_herself cX12_herself 6 (some .long) 5 := ⟨gt_mem (i := 1483) (by decide +kernel) (by decide +kernel), gt_mem (i := 97) (by decide +kernel) (by decide +kernel), by decide +kernel, by decide +kernel, by decide +kernel, by decide +kernel⟩
theorem mi_X12_could : Mi yX12_could cX12_could 5 (some .long) 2 := ⟨gt_mem (i := 1514) (by decide +kernel) (by decide +kernel), gt_mem (i := 97) (by decide +kernel) (by decide +kernel), by decide +kernel, by decide +kernel, by decide +kernel, by decide +kernel⟩
theorem fl_X12_316 : Fl RX12 316 12 24 false (.long) 1 := ⟨RX12, TX12, 31, tyX12, clX12, by decide, rfl, gt_mem (i := 1194) (by decide +kernel) (by decide +kernel), rfl, rfl, rfl⟩
theorem fl_X12_44 : Fl RX12 44 12 23 true (.array .long) 2 := ⟨RX12, TX12, 31, tyX12, clX12, by decide, rfl, gt_mem (i := 1193) (by decide +kernel) (by decide +kernel), rfl, rfl, rfl⟩
theorem mi_X12_findBrings : Mi yX12_findBrings cX12_findBrings 5 none 3 := ⟨gt_mem (i := 1523) (by decide +kernel) (by decide +kernel), gt_mem (i := 97) (by decide +kernel) (by decide +kernel), by decide +kernel, by decide +kernel, by decide +kernel, by decide +kernel⟩
theorem kl_X12_320 : Jvm.Cond.constantLong RX12 320 (511) ∈ GT := gt_mem (i := 1519) (by decide +kernel) (by decide +kernel)
theorem ml_X12_322 : Cond.methodLink RX12 322 yX12_findBrings ∈ GT := gt_mem (i := 1520) (by decide +kernel) (by decide +kernel)
theorem im_X12_findBrings : Cond.instanceMethod yX12_findBrings ∈ GT := gt_mem (i := 1522) (by decide +kernel) (by decide +kernel)
theorem se_X12_findBrings : Cond.selects yX12_findBrings.cls yX12_findBrings yX12_findBrings ∈ GT := gt_mem (i := 68) (by decide +kernel) (by decide +kernel)
theorem mi_X12_leftAt : Mi yX12_leftAt cX12_leftAt 8 (some .long) 3 := ⟨gt_mem (i := 1518) (by decide +kernel) (by decide +kernel), gt_mem (i := 97) (by decide +kernel) (by decide +kernel), by decide +kernel, by decide +kernel, by decide +kernel, by decide +kernel⟩
theorem kl_X12_325 : Jvm.Cond.constantLong RX12 325 (-1000000) ∈ GT := gt_mem (i := 1528) (by decide +kernel) (by decide +kernel)
theorem mi_X12_leftOdds : Mi yX12_leftOdds cX12_leftOdds 6 (some .long) 5 := ⟨gt_mem (i := 1527) (by decide +kernel) (by decide +kernel), gt_mem (i := 97) (by decide +kernel) (by decide +kernel), by decide +kernel, by decide +kernel, by decide +kernel, by decide +kernel⟩
theorem mi_X12_boat : Mi yX12_boat cX12_boat 6 (some .long) 3 := ⟨gt_mem (i := 1532) (by decide +kernel) (by decide +kernel), gt_mem (i := 97) (by decide +kernel) (by decide +kernel), by decide +kernel, by decide +kernel, by decide +kernel, by decide +kernel⟩
theorem kl_X12_327 : Jvm.Cond.constantLong RX12 327 (-999) ∈ GT := gt_mem (i := 1537) (by decide +kernel) (by decide +kernel)
theorem kl_X12_329 : Jvm.Cond.constantLong RX12 329 (999) ∈ GT := gt_mem (i := 1538) (by decide +kernel) (by decide +kernel)
theorem kl_X12_331 : Jvm.Cond.constantLong RX12 331 (-99) ∈ GT := gt_mem (i := 1539) (by decide +kernel) (by decide +kernel)
theorem kl_X12_333 : Jvm.Cond.constantLong RX12 333 (99) ∈ GT := gt_mem (i := 1540) (by decide +kernel) (by decide +kernel)
theorem kl_X12_335 : Jvm.Cond.constantLong RX12 335 (60) ∈ GT := gt_mem (i := 1541) (by decide +kernel) (by decide +kernel)
theorem mi_X12_thought : Mi yX12_thought cX12_thought 4 (some .long) 3 := ⟨gt_mem (i := 1536) (by decide +kernel) (by decide +kernel), gt_mem (i := 97) (by decide +kernel) (by decide +kernel), by decide +kernel, by decide +kernel, by decide +kernel, by decide +kernel⟩
theorem mi_X12_held : Mi yX12_held cX12_held 2 (some .int) 1 := ⟨gt_mem (i := 1554) (by decide +kernel) (by decide +kernel), gt_mem (i := 97) (by decide +kernel) (by decide +kernel), by decide +kernel, by decide +kernel, by decide +kernel, by decide +kernel⟩
theorem kl_X12_337 : Jvm.Cond.constantLong RX12 337 (200) ∈ GT := gt_mem (i := 1549) (by decide +kernel) (by decide +kernel)
theorem kl_X12_339 : Jvm.Cond.constantLong RX12 339 (50) ∈ GT := gt_mem (i := 1550) (by decide +kernel) (by decide +kernel)
theorem mi_X12_isRod : Mi yX12_isRod cX12_isRod 2 (some .boolean) 2 := ⟨gt_mem (i := 1548) (by decide +kernel) (by decide +kernel), gt_mem (i := 97) (by decide +kernel) (by decide +kernel), by decide +kernel, by decide +kernel, by decide +kernel, by decide +kernel⟩
theorem ml_X12_344 : Cond.methodLink RX12 344 yX12_held ∈ GT := gt_mem (i := 1551) (by decide +kernel) (by decide +kernel)
theorem im_X12_held : Cond.instanceMethod yX12_held ∈ GT := gt_mem (i := 1553) (by decide +kernel) (by decide +kernel)
theorem se_X12_held : Cond.selects yX12_held.cls yX12_held yX12_held ∈ GT := gt_mem (i := 69) (by decide +kernel) (by decide +kernel)
theorem ml_X12_341 : Cond.methodLink RX12 341 yX12_isRod ∈ GT := gt_mem (i := 1546) (by decide +kernel) (by decide +kernel)
theorem sm_X12_isRod : Cond.static yX12_isRod ∈ GT := gt_mem (i := 1547) (by decide +kernel) (by decide +kernel)
theorem mi_X12_seemed : Mi yX12_seemed cX12_seemed 4 (some .long) 3 := ⟨gt_mem (i := 1545) (by decide +kernel) (by decide +kernel), gt_mem (i := 97) (by decide +kernel) (by decide +kernel), by decide +kernel, by decide +kernel, by decide +kernel, by decide +kernel⟩
theorem mi_X12_deep : Mi yX12_deep cX12_deep 2 (some .long) 1 := ⟨gt_mem (i := 1558) (by decide +kernel) (by decide +kernel), gt_mem (i := 97) (by decide +kernel) (by decide +kernel), by decide +kernel, by decide +kernel, by decide +kernel, by decide +kernel⟩
theorem mi_X12_was : Mi yX12_was cX12_was 6 (some .long) 4 := ⟨gt_mem (i := 1562) (by decide +kernel) (by decide +kernel), gt_mem (i := 97) (by decide +kernel) (by decide +kernel), by decide +kernel, by decide +kernel, by decide +kernel, by decide +kernel⟩
theorem kl_X12_347 : Jvm.Cond.constantLong RX12 347 (30) ∈ GT := gt_mem (i := 1567) (by decide +kernel) (by decide +kernel)
theorem kl_X12_349 : Jvm.Cond.constantLong RX12 349 (190) ∈ GT := gt_mem (i := 1568) (by decide +kernel) (by decide +kernel)
theorem mi_X12_bang : Mi yX12_bang cX12_bang 8 (some .long) 5 := ⟨gt_mem (i := 1566) (by decide +kernel) (by decide +kernel), gt_mem (i := 97) (by decide +kernel) (by decide +kernel), by decide +kernel, by decide +kernel, by decide +kernel, by decide +kernel⟩
theorem fl_X12_351 : Fl RX12 351 12 25 false (.int) 0 := ⟨RX12, TX12, 31, tyX12, clX12, by decide, rfl, gt_mem (i := 1195) (by decide +kernel) (by decide +kernel), rfl, rfl, rfl⟩
theorem mi_X12_leaving : Mi yX12_leaving cX12_leaving 8 (some .int) 2 := ⟨gt_mem (i := 1576) (by decide +kernel) (by decide +kernel), gt_mem (i := 97) (by decide +kernel) (by decide +kernel), by decide +kernel, by decide +kernel, by decide +kernel, by decide +kernel⟩
theorem ml_X12_354 : Cond.methodLink RX12 354 yX12_leaving ∈ GT := gt_mem (i := 1573) (by decide +kernel) (by decide +kernel)
theorem im_X12_leaving : Cond.instanceMethod yX12_leaving ∈ GT := gt_mem (i := 1575) (by decide +kernel) (by decide +kernel)
theorem se_X12_leaving : Cond.selects yX12_leaving.cls yX12_leaving yX12_leaving ∈ GT := gt_mem (i := 70) (by decide +kernel) (by decide +kernel)
theorem mi_X12_leave : Mi yX12_leave cX12_leave 5 (some .long) 3 := ⟨gt_mem (i := 1572) (by decide +kernel) (by decide +kernel), gt_mem (i := 97) (by decide +kernel) (by decide +kernel), by decide +kernel, by decide +kernel, by decide +kernel, by decide +kernel⟩
theorem mi_X12_leastWater : Mi yX12_leastWater cX12_leastWater 4 (some .long) 1 := ⟨gt_mem (i := 1580) (by decide +kernel) (by decide +kernel), gt_mem (i := 97) (by decide +kernel) (by decide +kernel), by decide +kernel, by decide +kernel, by decide +kernel, by decide +kernel⟩
theorem mi_X12_isSign : Mi yX12_isSign cX12_isSign 2 (some .boolean) 1 := ⟨gt_mem (i := 1588) (by decide +kernel) (by decide +kernel), gt_mem (i := 97) (by decide +kernel) (by decide +kernel), by decide +kernel, by decide +kernel, by decide +kernel, by decide +kernel⟩
theorem mi_X12_isStory : Mi yX12_isStory cX12_isStory 2 (some .boolean) 1 := ⟨gt_mem (i := 1621) (by decide +kernel) (by decide +kernel), gt_mem (i := 97) (by decide +kernel) (by decide +kernel), by decide +kernel, by decide +kernel, by decide +kernel, by decide +kernel⟩
theorem mi_X12_areSigns : Mi yX12_areSigns cX12_areSigns 2 (some .boolean) 1 := ⟨gt_mem (i := 1625) (by decide +kernel) (by decide +kernel), gt_mem (i := 97) (by decide +kernel) (by decide +kernel), by decide +kernel, by decide +kernel, by decide +kernel, by decide +kernel⟩
theorem mi_X12_signOf : Mi yX12_signOf cX12_signOf 3 (some .int) 2 := ⟨gt_mem (i := 1592) (by decide +kernel) (by decide +kernel), gt_mem (i := 97) (by decide +kernel) (by decide +kernel), by decide +kernel, by decide +kernel, by decide +kernel, by decide +kernel⟩
theorem mi_X12_storyOf : Mi yX12_storyOf cX12_storyOf 3 (some .int) 2 := ⟨gt_mem (i := 1600) (by decide +kernel) (by decide +kernel), gt_mem (i := 97) (by decide +kernel) (by decide +kernel), by decide +kernel, by decide +kernel, by decide +kernel, by decide +kernel⟩
theorem ml_X12_357 : Cond.methodLink RX12 357 yX12_storyOf ∈ GT := gt_mem (i := 1597) (by decide +kernel) (by decide +kernel)
theorem im_X12_storyOf : Cond.instanceMethod yX12_storyOf ∈ GT := gt_mem (i := 1599) (by decide +kernel) (by decide +kernel)
theorem se_X12_storyOf : Cond.selects yX12_storyOf.cls yX12_storyOf yX12_storyOf ∈ GT := gt_mem (i := 74) (by decide +kernel) (by decide +kernel)
theorem mi_X12_storiesBy : Mi yX12_storiesBy cX12_storiesBy 5 (some .int) 2 := ⟨gt_mem (i := 1596) (by decide +kernel) (by decide +kernel), gt_mem (i := 97) (by decide +kernel) (by decide +kernel), by decide +kernel, by decide +kernel, by decide +kernel, by decide +kernel⟩
theorem ml_X12_360 : Cond.methodLink RX12 360 yX12_isSign ∈ GT := gt_mem (i := 1585) (by decide +kernel) (by decide +kernel)
theorem im_X12_isSign : Cond.instanceMethod yX12_isSign ∈ GT := gt_mem (i := 1587) (by decide +kernel) (by decide +kernel)
theorem se_X12_isSign : Cond.selects yX12_isSign.cls yX12_isSign yX12_isSign ∈ GT := gt_mem (i := 71) (by decide +kernel) (by decide +kernel)
theorem ml_X12_366 : Cond.methodLink RX12 366 yX12_storiesBy ∈ GT := gt_mem (i := 1593) (by decide +kernel) (by decide +kernel)
theorem im_X12_storiesBy : Cond.instanceMethod yX12_storiesBy ∈ GT := gt_mem (i := 1595) (by decide +kernel) (by decide +kernel)
theorem se_X12_storiesBy : Cond.selects yX12_storiesBy.cls yX12_storiesBy yX12_storiesBy ∈ GT := gt_mem (i := 73) (by decide +kernel) (by decide +kernel)
theorem ml_X12_363 : Cond.methodLink RX12 363 yX12_signOf ∈ GT := gt_mem (i := 1589) (by decide +kernel) (by decide +kernel)
theorem im_X12_signOf : Cond.instanceMethod yX12_signOf ∈ GT := gt_mem (i := 1591) (by decide +kernel) (by decide +kernel)
theorem se_X12_signOf : Cond.selects yX12_signOf.cls yX12_signOf yX12_signOf ∈ GT := gt_mem (i := 72) (by decide +kernel) (by decide +kernel)
theorem mi_X12_sign : Mi yX12_sign cX12_sign 3 (some .long) 2 := ⟨gt_mem (i := 1584) (by decide +kernel) (by decide +kernel), gt_mem (i := 97) (by decide +kernel) (by decide +kernel), by decide +kernel, by decide +kernel, by decide +kernel, by decide +kernel⟩
theorem mi_X12_sworn : Mi yX12_sworn cX12_sworn 7 (some .int) 2 := ⟨gt_mem (i := 1609) (by decide +kernel) (by decide +kernel), gt_mem (i := 97) (by decide +kernel) (by decide +kernel), by decide +kernel, by decide +kernel, by decide +kernel, by decide +kernel⟩
theorem kl_X12_369 : Jvm.Cond.constantLong RX12 369 (9) ∈ GT := gt_mem (i := 1605) (by decide +kernel) (by decide +kernel)
theorem ml_X12_371 : Cond.methodLink RX12 371 yX12_sworn ∈ GT := gt_mem (i := 1606) (by decide +kernel) (by decide +kernel)
theorem im_X12_sworn : Cond.instanceMethod yX12_sworn ∈ GT := gt_mem (i := 1608) (by decide +kernel) (by decide +kernel)
theorem se_X12_sworn : Cond.selects yX12_sworn.cls yX12_sworn yX12_sworn ∈ GT := gt_mem (i := 75) (by decide +kernel) (by decide +kernel)
theorem mi_X12_oath : Mi yX12_oath cX12_oath 2 (some .long) 1 := ⟨gt_mem (i := 1604) (by decide +kernel) (by decide +kernel), gt_mem (i := 97) (by decide +kernel) (by decide +kernel), by decide +kernel, by decide +kernel, by decide +kernel, by decide +kernel⟩
theorem mi_X12_madeUp : Mi yX12_madeUp cX12_madeUp 2 (some .long) 1 := ⟨gt_mem (i := 1613) (by decide +kernel) (by decide +kernel), gt_mem (i := 97) (by decide +kernel) (by decide +kernel), by decide +kernel, by decide +kernel, by decide +kernel, by decide +kernel⟩
theorem kl_X12_375 : Jvm.Cond.constantLong RX12 375 (4) ∈ GT := gt_mem (i := 1630) (by decide +kernel) (by decide +kernel)
theorem mi_X12_weightOf : Mi yX12_weightOf cX12_weightOf 9 (some .long) 2 := ⟨gt_mem (i := 1629) (by decide +kernel) (by decide +kernel), gt_mem (i := 97) (by decide +kernel) (by decide +kernel), by decide +kernel, by decide +kernel, by decide +kernel, by decide +kernel⟩
theorem ml_X12_383 : Cond.methodLink RX12 383 yX12_weightOf ∈ GT := gt_mem (i := 1626) (by decide +kernel) (by decide +kernel)
theorem im_X12_weightOf : Cond.instanceMethod yX12_weightOf ∈ GT := gt_mem (i := 1628) (by decide +kernel) (by decide +kernel)
theorem se_X12_weightOf : Cond.selects yX12_weightOf.cls yX12_weightOf yX12_weightOf ∈ GT := gt_mem (i := 78) (by decide +kernel) (by decide +kernel)
theorem ml_X12_377 : Cond.methodLink RX12 377 yX12_isStory ∈ GT := gt_mem (i := 1618) (by decide +kernel) (by decide +kernel)
theorem im_X12_isStory : Cond.instanceMethod yX12_isStory ∈ GT := gt_mem (i := 1620) (by decide +kernel) (by decide +kernel)
theorem se_X12_isStory : Cond.selects yX12_isStory.cls yX12_isStory yX12_isStory ∈ GT := gt_mem (i := 76) (by decide +kernel) (by decide +kernel)
theorem ml_X12_380 : Cond.methodLink RX12 380 yX12_areSigns ∈ GT := gt_mem (i := 1622) (by decide +kernel) (by decide +kernel)
theorem im_X12_areSigns : Cond.instanceMethod yX12_areSigns ∈ GT := gt_mem (i := 1624) (by decide +kernel) (by decide +kernel)
theorem se_X12_areSigns : Cond.selects yX12_areSigns.cls yX12_areSigns yX12_areSigns ∈ GT := gt_mem (i := 77) (by decide +kernel) (by decide +kernel)
theorem mi_X12_odds : Mi yX12_odds cX12_odds 7 (some .long) 3 := ⟨gt_mem (i := 1617) (by decide +kernel) (by decide +kernel), gt_mem (i := 97) (by decide +kernel) (by decide +kernel), by decide +kernel, by decide +kernel, by decide +kernel, by decide +kernel⟩
theorem mi_X12_likeliest : Mi yX12_likeliest cX12_likeliest 8 (some .long) 1 := ⟨gt_mem (i := 1634) (by decide +kernel) (by decide +kernel), gt_mem (i := 97) (by decide +kernel) (by decide +kernel), by decide +kernel, by decide +kernel, by decide +kernel, by decide +kernel⟩
theorem mi_X12_lacks : Mi yX12_lacks cX12_lacks 4 (some .long) 3 := ⟨gt_mem (i := 1638) (by decide +kernel) (by decide +kernel), gt_mem (i := 97) (by decide +kernel) (by decide +kernel), by decide +kernel, by decide +kernel, by decide +kernel, by decide +kernel⟩
theorem mi_X12_bits : Mi yX12_bits cX12_bits 3 (some .int) 1 := ⟨gt_mem (i := 1645) (by decide +kernel) (by decide +kernel), gt_mem (i := 97) (by decide +kernel) (by decide +kernel), by decide +kernel, by decide +kernel, by decide +kernel, by decide +kernel⟩
theorem ml_X12_387 : Cond.methodLink RX12 387 yX12_bits ∈ GT := gt_mem (i := 1643) (by decide +kernel) (by decide +kernel)
theorem sm_X12_bits : Cond.static yX12_bits ∈ GT := gt_mem (i := 1644) (by decide +kernel) (by decide +kernel)
theorem mi_X12_next_ : Mi yX12_next_ cX12_next_ 6 (some .long) 1 := ⟨gt_mem (i := 1642) (by decide +kernel) (by decide +kernel), gt_mem (i := 97) (by decide +kernel) (by decide +kernel), by decide +kernel, by decide +kernel, by decide +kernel, by decide +kernel⟩
theorem fl_X12_47 : Fl RX12 47 12 26 true (.array .boolean) 2 := ⟨RX12, TX12, 31, tyX12, clX12, by decide, rfl, gt_mem (i := 1196) (by decide +kernel) (by decide +kernel), rfl, rfl, rfl⟩
theorem fl_X12_54 : Fl RX12 54 12 28 true (.array .int) 2 := ⟨RX12, TX12, 31, tyX12, clX12, by decide, rfl, gt_mem (i := 1198) (by decide +kernel) (by decide +kernel), rfl, rfl, rfl⟩
theorem fl_X12_51 : Fl RX12 51 12 27 true (.array .int) 2 := ⟨RX12, TX12, 31, tyX12, clX12, by decide, rfl, gt_mem (i := 1197) (by decide +kernel) (by decide +kernel), rfl, rfl, rfl⟩
theorem mi_X12_image : Mi yX12_image cX12_image 3 (some .long) 1 := ⟨gt_mem (i := 1649) (by decide +kernel) (by decide +kernel), gt_mem (i := 97) (by decide +kernel) (by decide +kernel), by decide +kernel, by decide +kernel, by decide +kernel, by decide +kernel⟩
theorem mi_X12_restore : Mi yX12_restore cX12_restore 3 (some .long) 1 := ⟨gt_mem (i := 1653) (by decide +kernel) (by decide +kernel), gt_mem (i := 97) (by decide +kernel) (by decide +kernel), by decide +kernel, by decide +kernel, by decide +kernel, by decide +kernel⟩
theorem mi_X12_isOf : Mi yX12_isOf cX12_isOf 2 (some .boolean) 2 := ⟨gt_mem (i := 1664) (by decide +kernel) (by decide +kernel), gt_mem (i := 97) (by decide +kernel) (by decide +kernel), by decide +kernel, by decide +kernel, by decide +kernel, by decide +kernel⟩
theorem mi_X12_kind : Mi yX12_kind cX12_kind 2 (some .long) 1 := ⟨gt_mem (i := 1657) (by decide +kernel) (by decide +kernel), gt_mem (i := 97) (by decide +kernel) (by decide +kernel), by decide +kernel, by decide +kernel, by decide +kernel, by decide +kernel⟩
theorem ml_X12_390 : Cond.methodLink RX12 390 yX12_isOf ∈ GT := gt_mem (i := 1662) (by decide +kernel) (by decide +kernel)
theorem sm_X12_isOf : Cond.static yX12_isOf ∈ GT := gt_mem (i := 1663) (by decide +kernel) (by decide +kernel)
theorem mi_X12_as : Mi yX12_as cX12_as 3 (some .long) 2 := ⟨gt_mem (i := 1661) (by decide +kernel) (by decide +kernel), gt_mem (i := 97) (by decide +kernel) (by decide +kernel), by decide +kernel, by decide +kernel, by decide +kernel, by decide +kernel⟩
theorem fl_X12_393 : Fl RX12 393 12 30 false (.int) 0 := ⟨RX12, TX12, 31, tyX12, clX12, by decide, rfl, gt_mem (i := 1200) (by decide +kernel) (by decide +kernel), rfl, rfl, rfl⟩
theorem fl_X12_57 : Fl RX12 57 12 29 true (.array .int) 2 := ⟨RX12, TX12, 31, tyX12, clX12, by decide, rfl, gt_mem (i := 1199) (by decide +kernel) (by decide +kernel), rfl, rfl, rfl⟩
theorem mi_X12_began : Mi yX12_began cX12_began 2 none 1 := ⟨gt_mem (i := 1676) (by decide +kernel) (by decide +kernel), gt_mem (i := 97) (by decide +kernel) (by decide +kernel), by decide +kernel, by decide +kernel, by decide +kernel, by decide +kernel⟩
theorem ml_X12_396 : Cond.methodLink RX12 396 yX12_began ∈ GT := gt_mem (i := 1673) (by decide +kernel) (by decide +kernel)
theorem im_X12_began : Cond.instanceMethod yX12_began ∈ GT := gt_mem (i := 1675) (by decide +kernel) (by decide +kernel)
theorem se_X12_began : Cond.selects yX12_began.cls yX12_began yX12_began ∈ GT := gt_mem (i := 80) (by decide +kernel) (by decide +kernel)
theorem mi_X12_plainSize : Mi yX12_plainSize cX12_plainSize 2 (some .int) 1 := ⟨gt_mem (i := 1684) (by decide +kernel) (by decide +kernel), gt_mem (i := 97) (by decide +kernel) (by decide +kernel), by decide +kernel, by decide +kernel, by decide +kernel, by decide +kernel⟩
theorem ml_X12_402 : Cond.methodLink RX12 402 yX12_plainSize ∈ GT := gt_mem (i := 1681) (by decide +kernel) (by decide +kernel)
theorem im_X12_plainSize : Cond.instanceMethod yX12_plainSize ∈ GT := gt_mem (i := 1683) (by decide +kernel) (by decide +kernel)
theorem se_X12_plainSize : Cond.selects yX12_plainSize.cls yX12_plainSize yX12_plainSize ∈ GT := gt_mem (i := 82) (by decide +kernel) (by decide +kernel)
theorem mi_X12_ownSize : Mi yX12_ownSize cX12_ownSize 5 (some .int) 2 := ⟨gt_mem (i := 1680) (by decide +kernel) (by decide +kernel), gt_mem (i := 97) (by decide +kernel) (by decide +kernel), by decide +kernel, by decide +kernel, by decide +kernel, by decide +kernel⟩
theorem ml_X12_399 : Cond.methodLink RX12 399 yX12_ownSize ∈ GT := gt_mem (i := 1677) (by decide +kernel) (by decide +kernel)
theorem im_X12_ownSize : Cond.instanceMethod yX12_ownSize ∈ GT := gt_mem (i := 1679) (by decide +kernel) (by decide +kernel)
theorem se_X12_ownSize : Cond.selects yX12_ownSize.cls yX12_ownSize yX12_ownSize ∈ GT := gt_mem (i := 81) (by decide +kernel) (by decide +kernel)
theorem mi_X12_ownMark : Mi yX12_ownMark cX12_ownMark 5 (some .int) 2 := ⟨gt_mem (i := 1672) (by decide +kernel) (by decide +kernel), gt_mem (i := 97) (by decide +kernel) (by decide +kernel), by decide +kernel, by decide +kernel, by decide +kernel, by decide +kernel⟩
theorem mi_X12_goneSize : Mi yX12_goneSize cX12_goneSize 2 (some .int) 1 := ⟨gt_mem (i := 1688) (by decide +kernel) (by decide +kernel), gt_mem (i := 97) (by decide +kernel) (by decide +kernel), by decide +kernel, by decide +kernel, by decide +kernel, by decide +kernel⟩
theorem ml_X12_408 : Cond.methodLink RX12 408 yX12_goneSize ∈ GT := gt_mem (i := 1685) (by decide +kernel) (by decide +kernel)
theorem im_X12_goneSize : Cond.instanceMethod yX12_goneSize ∈ GT := gt_mem (i := 1687) (by decide +kernel) (by decide +kernel)
theorem se_X12_goneSize : Cond.selects yX12_goneSize.cls yX12_goneSize yX12_goneSize ∈ GT := gt_mem (i := 83) (by decide +kernel) (by decide +kernel)
theorem ml_X12_405 : Cond.methodLink RX12 405 yX12_ownMark ∈ GT := gt_mem (i := 1669) (by decide +kernel) (by decide +kernel)
theorem im_X12_ownMark : Cond.instanceMethod yX12_ownMark ∈ GT := gt_mem (i := 1671) (by decide +kernel) (by decide +kernel)
theorem se_X12_ownMark : Cond.selects yX12_ownMark.cls yX12_ownMark yX12_ownMark ∈ GT := gt_mem (i := 79) (by decide +kernel) (by decide +kernel)
theorem mi_X12_ask : Mi yX12_ask cX12_ask 4 (some .long) 2 := ⟨gt_mem (i := 1668) (by decide +kernel) (by decide +kernel), gt_mem (i := 97) (by decide +kernel) (by decide +kernel), by decide +kernel, by decide +kernel, by decide +kernel, by decide +kernel⟩
theorem mi_X12_trace : Mi yX12_trace cX12_trace 2 (some .int) 1 := ⟨gt_mem (i := 1692) (by decide +kernel) (by decide +kernel), gt_mem (i := 97) (by decide +kernel) (by decide +kernel), by decide +kernel, by decide +kernel, by decide +kernel, by decide +kernel⟩
theorem mi_X12_count : Mi yX12_count cX12_count 4 (some .long) 1 := ⟨gt_mem (i := 1696) (by decide +kernel) (by decide +kernel), gt_mem (i := 97) (by decide +kernel) (by decide +kernel), by decide +kernel, by decide +kernel, by decide +kernel, by decide +kernel⟩
theorem mi_X12_status : Mi yX12_status cX12_status 1 (some .int) 0 := ⟨gt_mem (i := 1700) (by decide +kernel) (by decide +kernel), gt_mem (i := 97) (by decide +kernel) (by decide +kernel), by decide +kernel, by decide +kernel, by decide +kernel, by decide +kernel⟩
