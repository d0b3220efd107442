theorem pC_9 : xFp "TinyCache" "<init>" 9 4 0 2 (.array .int) true := ⟨RX4, TX4, 8, tyX4, rfl, uwX4, by decide, w_132, rfl, okX4, nmX4, rfl, by decide +kernel, fun _ => ⟨rfl, rfl⟩⟩
theorem pC_17 : xFp "TinyCache" "<init>" 17 4 1 2 (.array (.object "TinyCache$Page")) true := ⟨RX4, TX4, 8, tyX4, rfl, uwX4, by decide, w_133, rfl, okX4, nmX4, rfl, by decide +kernel, fun _ => ⟨rfl, rfl⟩⟩
theorem nC_21 : xNw "TinyCache" 21 2 4 := ⟨RX2, TX2, tyX2, rfl, uwX2, okX2, w_88, w_89, w_39, rfl, by decide +kernel⟩
theorem pC_24 : xFp "TinyCache" "<init>" 24 4 2 2 (.object "TinyCache$Log") true := ⟨RX4, TX4, 8, tyX4, rfl, uwX4, by decide, w_134, rfl, okX4, nmX4, rfl, by decide +kernel, fun _ => ⟨rfl, rfl⟩⟩
theorem pC_28 : xFp "TinyCache" "<init>" 28 4 3 2 (.array .int) true := ⟨RX4, TX4, 8, tyX4, rfl, uwX4, by decide, w_135, rfl, okX4, nmX4, rfl, by decide +kernel, fun _ => ⟨rfl, rfl⟩⟩
theorem pC_33 : xFp "TinyCache" "<init>" 33 4 4 2 (.array (.object "TinyCache$Item")) true := ⟨RX4, TX4, 8, tyX4, rfl, uwX4, by decide, w_136, rfl, okX4, nmX4, rfl, by decide +kernel, fun _ => ⟨rfl, rfl⟩⟩
theorem pC_37 : xFp "TinyCache" "<init>" 37 4 5 2 (.array (.object "TinyCache$Item")) true := ⟨RX4, TX4, 8, tyX4, rfl, uwX4, by decide, w_137, rfl, okX4, nmX4, rfl, by decide +kernel, fun _ => ⟨rfl, rfl⟩⟩
theorem pC_40 {nam : String} : xFp "TinyCache" nam 40 4 6 2 (.object "TinyCache$Item") false := ⟨RX4, TX4, 8, tyX4, rfl, uwX4, by decide, w_138, rfl, okX4, nmX4, rfl, by decide +kernel, fun h => nomatch h⟩
theorem pC_44 {nam : String} : xFp "TinyCache" nam 44 4 7 0 (.boolean) false := ⟨RX4, TX4, 8, tyX4, rfl, uwX4, by decide, w_139, rfl, okX4, nmX4, rfl, by decide +kernel, fun h => nomatch h⟩
theorem nC_116 : xNw "TinyCache" 116 3 4 := ⟨RX3, TX3, tyX3, rfl, uwX3, okX3, w_63, w_65, w_38, rfl, by decide +kernel⟩
theorem pP_11 : xFp "TinyCache$Page" "<init>" 11 3 0 2 (.array (.object "TinyCache$Item")) true := ⟨RX3, TX3, 4, tyX3, rfl, uwX3, by decide, w_72, rfl, okX3, nmX3, rfl, by decide +kernel, fun _ => ⟨rfl, rfl⟩⟩
theorem pP_17 {nam : String} : xFp "TinyCache$Page" nam 17 3 1 0 (.int) false := ⟨RX3, TX3, 4, tyX3, rfl, uwX3, by decide, w_73, rfl, okX3, nmX3, rfl, by decide +kernel, fun h => nomatch h⟩
theorem pP_21 {nam : String} : xFp "TinyCache$Page" nam 21 3 2 0 (.int) false := ⟨RX3, TX3, 4, tyX3, rfl, uwX3, by decide, w_74, rfl, okX3, nmX3, rfl, by decide +kernel, fun h => nomatch h⟩
theorem pP_24 {nam : String} : xFp "TinyCache$Page" nam 24 3 3 1 (.long) false := ⟨RX3, TX3, 4, tyX3, rfl, uwX3, by decide, w_76, rfl, okX3, nmX3, rfl, by decide +kernel, fun h => nomatch h⟩
theorem pG_13 : xFp "TinyCache$Log" "<init>" 13 2 0 2 (.array (.object "TinyCache$Page")) true := ⟨RX2, TX2, 4, tyX2, rfl, uwX2, by decide, w_115, rfl, okX2, nmX2, rfl, by decide +kernel, fun _ => ⟨rfl, rfl⟩⟩
theorem nG_19 : xNw "TinyCache$Log" 19 0 3 := ⟨RX0, TX0, tyX0, rfl, uwX0, okX0, w_95, w_96, w_40, rfl, by decide +kernel⟩
theorem pG_22 : xFp "TinyCache$Log" "<init>" 22 2 1 2 (.object "TinyCache$Index") true := ⟨RX2, TX2, 4, tyX2, rfl, uwX2, by decide, w_117, rfl, okX2, nmX2, rfl, by decide +kernel, fun _ => ⟨rfl, rfl⟩⟩
theorem nG_26 : xNw "TinyCache$Log" 26 3 4 := ⟨RX3, TX3, tyX3, rfl, uwX3, okX3, w_113, w_65, w_38, rfl, by decide +kernel⟩
theorem pG_29 {nam : String} : xFp "TinyCache$Log" nam 29 2 2 2 (.object "TinyCache$Page") false := ⟨RX2, TX2, 4, tyX2, rfl, uwX2, by decide, w_119, rfl, okX2, nmX2, rfl, by decide +kernel, fun h => nomatch h⟩
theorem pG_33 {nam : String} : xFp "TinyCache$Log" nam 33 2 3 0 (.int) false := ⟨RX2, TX2, 4, tyX2, rfl, uwX2, by decide, w_121, rfl, okX2, nmX2, rfl, by decide +kernel, fun h => nomatch h⟩
theorem pI_11 : xFp "TinyCache$Index" "<init>" 11 0 0 2 (.array (.object "TinyCache$Item")) true := ⟨RX0, TX0, 3, tyX0, rfl, uwX0, by decide, w_102, rfl, okX0, nmX0, rfl, by decide +kernel, fun _ => ⟨rfl, rfl⟩⟩
theorem pI_17 : xFp "TinyCache$Index" "<init>" 17 0 1 2 (.array .int) true := ⟨RX0, TX0, 3, tyX0, rfl, uwX0, by decide, w_103, rfl, okX0, nmX0, rfl, by decide +kernel, fun _ => ⟨rfl, rfl⟩⟩
theorem pI_21 {nam : String} : xFp "TinyCache$Index" nam 21 0 2 0 (.int) false := ⟨RX0, TX0, 3, tyX0, rfl, uwX0, by decide, w_104, rfl, okX0, nmX0, rfl, by decide +kernel, fun h => nomatch h⟩
theorem fC_24 : xFd "TinyCache" 24 4 2 2 := ⟨RX4, TX4, 8, rfl, uwX4, by decide, w_134, rfl⟩
theorem fC_77 : xFd "TinyCache" 77 2 1 2 := ⟨RX2, TX2, 4, rfl, uwX2, by decide, w_118, rfl⟩
theorem fC_136 : xFd "TinyCache" 136 0 2 0 := ⟨RX0, TX0, 3, rfl, uwX0, by decide, w_105, rfl⟩
theorem fC_144 : xFd "TinyCache" 144 2 2 2 := ⟨RX2, TX2, 4, rfl, uwX2, by decide, w_120, rfl⟩
theorem fC_148 : xFd "TinyCache" 148 3 2 0 := ⟨RX3, TX3, 4, rfl, uwX3, by decide, w_75, rfl⟩
theorem fC_28 : xFd "TinyCache" 28 4 3 2 := ⟨RX4, TX4, 8, rfl, uwX4, by decide, w_135, rfl⟩
theorem fG_33 : xFd "TinyCache$Log" 33 2 3 0 := ⟨RX2, TX2, 4, rfl, uwX2, by decide, w_121, rfl⟩
theorem fC_9 : xFd "TinyCache" 9 4 0 2 := ⟨RX4, TX4, 8, rfl, uwX4, by decide, w_132, rfl⟩
theorem nC_31 : xNw "TinyCache" 31 1 6 := ⟨RX1, TX1, tyX1, rfl, uwX1, okX1, w_131, w_291, w_48, rfl, by decide +kernel⟩
theorem fC_44 : xFd "TinyCache" 44 4 7 0 := ⟨RX4, TX4, 8, rfl, uwX4, by decide, w_139, rfl⟩
theorem pT_9 {nam : String} : xFp "TinyCache$Item" nam 9 1 4 0 (.int) false := ⟨RX1, TX1, 6, tyX1, rfl, uwX1, by decide, w_328, rfl, okX1, nmX1, rfl, by decide +kernel, fun h => nomatch h⟩
theorem pT_15 {nam : String} : xFp "TinyCache$Item" nam 15 1 5 0 (.boolean) false := ⟨RX1, TX1, 6, tyX1, rfl, uwX1, by decide, w_331, rfl, okX1, nmX1, rfl, by decide +kernel, fun h => nomatch h⟩
theorem pT_23 : xFp "TinyCache$Item" "<init>" 23 1 0 1 (.long) true := ⟨RX1, TX1, 6, tyX1, rfl, uwX1, by decide, w_318, rfl, okX1, nmX1, rfl, by decide +kernel, fun _ => ⟨rfl, rfl⟩⟩
theorem pT_27 : xFp "TinyCache$Item" "<init>" 27 1 1 2 (.array .int) true := ⟨RX1, TX1, 6, tyX1, rfl, uwX1, by decide, w_322, rfl, okX1, nmX1, rfl, by decide +kernel, fun _ => ⟨rfl, rfl⟩⟩
theorem pT_35 : xFp "TinyCache$Item" "<init>" 35 1 2 0 (.int) true := ⟨RX1, TX1, 6, tyX1, rfl, uwX1, by decide, w_324, rfl, okX1, nmX1, rfl, by decide +kernel, fun _ => ⟨rfl, rfl⟩⟩
theorem pT_41 : xFp "TinyCache$Item" "<init>" 41 1 3 1 (.long) true := ⟨RX1, TX1, 6, tyX1, rfl, uwX1, by decide, w_326, rfl, okX1, nmX1, rfl, by decide +kernel, fun _ => ⟨rfl, rfl⟩⟩
theorem fG_29 : xFd "TinyCache$Log" 29 2 2 2 := ⟨RX2, TX2, 4, rfl, uwX2, by decide, w_119, rfl⟩
theorem fT_27 : xFd "TinyCache$Item" 27 1 1 2 := ⟨RX1, TX1, 6, rfl, uwX1, by decide, w_322, rfl⟩
theorem fP_21 : xFd "TinyCache$Page" 21 3 2 0 := ⟨RX3, TX3, 4, rfl, uwX3, by decide, w_74, rfl⟩
theorem fC_37 : xFd "TinyCache" 37 4 5 2 := ⟨RX4, TX4, 8, rfl, uwX4, by decide, w_137, rfl⟩
theorem fC_33 : xFd "TinyCache" 33 4 4 2 := ⟨RX4, TX4, 8, rfl, uwX4, by decide, w_136, rfl⟩
theorem fC_175 : xFd "TinyCache" 175 1 0 1 := ⟨RX1, TX1, 6, rfl, uwX1, by decide, w_321, rfl⟩
theorem fC_17 : xFd "TinyCache" 17 4 1 2 := ⟨RX4, TX4, 8, rfl, uwX4, by decide, w_133, rfl⟩
theorem fI_21 : xFd "TinyCache$Index" 21 0 2 0 := ⟨RX0, TX0, 3, rfl, uwX0, by decide, w_104, rfl⟩
theorem fI_11 : xFd "TinyCache$Index" 11 0 0 2 := ⟨RX0, TX0, 3, rfl, uwX0, by decide, w_102, rfl⟩
theorem fI_40 : xFd "TinyCache$Index" 40 1 5 0 := ⟨RX1, TX1, 6, rfl, uwX1, by decide, w_334, rfl⟩
theorem fI_44 : xFd "TinyCache$Index" 44 1 4 0 := ⟨RX1, TX1, 6, rfl, uwX1, by decide, w_330, rfl⟩
theorem fI_17 : xFd "TinyCache$Index" 17 0 1 2 := ⟨RX0, TX0, 3, rfl, uwX0, by decide, w_103, rfl⟩
theorem fI_33 : xFd "TinyCache$Index" 33 1 2 0 := ⟨RX1, TX1, 6, rfl, uwX1, by decide, w_325, rfl⟩
theorem fC_201 : xFd "TinyCache" 201 3 3 1 := ⟨RX3, TX3, 4, rfl, uwX3, by decide, w_77, rfl⟩
theorem fP_11 : xFd "TinyCache$Page" 11 3 0 2 := ⟨RX3, TX3, 4, rfl, uwX3, by decide, w_72, rfl⟩
theorem fP_17 : xFd "TinyCache$Page" 17 3 1 0 := ⟨RX3, TX3, 4, rfl, uwX3, by decide, w_73, rfl⟩
theorem fP_54 : xFd "TinyCache$Page" 54 1 0 1 := ⟨RX1, TX1, 6, rfl, uwX1, by decide, w_320, rfl⟩
theorem fP_24 : xFd "TinyCache$Page" 24 3 3 1 := ⟨RX3, TX3, 4, rfl, uwX3, by decide, w_76, rfl⟩
theorem fP_31 : xFd "TinyCache$Page" 31 1 3 1 := ⟨RX1, TX1, 6, rfl, uwX1, by decide, w_327, rfl⟩
theorem fP_46 : xFd "TinyCache$Page" 46 1 5 0 := ⟨RX1, TX1, 6, rfl, uwX1, by decide, w_335, rfl⟩
theorem pP_46 {nam : String} : xFp "TinyCache$Page" nam 46 1 5 0 (.boolean) false := ⟨RX1, TX1, 6, tyX1, rfl, uwX1, by decide, w_335, rfl, okX1, nmX1, rfl, by decide +kernel, fun h => nomatch h⟩
theorem fG_13 : xFd "TinyCache$Log" 13 2 0 2 := ⟨RX2, TX2, 4, rfl, uwX2, by decide, w_115, rfl⟩
theorem pG_50 {nam : String} : xFp "TinyCache$Log" nam 50 1 5 0 (.boolean) false := ⟨RX1, TX1, 6, tyX1, rfl, uwX1, by decide, w_332, rfl, okX1, nmX1, rfl, by decide +kernel, fun h => nomatch h⟩
theorem pG_47 {nam : String} : xFp "TinyCache$Log" nam 47 1 4 0 (.int) false := ⟨RX1, TX1, 6, tyX1, rfl, uwX1, by decide, w_329, rfl, okX1, nmX1, rfl, by decide +kernel, fun h => nomatch h⟩
theorem fG_22 : xFd "TinyCache$Log" 22 2 1 2 := ⟨RX2, TX2, 4, rfl, uwX2, by decide, w_117, rfl⟩
theorem fI_25 : xFd "TinyCache$Index" 25 1 0 1 := ⟨RX1, TX1, 6, rfl, uwX1, by decide, w_319, rfl⟩
theorem fC_40 : xFd "TinyCache" 40 4 6 2 := ⟨RX4, TX4, 8, rfl, uwX4, by decide, w_138, rfl⟩
theorem pC_93 {nam : String} : xFp "TinyCache" nam 93 1 5 0 (.boolean) false := ⟨RX1, TX1, 6, tyX1, rfl, uwX1, by decide, w_333, rfl, okX1, nmX1, rfl, by decide +kernel, fun h => nomatch h⟩
theorem fC_96 : xFd "TinyCache" 96 1 1 2 := ⟨RX1, TX1, 6, rfl, uwX1, by decide, w_323, rfl⟩
theorem fG_47 : xFd "TinyCache$Log" 47 1 4 0 := ⟨RX1, TX1, 6, rfl, uwX1, by decide, w_329, rfl⟩
theorem fC_122 : xFd "TinyCache" 122 2 0 2 := ⟨RX2, TX2, 4, rfl, uwX2, by decide, w_116, rfl⟩
theorem fT_23 : xFd "TinyCache$Item" 23 1 0 1 := ⟨RX1, TX1, 6, rfl, uwX1, by decide, w_318, rfl⟩
theorem pM_7 {nam : String} : xFp "TinyCacheModel" nam 7 5 1 0 (.boolean) false := ⟨RX5, TX5, 24, tyX5, rfl, uwX5, by decide, w_553, rfl, okX5, nmX5, rfl, by decide +kernel, fun h => nomatch h⟩
theorem pM_13 : xFp "TinyCacheModel" "<init>" 13 5 2 2 (.array .int) true := ⟨RX5, TX5, 24, tyX5, rfl, uwX5, by decide, w_554, rfl, okX5, nmX5, rfl, by decide +kernel, fun _ => ⟨rfl, rfl⟩⟩
theorem pM_17 : xFp "TinyCacheModel" "<init>" 17 5 4 2 (.array .int) true := ⟨RX5, TX5, 24, tyX5, rfl, uwX5, by decide, w_556, rfl, okX5, nmX5, rfl, by decide +kernel, fun _ => ⟨rfl, rfl⟩⟩
theorem pM_20 : xFp "TinyCacheModel" "<init>" 20 5 6 2 (.array .long) true := ⟨RX5, TX5, 24, tyX5, rfl, uwX5, by decide, w_557, rfl, okX5, nmX5, rfl, by decide +kernel, fun _ => ⟨rfl, rfl⟩⟩
theorem pM_24 : xFp "TinyCacheModel" "<init>" 24 5 7 2 (.array .int) true := ⟨RX5, TX5, 24, tyX5, rfl, uwX5, by decide, w_558, rfl, okX5, nmX5, rfl, by decide +kernel, fun _ => ⟨rfl, rfl⟩⟩
theorem pM_28 : xFp "TinyCacheModel" "<init>" 28 5 8 2 (.array .int) true := ⟨RX5, TX5, 24, tyX5, rfl, uwX5, by decide, w_559, rfl, okX5, nmX5, rfl, by decide +kernel, fun _ => ⟨rfl, rfl⟩⟩
theorem pM_31 : xFp "TinyCacheModel" "<init>" 31 5 9 2 (.array .boolean) true := ⟨RX5, TX5, 24, tyX5, rfl, uwX5, by decide, w_560, rfl, okX5, nmX5, rfl, by decide +kernel, fun _ => ⟨rfl, rfl⟩⟩
theorem pM_35 : xFp "TinyCacheModel" "<init>" 35 5 10 2 (.array .boolean) true := ⟨RX5, TX5, 24, tyX5, rfl, uwX5, by decide, w_561, rfl, okX5, nmX5, rfl, by decide +kernel, fun _ => ⟨rfl, rfl⟩⟩
theorem pM_38 : xFp "TinyCacheModel" "<init>" 38 5 11 2 (.array .int) true := ⟨RX5, TX5, 24, tyX5, rfl, uwX5, by decide, w_562, rfl, okX5, nmX5, rfl, by decide +kernel, fun _ => ⟨rfl, rfl⟩⟩
theorem pM_41 : xFp "TinyCacheModel" "<init>" 41 5 12 2 (.array .boolean) true := ⟨RX5, TX5, 24, tyX5, rfl, uwX5, by decide, w_563, rfl, okX5, nmX5, rfl, by decide +kernel, fun _ => ⟨rfl, rfl⟩⟩
theorem pM_44 : xFp "TinyCacheModel" "<init>" 44 5 14 2 (.array .int) true := ⟨RX5, TX5, 24, tyX5, rfl, uwX5, by decide, w_565, rfl, okX5, nmX5, rfl, by decide +kernel, fun _ => ⟨rfl, rfl⟩⟩
theorem pM_47 : xFp "TinyCacheModel" "<init>" 47 5 15 2 (.array .int) true := ⟨RX5, TX5, 24, tyX5, rfl, uwX5, by decide, w_566, rfl, okX5, nmX5, rfl, by decide +kernel, fun _ => ⟨rfl, rfl⟩⟩
theorem pM_50 : xFp "TinyCacheModel" "<init>" 50 5 17 2 (.array .boolean) true := ⟨RX5, TX5, 24, tyX5, rfl, uwX5, by decide, w_568, rfl, okX5, nmX5, rfl, by decide +kernel, fun _ => ⟨rfl, rfl⟩⟩
theorem pM_53 : xFp "TinyCacheModel" "<init>" 53 5 19 2 (.array .int) true := ⟨RX5, TX5, 24, tyX5, rfl, uwX5, by decide, w_570, rfl, okX5, nmX5, rfl, by decide +kernel, fun _ => ⟨rfl, rfl⟩⟩
theorem pM_56 : xFp "TinyCacheModel" "<init>" 56 5 21 2 (.array .int) true := ⟨RX5, TX5, 24, tyX5, rfl, uwX5, by decide, w_572, rfl, okX5, nmX5, rfl, by decide +kernel, fun _ => ⟨rfl, rfl⟩⟩
theorem pM_59 : xFp "TinyCacheModel" "<init>" 59 5 22 2 (.array .boolean) true := ⟨RX5, TX5, 24, tyX5, rfl, uwX5, by decide, w_573, rfl, okX5, nmX5, rfl, by decide +kernel, fun _ => ⟨rfl, rfl⟩⟩
theorem pM_62 : xFp "TinyCacheModel" "<init>" 62 5 23 2 (.array .int) true := ⟨RX5, TX5, 24, tyX5, rfl, uwX5, by decide, w_574, rfl, okX5, nmX5, rfl, by decide +kernel, fun _ => ⟨rfl, rfl⟩⟩
theorem fM_65 : xFd "TinyCacheModel" 65 5 0 0 := ⟨RX5, TX5, 24, rfl, uwX5, by decide, w_552, rfl⟩
theorem pM_65 {nam : String} : xFp "TinyCacheModel" nam 65 5 0 0 (.int) false := ⟨RX5, TX5, 24, tyX5, rfl, uwX5, by decide, w_552, rfl, okX5, nmX5, rfl, by decide +kernel, fun h => nomatch h⟩
theorem fM_13 : xFd "TinyCacheModel" 13 5 2 2 := ⟨RX5, TX5, 24, rfl, uwX5, by decide, w_554, rfl⟩
theorem pM_83 {nam : String} : xFp "TinyCacheModel" nam 83 5 18 0 (.int) false := ⟨RX5, TX5, 24, tyX5, rfl, uwX5, by decide, w_569, rfl, okX5, nmX5, rfl, by decide +kernel, fun h => nomatch h⟩
theorem pM_86 {nam : String} : xFp "TinyCacheModel" nam 86 5 20 0 (.int) false := ⟨RX5, TX5, 24, tyX5, rfl, uwX5, by decide, w_571, rfl, okX5, nmX5, rfl, by decide +kernel, fun h => nomatch h⟩
theorem fM_20 : xFd "TinyCacheModel" 20 5 6 2 := ⟨RX5, TX5, 24, rfl, uwX5, by decide, w_557, rfl⟩
theorem fM_24 : xFd "TinyCacheModel" 24 5 7 2 := ⟨RX5, TX5, 24, rfl, uwX5, by decide, w_558, rfl⟩
theorem fM_28 : xFd "TinyCacheModel" 28 5 8 2 := ⟨RX5, TX5, 24, rfl, uwX5, by decide, w_559, rfl⟩
theorem fM_31 : xFd "TinyCacheModel" 31 5 9 2 := ⟨RX5, TX5, 24, rfl, uwX5, by decide, w_560, rfl⟩
theorem fM_41 : xFd "TinyCacheModel" 41 5 12 2 := ⟨RX5, TX5, 24, rfl, uwX5, by decide, w_563, rfl⟩
theorem fM_7 : xFd "TinyCacheModel" 7 5 1 0 := ⟨RX5, TX5, 24, rfl, uwX5, by decide, w_553, rfl⟩
theorem fM_44 : xFd "TinyCacheModel" 44 5 14 2 := ⟨RX5, TX5, 24, rfl, uwX5, by decide, w_565, rfl⟩
theorem fM_47 : xFd "TinyCacheModel" 47 5 15 2 := ⟨RX5, TX5, 24, rfl, uwX5, by decide, w_566, rfl⟩
theorem fM_96 : xFd "TinyCacheModel" 96 5 16 0 := ⟨RX5, TX5, 24, rfl, uwX5, by decide, w_567, rfl⟩
theorem fM_86 : xFd "TinyCacheModel" 86 5 20 0 := ⟨RX5, TX5, 24, rfl, uwX5, by decide, w_571, rfl⟩
theorem fM_56 : xFd "TinyCacheModel" 56 5 21 2 := ⟨RX5, TX5, 24, rfl, uwX5, by decide, w_572, rfl⟩
theorem fM_59 : xFd "TinyCacheModel" 59 5 22 2 := ⟨RX5, TX5, 24, rfl, uwX5, by decide, w_573, rfl⟩
theorem fM_83 : xFd "TinyCacheModel" 83 5 18 0 := ⟨RX5, TX5, 24, rfl, uwX5, by decide, w_569, rfl⟩
theorem fM_53 : xFd "TinyCacheModel" 53 5 19 2 := ⟨RX5, TX5, 24, rfl, uwX5, by decide, w_570, rfl⟩
theorem fM_38 : xFd "TinyCacheModel" 38 5 11 2 := ⟨RX5, TX5, 24, rfl, uwX5, by decide, w_562, rfl⟩
theorem fM_62 : xFd "TinyCacheModel" 62 5 23 2 := ⟨RX5, TX5, 24, rfl, uwX5, by decide, w_574, rfl⟩
theorem fM_35 : xFd "TinyCacheModel" 35 5 10 2 := ⟨RX5, TX5, 24, rfl, uwX5, by decide, w_561, rfl⟩
theorem fM_50 : xFd "TinyCacheModel" 50 5 17 2 := ⟨RX5, TX5, 24, rfl, uwX5, by decide, w_568, rfl⟩
theorem pM_96 {nam : String} : xFp "TinyCacheModel" nam 96 5 16 0 (.int) false := ⟨RX5, TX5, 24, tyX5, rfl, uwX5, by decide, w_567, rfl, okX5, nmX5, rfl, by decide +kernel, fun h => nomatch h⟩
theorem fM_106 : xFd "TinyCacheModel" 106 5 13 0 := ⟨RX5, TX5, 24, rfl, uwX5, by decide, w_564, rfl⟩
theorem pM_106 {nam : String} : xFp "TinyCacheModel" nam 106 5 13 0 (.int) false := ⟨RX5, TX5, 24, tyX5, rfl, uwX5, by decide, w_564, rfl, okX5, nmX5, rfl, by decide +kernel, fun h => nomatch h⟩
theorem fM_179 : xFd "TinyCacheModel" 179 5 3 0 := ⟨RX5, TX5, 24, rfl, uwX5, by decide, w_555, rfl⟩
theorem pM_179 {nam : String} : xFp "TinyCacheModel" nam 179 5 3 0 (.int) false := ⟨RX5, TX5, 24, tyX5, rfl, uwX5, by decide, w_555, rfl, okX5, nmX5, rfl, by decide +kernel, fun h => nomatch h⟩
theorem fM_17 : xFd "TinyCacheModel" 17 5 4 2 := ⟨RX5, TX5, 24, rfl, uwX5, by decide, w_556, rfl⟩
theorem nW_8 : xNw "TinyCacheLaw" 8 4 8 := ⟨RX4, TX4, tyX4, rfl, uwX4, okX4, w_52, w_53, w_37, rfl, by decide +kernel⟩
theorem nW_52 : xNw "TinyCacheLaw" 52 5 24 := ⟨RX5, TX5, tyX5, rfl, uwX5, okX5, w_545, w_546, w_41, rfl, by decide +kernel⟩
def xC_init : xMt := (yC_init, cC_init, 1, none, { frames := 4, cells := 268, slots := 2326, locals := 74 }, [])
def xC_newPages : xMt := (yC_newPages, cC_newPages, 3, (some (.array (.object "TinyCache$Page"))), { frames := 2, cells := 129, slots := 832, locals := 32 }, [])
def xP_init : xMt := (yP_init, cP_init, 1, none, { frames := 1, cells := 1, slots := 8, locals := 12 }, [])
def xG_init : xMt := (yG_init, cG_init, 1, none, { frames := 3, cells := 134, slots := 1175, locals := 54 }, [])
def xI_init : xMt := (yI_init, cI_init, 1, none, { frames := 1, cells := 2, slots := 328, locals := 12 }, [])
def xC_setOf : xMt := (yC_setOf, cC_setOf, 3, (some .int), { frames := 1, cells := 0, slots := 0, locals := 23 }, [])
def xC_mix : xMt := (yC_mix, cC_mix, 4, (some .long), { frames := 0, cells := 0, slots := 0, locals := 0 }, [])
def xC_setNumber : xMt := (yC_setNumber, cC_setNumber, 2, (some .int), { frames := 0, cells := 0, slots := 0, locals := 0 }, [])
def xC_count : xMt := (yC_count, cC_count, 2, (some .int), { frames := 1, cells := 0, slots := 0, locals := 20 }, [])
def xG_fullSegments : xMt := (yG_fullSegments, cG_fullSegments, 1, (some .int), { frames := 0, cells := 0, slots := 0, locals := 0 }, [])
def xW_word : xMt := (yW_word, cW_word, 5, (some .int), { frames := 7, cells := 1, slots := 6, locals := 112 }, [(0, 10, 13, 13)])
def xC_word : xMt := (yC_word, cC_word, 4, (some .int), { frames := 6, cells := 1, slots := 6, locals := 89 }, [])
def xW_put : xMt := (yW_put, cW_put, 5, (some .int), { frames := 8, cells := 4, slots := 26, locals := 167 }, [(0, 6, 9, 19), (0, 6, 13, 21)])
def xC_put : xMt := (yC_put, cC_put, 6, none, { frames := 7, cells := 4, slots := 26, locals := 142 }, [])
def xC_refuseWhenClosed : xMt := (yC_refuseWhenClosed, cC_refuseWhenClosed, 1, none, { frames := 6, cells := 1, slots := 6, locals := 89 }, [])
def xJ_copyOf : xMt := (yJ_copyOf, cJ_copyOf, 3, (some (.array .int)), { frames := 1, cells := 1, slots := 8, locals := 60 }, [])
def xJ_min : xMt := (yJ_min, cJ_min, 2, (some .int), { frames := 0, cells := 0, slots := 0, locals := 0 }, [])
def xT_init : xMt := (yT_init, cT_init, 6, none, { frames := 1, cells := 0, slots := 0, locals := 23 }, [])
def xC_filterBit : xMt := (yC_filterBit, cC_filterBit, 2, (some .long), { frames := 0, cells := 0, slots := 0, locals := 0 }, [])
def xG_hasRoomFor : xMt := (yG_hasRoomFor, cG_hasRoomFor, 2, (some .boolean), { frames := 1, cells := 0, slots := 0, locals := 21 }, [])
def xT_words : xMt := (yT_words, cT_words, 1, (some .int), { frames := 0, cells := 0, slots := 0, locals := 0 }, [])
def xP_hasRoomFor : xMt := (yP_hasRoomFor, cP_hasRoomFor, 2, (some .boolean), { frames := 0, cells := 0, slots := 0, locals := 0 }, [])
def xC_writeOpenPage : xMt := (yC_writeOpenPage, cC_writeOpenPage, 3, none, { frames := 5, cells := 0, slots := 0, locals := 120 }, [])
def xG_isBeforeWrittenSegment : xMt := (yG_isBeforeWrittenSegment, cG_isBeforeWrittenSegment, 1, (some .boolean), { frames := 0, cells := 0, slots := 0, locals := 0 }, [])
def xC_emptySegment : xMt := (yC_emptySegment, cC_emptySegment, 7, (some .int), { frames := 4, cells := 0, slots := 0, locals := 94 }, [])
def xG_oldestSegmentEnd : xMt := (yG_oldestSegmentEnd, cG_oldestSegmentEnd, 1, (some .int), { frames := 0, cells := 0, slots := 0, locals := 0 }, [])
def xI_takeGotAlone : xMt := (yI_takeGotAlone, cI_takeGotAlone, 7, (some .int), { frames := 1, cells := 0, slots := 0, locals := 22 }, [])
def xI_shrinkTo : xMt := (yI_shrinkTo, cI_shrinkTo, 3, none, { frames := 0, cells := 0, slots := 0, locals := 0 }, [])
def xI_setsBefore : xMt := (yI_setsBefore, cI_setsBefore, 5, (some .long), { frames := 0, cells := 0, slots := 0, locals := 0 }, [])
def xI_takeSet : xMt := (yI_takeSet, cI_takeSet, 7, (some .int), { frames := 1, cells := 0, slots := 0, locals := 22 }, [])
def xC_removeFromSet : xMt := (yC_removeFromSet, cC_removeFromSet, 4, (some .boolean), { frames := 3, cells := 0, slots := 0, locals := 71 }, [])
def xC_readFromSet : xMt := (yC_readFromSet, cC_readFromSet, 6, (some (.object "TinyCache$Item")), { frames := 2, cells := 0, slots := 0, locals := 46 }, [])
def xP_find : xMt := (yP_find, cP_find, 4, (some (.object "TinyCache$Item")), { frames := 1, cells := 0, slots := 0, locals := 23 }, [])
def xP_placeOf : xMt := (yP_placeOf, cP_placeOf, 4, (some .int), { frames := 0, cells := 0, slots := 0, locals := 0 }, [])
def xP_remove : xMt := (yP_remove, cP_remove, 4, none, { frames := 2, cells := 0, slots := 0, locals := 42 }, [])
def xP_removeAt : xMt := (yP_removeAt, cP_removeAt, 3, none, { frames := 1, cells := 0, slots := 0, locals := 20 }, [])
def xC_moveGathered : xMt := (yC_moveGathered, cC_moveGathered, 5, none, { frames := 3, cells := 0, slots := 0, locals := 67 }, [])
def xP_dropFor : xMt := (yP_dropFor, cP_dropFor, 6, (some .int), { frames := 2, cells := 0, slots := 0, locals := 42 }, [])
def xP_add : xMt := (yP_add, cP_add, 2, none, { frames := 1, cells := 0, slots := 0, locals := 20 }, [])
def xP_clearMarks : xMt := (yP_clearMarks, cP_clearMarks, 2, none, { frames := 0, cells := 0, slots := 0, locals := 0 }, [])
def xG_writeOut : xMt := (yG_writeOut, cG_writeOut, 3, none, { frames := 1, cells := 0, slots := 0, locals := 21 }, [])
def xP_wipe : xMt := (yP_wipe, cP_wipe, 2, none, { frames := 0, cells := 0, slots := 0, locals := 0 }, [])
def xG_append : xMt := (yG_append, cG_append, 2, none, { frames := 3, cells := 0, slots := 0, locals := 68 }, [])
def xI_add : xMt := (yI_add, cI_add, 2, none, { frames := 2, cells := 0, slots := 0, locals := 47 }, [])
def xI_remove : xMt := (yI_remove, cI_remove, 6, (some .boolean), { frames := 1, cells := 0, slots := 0, locals := 22 }, [])
def xW_get : xMt := (yW_get, cW_get, 5, (some .int), { frames := 8, cells := 1, slots := 6, locals := 131 }, [(0, 9, 12, 19)])
def xC_get : xMt := (yC_get, cC_get, 3, (some .int), { frames := 7, cells := 1, slots := 6, locals := 109 }, [])
def xI_find : xMt := (yI_find, cI_find, 4, (some (.object "TinyCache$Item")), { frames := 0, cells := 0, slots := 0, locals := 0 }, [])
def xG_hasInOpenPage : xMt := (yG_hasInOpenPage, cG_hasInOpenPage, 2, (some .boolean), { frames := 0, cells := 0, slots := 0, locals := 0 }, [])
def xW_got : xMt := (yW_got, cW_got, 4, (some .int), { frames := 7, cells := 1, slots := 6, locals := 110 }, [(0, 9, 12, 13)])
def xC_got : xMt := (yC_got, cC_got, 2, (some .int), { frames := 6, cells := 1, slots := 6, locals := 89 }, [])
def xW_delete : xMt := (yW_delete, cW_delete, 5, (some .int), { frames := 8, cells := 1, slots := 6, locals := 133 }, [(0, 16, 19, 19)])
def xC_delete : xMt := (yC_delete, cC_delete, 5, (some .boolean), { frames := 7, cells := 1, slots := 6, locals := 109 }, [])
def xW_where : xMt := (yW_where, cW_where, 5, (some .int), { frames := 8, cells := 1, slots := 6, locals := 131 }, [(0, 9, 12, 19)])
def xC_where : xMt := (yC_where, cC_where, 3, (some .int), { frames := 7, cells := 1, slots := 6, locals := 109 }, [])
def xW_flash : xMt := (yW_flash, cW_flash, 5, (some .int), { frames := 7, cells := 1, slots := 6, locals := 111 }, [(0, 10, 13, 13)])
def xC_flash : xMt := (yC_flash, cC_flash, 3, (some .int), { frames := 6, cells := 1, slots := 6, locals := 89 }, [])
def xP_wordAt : xMt := (yP_wordAt, cP_wordAt, 5, (some .int), { frames := 1, cells := 0, slots := 0, locals := 21 }, [])
def xT_wordAt : xMt := (yT_wordAt, cT_wordAt, 2, (some .int), { frames := 0, cells := 0, slots := 0, locals := 0 }, [])
def xW_close : xMt := (yW_close, cW_close, 2, (some .int), { frames := 8, cells := 1, slots := 6, locals := 129 }, [(0, 4, 7, 19)])
def xC_close : xMt := (yC_close, cC_close, 1, none, { frames := 7, cells := 1, slots := 6, locals := 109 }, [])
def xW_crash : xMt := (yW_crash, cW_crash, 2, (some .int), { frames := 8, cells := 1, slots := 6, locals := 130 }, [(0, 4, 7, 19)])
def xC_crash : xMt := (yC_crash, cC_crash, 2, none, { frames := 7, cells := 1, slots := 6, locals := 109 }, [])
def xG_wipe : xMt := (yG_wipe, cG_wipe, 2, none, { frames := 2, cells := 0, slots := 0, locals := 43 }, [])
def xI_wipe : xMt := (yI_wipe, cI_wipe, 1, none, { frames := 1, cells := 0, slots := 0, locals := 23 }, [])
def xJ_fill : xMt := (yJ_fill, cJ_fill, 4, none, { frames := 0, cells := 0, slots := 0, locals := 0 }, [])
def xW_open : xMt := (yW_open, cW_open, 3, (some .int), { frames := 7, cells := 1, slots := 6, locals := 109 }, [(0, 8, 11, 19)])
def xC_open : xMt := (yC_open, cC_open, 1, (some .int), { frames := 6, cells := 1, slots := 6, locals := 89 }, [])
def xM_init : xMt := (yM_init, cM_init, 1, none, { frames := 1, cells := 16, slots := 63006, locals := 12 }, [])
def xM_thrown : xMt := (yM_thrown, cM_thrown, 1, (some .int), { frames := 0, cells := 0, slots := 0, locals := 0 }, [])
def xM_word : xMt := (yM_word, cM_word, 4, (some .int), { frames := 1, cells := 0, slots := 0, locals := 22 }, [])
def xM_within : xMt := (yM_within, cM_within, 3, (some .boolean), { frames := 0, cells := 0, slots := 0, locals := 0 }, [])
def xM_fail : xMt := (yM_fail, cM_fail, 2, (some .int), { frames := 0, cells := 0, slots := 0, locals := 0 }, [])
def xM_put : xMt := (yM_put, cM_put, 6, none, { frames := 7, cells := 0, slots := 0, locals := 162 }, [])
def xM_works : xMt := (yM_works, cM_works, 1, (some .boolean), { frames := 0, cells := 0, slots := 0, locals := 0 }, [])
def xM_wordsOf : xMt := (yM_wordsOf, cM_wordsOf, 4, (some .int), { frames := 1, cells := 0, slots := 0, locals := 21 }, [])
def xM_need : xMt := (yM_need, cM_need, 2, (some .int), { frames := 0, cells := 0, slots := 0, locals := 0 }, [])
def xM_makeRoom : xMt := (yM_makeRoom, cM_makeRoom, 4, none, { frames := 6, cells := 0, slots := 0, locals := 139 }, [])
def xM_empty : xMt := (yM_empty, cM_empty, 4, none, { frames := 5, cells := 0, slots := 0, locals := 116 }, [])
def xM_setOfKey : xMt := (yM_setOfKey, cM_setOfKey, 2, (some .int), { frames := 1, cells := 0, slots := 0, locals := 23 }, [])
def xM_mixed : xMt := (yM_mixed, cM_mixed, 4, (some .long), { frames := 0, cells := 0, slots := 0, locals := 0 }, [])
def xM_gatherAll : xMt := (yM_gatherAll, cM_gatherAll, 6, none, { frames := 2, cells := 0, slots := 0, locals := 44 }, [])
def xM_moveAll : xMt := (yM_moveAll, cM_moveAll, 4, none, { frames := 4, cells := 0, slots := 0, locals := 91 }, [])
def xM_inSet : xMt := (yM_inSet, cM_inSet, 6, (some .int), { frames := 2, cells := 0, slots := 0, locals := 44 }, [])
def xM_takeOut : xMt := (yM_takeOut, cM_takeOut, 4, none, { frames := 0, cells := 0, slots := 0, locals := 0 }, [])
def xM_dropFirst : xMt := (yM_dropFirst, cM_dropFirst, 5, none, { frames := 3, cells := 0, slots := 0, locals := 67 }, [])
def xM_needAll : xMt := (yM_needAll, cM_needAll, 4, (some .int), { frames := 2, cells := 0, slots := 0, locals := 44 }, [])
def xM_copy : xMt := (yM_copy, cM_copy, 4, (some .int), { frames := 1, cells := 0, slots := 0, locals := 22 }, [])
def xM_freeNumber : xMt := (yM_freeNumber, cM_freeNumber, 3, (some .int), { frames := 0, cells := 0, slots := 0, locals := 0 }, [])
def xM_append : xMt := (yM_append, cM_append, 3, none, { frames := 0, cells := 0, slots := 0, locals := 0 }, [])
def xM_alone : xMt := (yM_alone, cM_alone, 4, none, { frames := 4, cells := 0, slots := 0, locals := 93 }, [])
def xM_removeOld : xMt := (yM_removeOld, cM_removeOld, 5, (some .boolean), { frames := 3, cells := 0, slots := 0, locals := 69 }, [])
def xM_reads : xMt := (yM_reads, cM_reads, 6, (some .boolean), { frames := 2, cells := 0, slots := 0, locals := 44 }, [])
def xM_bitOf : xMt := (yM_bitOf, cM_bitOf, 2, (some .int), { frames := 1, cells := 0, slots := 0, locals := 23 }, [])
def xM_writeOpen : xMt := (yM_writeOpen, cM_writeOpen, 3, none, { frames := 1, cells := 0, slots := 0, locals := 22 }, [])
def xM_sortAgain : xMt := (yM_sortAgain, cM_sortAgain, 4, none, { frames := 0, cells := 0, slots := 0, locals := 0 }, [])
def xM_putAnew : xMt := (yM_putAnew, cM_putAnew, 2, none, { frames := 2, cells := 0, slots := 0, locals := 47 }, [])
def xM_enter : xMt := (yM_enter, cM_enter, 3, none, { frames := 1, cells := 0, slots := 0, locals := 25 }, [])
def xM_newest : xMt := (yM_newest, cM_newest, 6, (some .int), { frames := 0, cells := 0, slots := 0, locals := 0 }, [])
def xM_get : xMt := (yM_get, cM_get, 5, (some .int), { frames := 3, cells := 0, slots := 0, locals := 69 }, [])
def xM_pageOf : xMt := (yM_pageOf, cM_pageOf, 5, (some .int), { frames := 0, cells := 0, slots := 0, locals := 0 }, [])
def xM_tell : xMt := (yM_tell, cM_tell, 3, none, { frames := 0, cells := 0, slots := 0, locals := 0 }, [])
def xM_got : xMt := (yM_got, cM_got, 2, (some .int), { frames := 1, cells := 0, slots := 0, locals := 22 }, [])
def xM_delete : xMt := (yM_delete, cM_delete, 5, (some .boolean), { frames := 4, cells := 0, slots := 0, locals := 93 }, [])
def xM_setOf : xMt := (yM_setOf, cM_setOf, 3, (some .int), { frames := 2, cells := 0, slots := 0, locals := 44 }, [])
def xM_where : xMt := (yM_where, cM_where, 3, (some .int), { frames := 3, cells := 0, slots := 0, locals := 69 }, [])
def xM_flash : xMt := (yM_flash, cM_flash, 6, (some .int), { frames := 1, cells := 0, slots := 0, locals := 22 }, [])
def xM_close : xMt := (yM_close, cM_close, 1, none, { frames := 0, cells := 0, slots := 0, locals := 0 }, [])
def xM_crash : xMt := (yM_crash, cM_crash, 2, none, { frames := 0, cells := 0, slots := 0, locals := 0 }, [])
def xM_open : xMt := (yM_open, cM_open, 1, (some .int), { frames := 1, cells := 0, slots := 0, locals := 23 }, [])
def xM_indexed : xMt := (yM_indexed, cM_indexed, 4, (some .int), { frames := 0, cells := 0, slots := 0, locals := 0 }, [])
def xM_count : xMt := (yM_count, cM_count, 2, (some .int), { frames := 2, cells := 0, slots := 0, locals := 44 }, [])
def xW_law : xMt := (yW_law, cW_law, 7, some .boolean, room_1, [])
theorem gC_init_15 : xCS xC_init xC_newPages 13 1 := ⟨xgS w_60 w_61 w_37 w_62, rfl, by decide +kernel, by decide, rfl⟩
theorem gC_init_26 : xIN xC_init xG_init 23 0 "TinyCache" := ⟨xgI w_92, ⟨rfl, rfl⟩, by decide +kernel, w_39, w_91, rfl, by decide +kernel, by decide⟩
theorem gC_newPages_18 : xIN xC_newPages xP_init 213 0 "TinyCache" := ⟨xgI w_68, ⟨rfl, rfl⟩, by decide +kernel, w_38, w_67, rfl, by decide +kernel, by decide⟩
theorem gG_init_7 : xSN xG_init xC_newPages 9 1 "TinyCache" := ⟨xgI w_62, rfl, by decide +kernel, w_37, w_61, by decide +kernel, by decide⟩
theorem gG_init_18 : xIN xG_init xI_init 21 0 "TinyCache" := ⟨xgI w_99, ⟨rfl, rfl⟩, by decide +kernel, w_40, w_98, rfl, by decide +kernel, by decide⟩
theorem gG_init_29 : xIN xG_init xP_init 28 0 "TinyCache" := ⟨xgI w_68, ⟨rfl, rfl⟩, by decide +kernel, w_38, w_67, rfl, by decide +kernel, by decide⟩
theorem gC_setOf_1 : xCS xC_setOf xC_mix 107 1 := ⟨xgS w_161 w_162 w_37 w_163, rfl, by decide +kernel, by decide, rfl⟩
theorem gC_setOf_4 : xCS xC_setOf xC_setNumber 111 1 := ⟨xgS w_166 w_167 w_37 w_168, rfl, by decide +kernel, by decide, rfl⟩
theorem gC_count_20 : xCV xC_count xG_fullSegments 140 0 := ⟨xgV w_173 w_174 w_175 w_39 w_176, rfl, by decide +kernel, by decide, rfl⟩
theorem gW_word_5 : xCT xW_word xC_word 7 2 := ⟨xgV w_181 w_182 w_183 w_37 w_184, rfl, by decide +kernel, by decide⟩
theorem gW_put_3 : xCT xW_put xC_put 15 2 := ⟨xgV w_253 w_254 w_255 w_37 w_256, rfl, by decide +kernel, by decide⟩
theorem gC_put_1 : xCV xC_put xC_refuseWhenClosed 51 0 := ⟨xgV w_257 w_259 w_1 w_37 w_260, rfl, by decide +kernel, by decide, rfl⟩
theorem gC_put_33 : xCS xC_put xJ_copyOf 57 2 := ⟨xgS w_292 w_293 w_49 w_294, rfl, by decide +kernel, by decide, rfl⟩
theorem gC_put_36 : xCI xC_put xT_init 63 2 := ⟨xgI w_310, ⟨rfl, rfl⟩, w_48, w_308, w_309, rfl, by decide +kernel, by decide⟩
theorem gC_put_57 : xCV xC_put xG_hasRoomFor 66 1 := ⟨xgV w_349 w_350 w_351 w_39 w_352, rfl, by decide +kernel, by decide, rfl⟩
theorem gC_put_64 : xCV xC_put xC_writeOpenPage 70 0 := ⟨xgV w_361 w_363 w_2 w_37 w_364, rfl, by decide +kernel, by decide, rfl⟩
theorem gC_put_79 : xCV xC_put xG_append 73 1 := ⟨xgV w_446 w_447 w_448 w_39 w_449, rfl, by decide +kernel, by decide, rfl⟩
theorem gT_init_15 : xSN xT_init xC_mix 19 1 "TinyCache" := ⟨xgI w_163, rfl, by decide +kernel, w_37, w_162, by decide +kernel, by decide⟩
theorem gT_init_33 : xSN xT_init xC_setNumber 31 1 "TinyCache" := ⟨xgI w_168, rfl, by decide +kernel, w_37, w_167, by decide +kernel, by decide⟩
theorem gT_init_42 : xSN xT_init xC_filterBit 38 1 "TinyCache" := ⟨xgI w_316, rfl, by decide +kernel, w_37, w_315, by decide +kernel, by decide⟩
theorem gG_hasRoomFor_5 : xCV xG_hasRoomFor xT_words 37 0 := ⟨xgV w_353 w_354 w_355 w_48 w_356, rfl, by decide +kernel, by decide, rfl⟩
theorem gG_hasRoomFor_8 : xCV xG_hasRoomFor xP_hasRoomFor 43 1 := ⟨xgV w_357 w_358 w_359 w_38 w_360, rfl, by decide +kernel, by decide, rfl⟩
theorem gC_writeOpenPage_4 : xCV xC_writeOpenPage xG_isBeforeWrittenSegment 151 0 := ⟨xgV w_365 w_366 w_367 w_39 w_368, rfl, by decide +kernel, by decide, rfl⟩
theorem gC_writeOpenPage_11 : xCV xC_writeOpenPage xC_emptySegment 155 0 := ⟨xgV w_369 w_371 w_3 w_37 w_372, rfl, by decide +kernel, by decide, rfl⟩
theorem gC_writeOpenPage_23 : xCV xC_writeOpenPage xG_writeOut 158 0 := ⟨xgV w_438 w_439 w_440 w_39 w_441, rfl, by decide +kernel, by decide, rfl⟩
theorem gC_writeOpenPage_43 : xCV xC_writeOpenPage xG_hasRoomFor 66 1 := ⟨xgV w_349 w_350 w_351 w_39 w_352, rfl, by decide +kernel, by decide, rfl⟩
theorem gC_writeOpenPage_53 : xCV xC_writeOpenPage xG_writeOut 158 0 := ⟨xgV w_438 w_439 w_440 w_39 w_441, rfl, by decide +kernel, by decide, rfl⟩
theorem gC_writeOpenPage_66 : xCV xC_writeOpenPage xG_append 73 1 := ⟨xgV w_446 w_447 w_448 w_39 w_449, rfl, by decide +kernel, by decide, rfl⟩
theorem gC_emptySegment_4 : xCV xC_emptySegment xG_oldestSegmentEnd 161 0 := ⟨xgV w_373 w_374 w_375 w_39 w_376, rfl, by decide +kernel, by decide, rfl⟩
theorem gC_emptySegment_20 : xCV xC_emptySegment xI_takeGotAlone 164 2 := ⟨xgV w_377 w_378 w_379 w_40 w_380, rfl, by decide +kernel, by decide, rfl⟩
theorem gC_emptySegment_32 : xCV xC_emptySegment xI_setsBefore 168 1 := ⟨xgV w_385 w_386 w_387 w_40 w_388, rfl, by decide +kernel, by decide, rfl⟩
theorem gC_emptySegment_73 : xCV xC_emptySegment xI_takeSet 172 2 := ⟨xgV w_389 w_390 w_391 w_40 w_392, rfl, by decide +kernel, by decide, rfl⟩
theorem gC_emptySegment_106 : xCV xC_emptySegment xC_removeFromSet 103 2 := ⟨xgV w_393 w_395 w_5 w_37 w_396, rfl, by decide +kernel, by decide, rfl⟩
theorem gC_emptySegment_123 : xCV xC_emptySegment xC_moveGathered 179 2 := ⟨xgV w_419 w_421 w_9 w_37 w_422, rfl, by decide +kernel, by decide, rfl⟩
theorem gI_takeGotAlone_99 : xCV xI_takeGotAlone xI_shrinkTo 36 1 := ⟨xgV w_381 w_383 w_4 w_40 w_384, rfl, by decide +kernel, by decide, rfl⟩
theorem gI_takeSet_73 : xCV xI_takeSet xI_shrinkTo 36 1 := ⟨xgV w_381 w_383 w_4 w_40 w_384, rfl, by decide +kernel, by decide, rfl⟩
theorem gC_removeFromSet_2 : xCV xC_removeFromSet xC_readFromSet 87 1 := ⟨xgV w_397 w_399 w_6 w_37 w_400, rfl, by decide +kernel, by decide, rfl⟩
theorem gC_removeFromSet_15 : xCS xC_removeFromSet xC_mix 107 1 := ⟨xgS w_161 w_162 w_37 w_163, rfl, by decide +kernel, by decide, rfl⟩
theorem gC_removeFromSet_18 : xCS xC_removeFromSet xC_setNumber 111 1 := ⟨xgS w_166 w_167 w_37 w_168, rfl, by decide +kernel, by decide, rfl⟩
theorem gC_removeFromSet_23 : xCV xC_removeFromSet xP_remove 183 1 := ⟨xgV w_410 w_411 w_412 w_38 w_413, rfl, by decide +kernel, by decide, rfl⟩
theorem gC_readFromSet_1 : xCS xC_readFromSet xC_mix 107 1 := ⟨xgS w_161 w_162 w_37 w_163, rfl, by decide +kernel, by decide, rfl⟩
theorem gC_readFromSet_10 : xCS xC_readFromSet xC_setNumber 111 1 := ⟨xgS w_166 w_167 w_37 w_168, rfl, by decide +kernel, by decide, rfl⟩
theorem gC_readFromSet_22 : xCS xC_readFromSet xC_filterBit 204 1 := ⟨xgS w_401 w_315 w_37 w_316, rfl, by decide +kernel, by decide, rfl⟩
theorem gC_readFromSet_47 : xCV xC_readFromSet xP_find 115 1 := ⟨xgV w_402 w_403 w_404 w_38 w_405, rfl, by decide +kernel, by decide, rfl⟩
theorem gP_find_2 : xCV xP_find xP_placeOf 34 1 := ⟨xgV w_406 w_408 w_7 w_38 w_409, rfl, by decide +kernel, by decide, rfl⟩
theorem gP_remove_2 : xCV xP_remove xP_placeOf 34 1 := ⟨xgV w_406 w_408 w_7 w_38 w_409, rfl, by decide +kernel, by decide, rfl⟩
theorem gP_remove_13 : xCV xP_remove xP_removeAt 38 1 := ⟨xgV w_414 w_416 w_8 w_38 w_417, rfl, by decide +kernel, by decide, rfl⟩
theorem gP_removeAt_11 : xCV xP_removeAt xT_words 28 0 := ⟨xgV w_418 w_354 w_355 w_48 w_356, rfl, by decide +kernel, by decide, rfl⟩
theorem gC_moveGathered_43 : xCV xC_moveGathered xP_remove 183 1 := ⟨xgV w_410 w_411 w_412 w_38 w_413, rfl, by decide +kernel, by decide, rfl⟩
theorem gC_moveGathered_54 : xCV xC_moveGathered xT_words 186 0 := ⟨xgV w_423 w_354 w_355 w_48 w_356, rfl, by decide +kernel, by decide, rfl⟩
theorem gC_moveGathered_75 : xCV xC_moveGathered xP_dropFor 188 2 := ⟨xgV w_424 w_425 w_426 w_38 w_427, rfl, by decide +kernel, by decide, rfl⟩
theorem gC_moveGathered_91 : xCV xC_moveGathered xP_dropFor 188 2 := ⟨xgV w_424 w_425 w_426 w_38 w_427, rfl, by decide +kernel, by decide, rfl⟩
theorem gC_moveGathered_107 : xCV xC_moveGathered xP_hasRoomFor 192 1 := ⟨xgV w_429 w_358 w_359 w_38 w_360, rfl, by decide +kernel, by decide, rfl⟩
theorem gC_moveGathered_121 : xCV xC_moveGathered xP_add 195 1 := ⟨xgV w_430 w_431 w_432 w_38 w_433, rfl, by decide +kernel, by decide, rfl⟩
theorem gC_moveGathered_146 : xCV xC_moveGathered xT_words 186 0 := ⟨xgV w_423 w_354 w_355 w_48 w_356, rfl, by decide +kernel, by decide, rfl⟩
theorem gC_moveGathered_158 : xCV xC_moveGathered xP_clearMarks 198 0 := ⟨xgV w_434 w_435 w_436 w_38 w_437, rfl, by decide +kernel, by decide, rfl⟩
theorem gP_dropFor_19 : xCV xP_dropFor xP_hasRoomFor 42 1 := ⟨xgV w_428 w_358 w_359 w_38 w_360, rfl, by decide +kernel, by decide, rfl⟩
theorem gP_dropFor_42 : xCV xP_dropFor xP_removeAt 38 1 := ⟨xgV w_414 w_416 w_8 w_38 w_417, rfl, by decide +kernel, by decide, rfl⟩
theorem gP_add_26 : xCV xP_add xT_words 28 0 := ⟨xgV w_418 w_354 w_355 w_48 w_356, rfl, by decide +kernel, by decide, rfl⟩
theorem gG_writeOut_26 : xCV xG_writeOut xP_wipe 59 0 := ⟨xgV w_442 w_443 w_444 w_38 w_445, rfl, by decide +kernel, by decide, rfl⟩
theorem gG_append_18 : xCV xG_append xP_add 54 1 := ⟨xgV w_450 w_431 w_432 w_38 w_433, rfl, by decide +kernel, by decide, rfl⟩
theorem gG_append_26 : xCV xG_append xI_add 58 1 := ⟨xgV w_451 w_452 w_453 w_40 w_454, rfl, by decide +kernel, by decide, rfl⟩
theorem gI_add_5 : xCV xI_add xI_remove 29 1 := ⟨xgV w_455 w_456 w_457 w_40 w_458, rfl, by decide +kernel, by decide, rfl⟩
theorem gI_remove_79 : xCV xI_remove xI_shrinkTo 36 1 := ⟨xgV w_381 w_383 w_4 w_40 w_384, rfl, by decide +kernel, by decide, rfl⟩
theorem gW_get_4 : xCT xW_get xC_get 23 1 := ⟨xgV w_462 w_463 w_464 w_37 w_465, rfl, by decide +kernel, by decide⟩
theorem gC_get_1 : xCV xC_get xC_refuseWhenClosed 51 0 := ⟨xgV w_257 w_259 w_1 w_37 w_260, rfl, by decide +kernel, by decide, rfl⟩
theorem gC_get_13 : xCV xC_get xI_find 81 1 := ⟨xgV w_466 w_467 w_468 w_40 w_469, rfl, by decide +kernel, by decide, rfl⟩
theorem gC_get_29 : xCV xC_get xC_readFromSet 87 1 := ⟨xgV w_397 w_399 w_6 w_37 w_400, rfl, by decide +kernel, by decide, rfl⟩
theorem gC_get_46 : xCV xC_get xG_hasInOpenPage 90 1 := ⟨xgV w_470 w_471 w_472 w_39 w_473, rfl, by decide +kernel, by decide, rfl⟩
theorem gW_got_4 : xCT xW_got xC_got 27 1 := ⟨xgV w_477 w_478 w_479 w_37 w_480, rfl, by decide +kernel, by decide⟩
theorem gW_delete_4 : xCT xW_delete xC_delete 31 1 := ⟨xgV w_484 w_485 w_486 w_37 w_487, rfl, by decide +kernel, by decide⟩
theorem gC_delete_1 : xCV xC_delete xC_refuseWhenClosed 51 0 := ⟨xgV w_257 w_259 w_1 w_37 w_260, rfl, by decide +kernel, by decide, rfl⟩
theorem gC_delete_12 : xCV xC_delete xI_remove 99 1 := ⟨xgV w_488 w_456 w_457 w_40 w_458, rfl, by decide +kernel, by decide, rfl⟩
theorem gC_delete_19 : xCV xC_delete xC_removeFromSet 103 2 := ⟨xgV w_393 w_395 w_5 w_37 w_396, rfl, by decide +kernel, by decide, rfl⟩
theorem gW_where_4 : xCT xW_where xC_where 35 1 := ⟨xgV w_492 w_493 w_494 w_37 w_495, rfl, by decide +kernel, by decide⟩
theorem gC_where_1 : xCV xC_where xC_refuseWhenClosed 51 0 := ⟨xgV w_257 w_259 w_1 w_37 w_260, rfl, by decide +kernel, by decide, rfl⟩
theorem gC_where_12 : xCV xC_where xI_find 81 1 := ⟨xgV w_466 w_467 w_468 w_40 w_469, rfl, by decide +kernel, by decide, rfl⟩
theorem gC_where_25 : xCS xC_where xC_mix 107 1 := ⟨xgS w_161 w_162 w_37 w_163, rfl, by decide +kernel, by decide, rfl⟩
theorem gC_where_28 : xCS xC_where xC_setNumber 111 1 := ⟨xgS w_166 w_167 w_37 w_168, rfl, by decide +kernel, by decide, rfl⟩
theorem gC_where_33 : xCV xC_where xP_find 115 1 := ⟨xgV w_402 w_403 w_404 w_38 w_405, rfl, by decide +kernel, by decide, rfl⟩
theorem gW_flash_5 : xCT xW_flash xC_flash 38 2 := ⟨xgV w_499 w_500 w_501 w_37 w_502, rfl, by decide +kernel, by decide⟩
theorem gC_flash_41 : xCV xC_flash xP_wordAt 118 1 := ⟨xgV w_503 w_504 w_505 w_38 w_506, rfl, by decide +kernel, by decide, rfl⟩
theorem gC_flash_60 : xCV xC_flash xP_wordAt 118 1 := ⟨xgV w_503 w_504 w_505 w_38 w_506, rfl, by decide +kernel, by decide, rfl⟩
theorem gP_wordAt_19 : xCV xP_wordAt xT_words 28 0 := ⟨xgV w_418 w_354 w_355 w_48 w_356, rfl, by decide +kernel, by decide, rfl⟩
theorem gP_wordAt_40 : xCV xP_wordAt xT_wordAt 50 1 := ⟨xgV w_507 w_508 w_509 w_48 w_510, rfl, by decide +kernel, by decide, rfl⟩
theorem gW_close_1 : xCT xW_close xC_close 41 0 := ⟨xgV w_514 w_515 w_516 w_37 w_517, rfl, by decide +kernel, by decide⟩
theorem gC_close_1 : xCV xC_close xC_refuseWhenClosed 51 0 := ⟨xgV w_257 w_259 w_1 w_37 w_260, rfl, by decide +kernel, by decide, rfl⟩
theorem gW_crash_1 : xCT xW_crash xC_crash 44 0 := ⟨xgV w_521 w_522 w_523 w_37 w_524, rfl, by decide +kernel, by decide⟩
theorem gC_crash_1 : xCV xC_crash xC_refuseWhenClosed 51 0 := ⟨xgV w_257 w_259 w_1 w_37 w_260, rfl, by decide +kernel, by decide, rfl⟩
theorem gC_crash_18 : xCV xC_crash xP_wipe 125 0 := ⟨xgV w_525 w_443 w_444 w_38 w_445, rfl, by decide +kernel, by decide, rfl⟩
theorem gC_crash_31 : xCV xC_crash xG_wipe 128 0 := ⟨xgV w_526 w_527 w_528 w_39 w_529, rfl, by decide +kernel, by decide, rfl⟩
theorem gC_crash_39 : xCS xC_crash xJ_fill 129 2 := ⟨xgS w_537 w_535 w_49 w_536, rfl, by decide +kernel, by decide, rfl⟩
theorem gG_wipe_14 : xCV xG_wipe xP_wipe 59 0 := ⟨xgV w_442 w_443 w_444 w_38 w_445, rfl, by decide +kernel, by decide, rfl⟩
theorem gG_wipe_27 : xCV xG_wipe xP_wipe 59 0 := ⟨xgV w_442 w_443 w_444 w_38 w_445, rfl, by decide +kernel, by decide, rfl⟩
theorem gG_wipe_34 : xCV xG_wipe xI_wipe 62 0 := ⟨xgV w_530 w_531 w_532 w_40 w_533, rfl, by decide +kernel, by decide, rfl⟩
theorem gI_wipe_2 : xCV xI_wipe xI_shrinkTo 36 1 := ⟨xgV w_381 w_383 w_4 w_40 w_384, rfl, by decide +kernel, by decide, rfl⟩
theorem gI_wipe_10 : xCS xI_wipe xJ_fill 47 2 := ⟨xgS w_534 w_535 w_49 w_536, rfl, by decide +kernel, by decide, rfl⟩
theorem gW_open_3 : xCT xW_open xC_open 47 0 := ⟨xgV w_541 w_542 w_543 w_37 w_544, rfl, by decide +kernel, by decide⟩
theorem gM_word_9 : xCS xM_word xM_within 165 3 := ⟨xgS w_634 w_635 w_41 w_636, rfl, by decide +kernel, by decide, rfl⟩
theorem gM_word_17 : xCV xM_word xM_fail 169 1 := ⟨xgV w_637 w_639 w_10 w_41 w_640, rfl, by decide +kernel, by decide, rfl⟩
theorem gM_put_1 : xCV xM_put xM_works 172 0 := ⟨xgV w_645 w_647 w_11 w_41 w_648, rfl, by decide +kernel, by decide, rfl⟩
theorem gM_put_12 : xCS xM_put xM_within 165 3 := ⟨xgS w_634 w_635 w_41 w_636, rfl, by decide +kernel, by decide, rfl⟩
theorem gM_put_37 : xCV xM_put xM_wordsOf 122 1 := ⟨xgV w_649 w_651 w_12 w_41 w_652, rfl, by decide +kernel, by decide, rfl⟩
theorem gM_put_50 : xCV xM_put xM_makeRoom 176 0 := ⟨xgV w_657 w_659 w_14 w_41 w_660, rfl, by decide +kernel, by decide, rfl⟩
theorem gM_put_57 : xCV xM_put xM_freeNumber 153 0 := ⟨xgV w_701 w_703 w_23 w_41 w_704, rfl, by decide +kernel, by decide, rfl⟩
theorem gM_put_143 : xCV xM_put xM_enter 125 1 := ⟨xgV w_737 w_739 w_31 w_41 w_740, rfl, by decide +kernel, by decide, rfl⟩
theorem gM_wordsOf_27 : xCV xM_wordsOf xM_need 79 1 := ⟨xgV w_653 w_655 w_13 w_41 w_656, rfl, by decide +kernel, by decide, rfl⟩
theorem gM_makeRoom_36 : xCV xM_makeRoom xM_empty 109 1 := ⟨xgV w_661 w_663 w_15 w_41 w_664, rfl, by decide +kernel, by decide, rfl⟩
theorem gM_makeRoom_40 : xCV xM_makeRoom xM_writeOpen 113 0 := ⟨xgV w_725 w_727 w_28 w_41 w_728, rfl, by decide +kernel, by decide, rfl⟩
theorem gM_makeRoom_49 : xCV xM_makeRoom xM_sortAgain 116 0 := ⟨xgV w_729 w_731 w_29 w_41 w_732, rfl, by decide +kernel, by decide, rfl⟩
theorem gM_makeRoom_66 : xCV xM_makeRoom xM_putAnew 119 1 := ⟨xgV w_733 w_735 w_30 w_41 w_736, rfl, by decide +kernel, by decide, rfl⟩
theorem gM_empty_81 : xCS xM_empty xM_setOfKey 89 1 := ⟨xgS w_665 w_666 w_41 w_667, rfl, by decide +kernel, by decide, rfl⟩
theorem gM_empty_117 : xCV xM_empty xM_gatherAll 128 1 := ⟨xgV w_673 w_675 w_16 w_41 w_676, rfl, by decide +kernel, by decide, rfl⟩
theorem gM_empty_130 : xCV xM_empty xM_moveAll 131 1 := ⟨xgV w_677 w_679 w_17 w_41 w_680, rfl, by decide +kernel, by decide, rfl⟩
theorem gM_empty_144 : xCV xM_empty xM_alone 134 2 := ⟨xgV w_709 w_711 w_25 w_41 w_712, rfl, by decide +kernel, by decide, rfl⟩
theorem gM_setOfKey_1 : xCS xM_setOfKey xM_mixed 73 1 := ⟨xgS w_668 w_669 w_41 w_670, rfl, by decide +kernel, by decide, rfl⟩
theorem gM_gatherAll_56 : xCS xM_gatherAll xM_setOfKey 89 1 := ⟨xgS w_665 w_666 w_41 w_667, rfl, by decide +kernel, by decide, rfl⟩
theorem gM_moveAll_58 : xCV xM_moveAll xM_inSet 143 1 := ⟨xgV w_681 w_683 w_18 w_41 w_684, rfl, by decide +kernel, by decide, rfl⟩
theorem gM_moveAll_69 : xCV xM_moveAll xM_takeOut 140 2 := ⟨xgV w_685 w_687 w_19 w_41 w_688, rfl, by decide +kernel, by decide, rfl⟩
theorem gM_moveAll_82 : xCV xM_moveAll xM_dropFirst 146 3 := ⟨xgV w_689 w_691 w_20 w_41 w_692, rfl, by decide +kernel, by decide, rfl⟩
theorem gM_moveAll_90 : xCV xM_moveAll xM_dropFirst 146 3 := ⟨xgV w_689 w_691 w_20 w_41 w_692, rfl, by decide +kernel, by decide, rfl⟩
theorem gM_moveAll_95 : xCV xM_moveAll xM_needAll 137 1 := ⟨xgV w_693 w_695 w_21 w_41 w_696, rfl, by decide +kernel, by decide, rfl⟩
theorem gM_moveAll_209 : xCV xM_moveAll xM_copy 150 1 := ⟨xgV w_697 w_699 w_22 w_41 w_700, rfl, by decide +kernel, by decide, rfl⟩
theorem gM_moveAll_216 : xCV xM_moveAll xM_append 99 2 := ⟨xgV w_705 w_707 w_24 w_41 w_708, rfl, by decide +kernel, by decide, rfl⟩
theorem gM_inSet_1 : xCS xM_inSet xM_setOfKey 89 1 := ⟨xgS w_665 w_666 w_41 w_667, rfl, by decide +kernel, by decide, rfl⟩
theorem gM_dropFirst_5 : xCV xM_dropFirst xM_needAll 137 1 := ⟨xgV w_693 w_695 w_21 w_41 w_696, rfl, by decide +kernel, by decide, rfl⟩
theorem gM_dropFirst_49 : xCV xM_dropFirst xM_takeOut 140 2 := ⟨xgV w_685 w_687 w_19 w_41 w_688, rfl, by decide +kernel, by decide, rfl⟩
theorem gM_needAll_2 : xCV xM_needAll xM_wordsOf 122 1 := ⟨xgV w_649 w_651 w_12 w_41 w_652, rfl, by decide +kernel, by decide, rfl⟩
theorem gM_needAll_24 : xCV xM_needAll xM_need 79 1 := ⟨xgV w_653 w_655 w_13 w_41 w_656, rfl, by decide +kernel, by decide, rfl⟩
theorem gM_copy_1 : xCV xM_copy xM_freeNumber 153 0 := ⟨xgV w_701 w_703 w_23 w_41 w_704, rfl, by decide +kernel, by decide, rfl⟩
theorem gM_alone_18 : xCV xM_alone xM_copy 150 1 := ⟨xgV w_697 w_699 w_22 w_41 w_700, rfl, by decide +kernel, by decide, rfl⟩
theorem gM_alone_74 : xCV xM_alone xM_removeOld 157 2 := ⟨xgV w_713 w_715 w_26 w_41 w_716, rfl, by decide +kernel, by decide, rfl⟩
theorem gM_removeOld_2 : xCV xM_removeOld xM_reads 161 1 := ⟨xgV w_717 w_719 w_27 w_41 w_720, rfl, by decide +kernel, by decide, rfl⟩
theorem gM_removeOld_12 : xCV xM_removeOld xM_inSet 143 1 := ⟨xgV w_681 w_683 w_18 w_41 w_684, rfl, by decide +kernel, by decide, rfl⟩
theorem gM_removeOld_26 : xCS xM_removeOld xM_setOfKey 89 1 := ⟨xgS w_665 w_666 w_41 w_667, rfl, by decide +kernel, by decide, rfl⟩
theorem gM_removeOld_31 : xCV xM_removeOld xM_takeOut 140 2 := ⟨xgV w_685 w_687 w_19 w_41 w_688, rfl, by decide +kernel, by decide, rfl⟩
theorem gM_reads_1 : xCS xM_reads xM_setOfKey 89 1 := ⟨xgS w_665 w_666 w_41 w_667, rfl, by decide +kernel, by decide, rfl⟩
theorem gM_reads_44 : xCS xM_reads xM_bitOf 93 1 := ⟨xgS w_721 w_722 w_41 w_723, rfl, by decide +kernel, by decide, rfl⟩
theorem gM_reads_48 : xCS xM_reads xM_bitOf 93 1 := ⟨xgS w_721 w_722 w_41 w_723, rfl, by decide +kernel, by decide, rfl⟩
theorem gM_bitOf_1 : xCS xM_bitOf xM_mixed 73 1 := ⟨xgS w_668 w_669 w_41 w_670, rfl, by decide +kernel, by decide, rfl⟩
theorem gM_writeOpen_43 : xCV xM_writeOpen xM_append 99 2 := ⟨xgV w_705 w_707 w_24 w_41 w_708, rfl, by decide +kernel, by decide, rfl⟩
theorem gM_putAnew_3 : xCV xM_putAnew xM_wordsOf 122 1 := ⟨xgV w_649 w_651 w_12 w_41 w_652, rfl, by decide +kernel, by decide, rfl⟩
theorem gM_putAnew_8 : xCV xM_putAnew xM_need 79 1 := ⟨xgV w_653 w_655 w_13 w_41 w_656, rfl, by decide +kernel, by decide, rfl⟩
theorem gM_putAnew_18 : xCV xM_putAnew xM_writeOpen 113 0 := ⟨xgV w_725 w_727 w_28 w_41 w_728, rfl, by decide +kernel, by decide, rfl⟩
theorem gM_putAnew_23 : xCV xM_putAnew xM_enter 125 1 := ⟨xgV w_737 w_739 w_31 w_41 w_740, rfl, by decide +kernel, by decide, rfl⟩
theorem gM_enter_7 : xCV xM_enter xM_newest 103 1 := ⟨xgV w_741 w_743 w_32 w_41 w_744, rfl, by decide +kernel, by decide, rfl⟩
theorem gM_enter_26 : xCV xM_enter xM_append 99 2 := ⟨xgV w_705 w_707 w_24 w_41 w_708, rfl, by decide +kernel, by decide, rfl⟩
theorem gM_get_1 : xCV xM_get xM_works 172 0 := ⟨xgV w_645 w_647 w_11 w_41 w_648, rfl, by decide +kernel, by decide, rfl⟩
theorem gM_get_11 : xCV xM_get xM_newest 103 1 := ⟨xgV w_741 w_743 w_32 w_41 w_744, rfl, by decide +kernel, by decide, rfl⟩
theorem gM_get_28 : xCV xM_get xM_pageOf 182 1 := ⟨xgV w_749 w_751 w_33 w_41 w_752, rfl, by decide +kernel, by decide, rfl⟩
theorem gM_get_49 : xCV xM_get xM_tell 185 1 := ⟨xgV w_753 w_755 w_34 w_41 w_756, rfl, by decide +kernel, by decide, rfl⟩
theorem gM_get_59 : xCV xM_get xM_reads 161 1 := ⟨xgV w_717 w_719 w_27 w_41 w_720, rfl, by decide +kernel, by decide, rfl⟩
theorem gM_get_67 : xCV xM_get xM_inSet 143 1 := ⟨xgV w_681 w_683 w_18 w_41 w_684, rfl, by decide +kernel, by decide, rfl⟩
theorem gM_get_92 : xCS xM_get xM_setOfKey 89 1 := ⟨xgS w_665 w_666 w_41 w_667, rfl, by decide +kernel, by decide, rfl⟩
theorem gM_get_114 : xCV xM_get xM_tell 185 1 := ⟨xgV w_753 w_755 w_34 w_41 w_756, rfl, by decide +kernel, by decide, rfl⟩
theorem gM_got_13 : xCS xM_got xM_within 165 3 := ⟨xgS w_634 w_635 w_41 w_636, rfl, by decide +kernel, by decide, rfl⟩
theorem gM_got_30 : xCV xM_got xM_fail 169 1 := ⟨xgV w_637 w_639 w_10 w_41 w_640, rfl, by decide +kernel, by decide, rfl⟩
theorem gM_delete_1 : xCV xM_delete xM_works 172 0 := ⟨xgV w_645 w_647 w_11 w_41 w_648, rfl, by decide +kernel, by decide, rfl⟩
theorem gM_delete_11 : xCV xM_delete xM_newest 103 1 := ⟨xgV w_741 w_743 w_32 w_41 w_744, rfl, by decide +kernel, by decide, rfl⟩
theorem gM_delete_29 : xCV xM_delete xM_removeOld 157 2 := ⟨xgV w_713 w_715 w_26 w_41 w_716, rfl, by decide +kernel, by decide, rfl⟩
theorem gM_setOf_6 : xCS xM_setOf xM_setOfKey 89 1 := ⟨xgS w_665 w_666 w_41 w_667, rfl, by decide +kernel, by decide, rfl⟩
theorem gM_where_1 : xCV xM_where xM_works 172 0 := ⟨xgV w_645 w_647 w_11 w_41 w_648, rfl, by decide +kernel, by decide, rfl⟩
theorem gM_where_11 : xCV xM_where xM_newest 103 1 := ⟨xgV w_741 w_743 w_32 w_41 w_744, rfl, by decide +kernel, by decide, rfl⟩
theorem gM_where_23 : xCV xM_where xM_inSet 143 1 := ⟨xgV w_681 w_683 w_18 w_41 w_684, rfl, by decide +kernel, by decide, rfl⟩
theorem gM_flash_9 : xCS xM_flash xM_within 165 3 := ⟨xgS w_634 w_635 w_41 w_636, rfl, by decide +kernel, by decide, rfl⟩
theorem gM_flash_19 : xCS xM_flash xM_within 165 3 := ⟨xgS w_634 w_635 w_41 w_636, rfl, by decide +kernel, by decide, rfl⟩
theorem gM_flash_27 : xCV xM_flash xM_fail 169 1 := ⟨xgV w_637 w_639 w_10 w_41 w_640, rfl, by decide +kernel, by decide, rfl⟩
theorem gM_flash_66 : xCV xM_flash xM_need 79 1 := ⟨xgV w_653 w_655 w_13 w_41 w_656, rfl, by decide +kernel, by decide, rfl⟩
theorem gM_flash_148 : xCV xM_flash xM_need 79 1 := ⟨xgV w_653 w_655 w_13 w_41 w_656, rfl, by decide +kernel, by decide, rfl⟩
theorem gM_open_31 : xCV xM_open xM_indexed 188 0 := ⟨xgV w_789 w_791 w_35 w_41 w_792, rfl, by decide +kernel, by decide, rfl⟩
theorem gM_count_9 : xCS xM_count xM_within 165 3 := ⟨xgS w_634 w_635 w_41 w_636, rfl, by decide +kernel, by decide, rfl⟩
theorem gM_count_24 : xCV xM_count xM_indexed 188 0 := ⟨xgV w_789 w_791 w_35 w_41 w_792, rfl, by decide +kernel, by decide, rfl⟩
theorem gM_count_39 : xCV xM_count xM_wordsOf 122 1 := ⟨xgV w_649 w_651 w_12 w_41 w_652, rfl, by decide +kernel, by decide, rfl⟩
theorem gW_law_4 : xCI xW_law xC_init 51 0 := ⟨xgI w_56, ⟨rfl, rfl⟩, w_37, w_54, w_55, rfl, by decide +kernel, by decide⟩
theorem gW_law_12 : xCI xW_law xM_init 54 0 := ⟨xgI w_549, ⟨rfl, rfl⟩, w_41, w_547, w_548, rfl, by decide +kernel, by decide⟩
theorem gW_law_114 : xCH xW_law xW_word 55 4 := ⟨xgS w_177 w_178 w_36 w_179, by decide, by decide +kernel, by decide, rfl⟩
theorem gW_law_132 : xCV xW_law xM_word 60 2 := ⟨xgV w_630 w_631 w_632 w_41 w_633, rfl, by decide +kernel, by decide, rfl⟩
theorem gW_law_138 : xCV xW_law xM_thrown 61 0 := ⟨xgV w_626 w_627 w_628 w_41 w_629, rfl, by decide +kernel, by decide, rfl⟩
theorem gW_law_197 : xCH xW_law xW_put 66 3 := ⟨xgS w_248 w_249 w_36 w_250, by decide, by decide +kernel, by decide, rfl⟩
theorem gW_law_231 : xCV xW_law xM_put 69 2 := ⟨xgV w_641 w_642 w_643 w_41 w_644, rfl, by decide +kernel, by decide, rfl⟩
theorem gW_law_235 : xCV xW_law xM_thrown 61 0 := ⟨xgV w_626 w_627 w_628 w_41 w_629, rfl, by decide +kernel, by decide, rfl⟩
theorem gW_law_272 : xCH xW_law xW_get 70 3 := ⟨xgS w_459 w_460 w_36 w_461, by decide, by decide +kernel, by decide, rfl⟩
theorem gW_law_300 : xCV xW_law xM_get 73 1 := ⟨xgV w_745 w_746 w_747 w_41 w_748, rfl, by decide +kernel, by decide, rfl⟩
theorem gW_law_306 : xCV xW_law xM_thrown 61 0 := ⟨xgV w_626 w_627 w_628 w_41 w_629, rfl, by decide +kernel, by decide, rfl⟩
theorem gW_law_344 : xCH xW_law xW_got 74 3 := ⟨xgS w_474 w_475 w_36 w_476, by decide, by decide +kernel, by decide, rfl⟩
theorem gW_law_356 : xCV xW_law xM_got 77 1 := ⟨xgV w_757 w_758 w_759 w_41 w_760, rfl, by decide +kernel, by decide, rfl⟩
theorem gW_law_362 : xCV xW_law xM_thrown 61 0 := ⟨xgV w_626 w_627 w_628 w_41 w_629, rfl, by decide +kernel, by decide, rfl⟩
theorem gW_law_416 : xCH xW_law xW_delete 78 3 := ⟨xgS w_481 w_482 w_36 w_483, by decide, by decide +kernel, by decide, rfl⟩
theorem gW_law_444 : xCV xW_law xM_delete 80 1 := ⟨xgV w_761 w_762 w_763 w_41 w_764, rfl, by decide +kernel, by decide, rfl⟩
theorem gW_law_450 : xCV xW_law xM_thrown 61 0 := ⟨xgV w_626 w_627 w_628 w_41 w_629, rfl, by decide +kernel, by decide, rfl⟩
theorem gW_law_510 : xCV xW_law xC_setOf 81 1 := ⟨xgV w_157 w_158 w_159 w_37 w_160, rfl, by decide +kernel, by decide, rfl⟩
theorem gW_law_536 : xCV xW_law xM_setOf 84 1 := ⟨xgV w_765 w_766 w_767 w_41 w_768, rfl, by decide +kernel, by decide, rfl⟩
theorem gW_law_568 : xCH xW_law xW_where 85 3 := ⟨xgS w_489 w_490 w_36 w_491, by decide, by decide +kernel, by decide, rfl⟩
theorem gW_law_596 : xCV xW_law xM_where 87 1 := ⟨xgV w_769 w_770 w_771 w_41 w_772, rfl, by decide +kernel, by decide, rfl⟩
theorem gW_law_602 : xCV xW_law xM_thrown 61 0 := ⟨xgV w_626 w_627 w_628 w_41 w_629, rfl, by decide +kernel, by decide, rfl⟩
theorem gW_law_646 : xCH xW_law xW_flash 88 4 := ⟨xgS w_496 w_497 w_36 w_498, by decide, by decide +kernel, by decide, rfl⟩
theorem gW_law_664 : xCV xW_law xM_flash 90 2 := ⟨xgV w_773 w_774 w_775 w_41 w_776, rfl, by decide +kernel, by decide, rfl⟩
theorem gW_law_670 : xCV xW_law xM_thrown 61 0 := ⟨xgV w_626 w_627 w_628 w_41 w_629, rfl, by decide +kernel, by decide, rfl⟩
theorem gW_law_701 : xCH xW_law xW_close 91 1 := ⟨xgS w_511 w_512 w_36 w_513, by decide, by decide +kernel, by decide, rfl⟩
theorem gW_law_707 : xCV xW_law xM_close 94 0 := ⟨xgV w_777 w_778 w_779 w_41 w_780, rfl, by decide +kernel, by decide, rfl⟩
theorem gW_law_711 : xCV xW_law xM_thrown 61 0 := ⟨xgV w_626 w_627 w_628 w_41 w_629, rfl, by decide +kernel, by decide, rfl⟩
theorem gW_law_725 : xCH xW_law xW_crash 95 1 := ⟨xgS w_518 w_519 w_36 w_520, by decide, by decide +kernel, by decide, rfl⟩
theorem gW_law_731 : xCV xW_law xM_crash 97 0 := ⟨xgV w_781 w_782 w_783 w_41 w_784, rfl, by decide +kernel, by decide, rfl⟩
theorem gW_law_735 : xCV xW_law xM_thrown 61 0 := ⟨xgV w_626 w_627 w_628 w_41 w_629, rfl, by decide +kernel, by decide, rfl⟩
theorem gW_law_750 : xCH xW_law xW_open 98 2 := ⟨xgS w_538 w_539 w_36 w_540, by decide, by decide +kernel, by decide, rfl⟩
theorem gW_law_756 : xCV xW_law xM_open 101 0 := ⟨xgV w_785 w_786 w_787 w_41 w_788, rfl, by decide +kernel, by decide, rfl⟩
theorem gW_law_762 : xCV xW_law xM_thrown 61 0 := ⟨xgV w_626 w_627 w_628 w_41 w_629, rfl, by decide +kernel, by decide, rfl⟩
theorem gW_law_799 : xCV xW_law xC_count 102 1 := ⟨xgV w_169 w_170 w_171 w_37 w_172, rfl, by decide +kernel, by decide, rfl⟩
theorem gW_law_809 : xCV xW_law xM_count 105 1 := ⟨xgV w_793 w_794 w_795 w_41 w_796, rfl, by decide +kernel, by decide, rfl⟩
theorem kW_word_5_0 : xCatch xW_word 5 "java/lang/IndexOutOfBoundsException" 13 := ⟨[], ⟨0, 10, 13, 13⟩, [], "java/lang/IndexOutOfBoundsException", rfl, (fun _ h => nomatch h), by decide, by decide, w_180, by decide, rfl⟩
theorem tC_word_10 : xTh xC_word 48 50 "java/lang/IndexOutOfBoundsException" ["java/lang/RuntimeException", "java/lang/Exception"] := ⟨by decide +kernel, by decide +kernel, w_185, w_45, by decide +kernel, by decide +kernel, by decide, by decide, rfl⟩
theorem kW_put_3_0 : xCatch xW_put 3 "java/lang/IllegalStateException" 9 := ⟨[], ⟨0, 6, 9, 19⟩, [⟨0, 6, 13, 21⟩], "java/lang/IllegalStateException", rfl, (fun _ h => nomatch h), by decide, by decide, w_251, by decide, rfl⟩
theorem kW_put_3_1 : xCatch xW_put 3 "java/lang/IllegalArgumentException" 13 := ⟨[⟨0, 6, 9, 19⟩], ⟨0, 6, 13, 21⟩, [], "java/lang/IllegalArgumentException", rfl, (fun z hz => by
    rw [List.mem_singleton.mp hz]
    exact Or.inr ⟨by decide, "java/lang/IllegalStateException", w_251, by decide⟩), by decide, by decide, w_252, by decide, rfl⟩
theorem tC_put_15 : xTh xC_put 54 56 "java/lang/IllegalArgumentException" ["java/lang/RuntimeException", "java/lang/Exception"] := ⟨by decide +kernel, by decide +kernel, w_276, w_47, by decide +kernel, by decide +kernel, by decide, by decide, rfl⟩
theorem tC_refuseWhenClosed_7 : xTh xC_refuseWhenClosed 133 135 "java/lang/IllegalStateException" ["java/lang/RuntimeException", "java/lang/Exception"] := ⟨by decide +kernel, by decide +kernel, w_261, w_46, by decide +kernel, by decide +kernel, by decide, by decide, rfl⟩
theorem kW_get_4_0 : xCatch xW_get 4 "java/lang/IllegalStateException" 12 := ⟨[], ⟨0, 9, 12, 19⟩, [], "java/lang/IllegalStateException", rfl, (fun _ h => nomatch h), by decide, by decide, w_251, by decide, rfl⟩
theorem kW_got_4_0 : xCatch xW_got 4 "java/lang/IndexOutOfBoundsException" 12 := ⟨[], ⟨0, 9, 12, 13⟩, [], "java/lang/IndexOutOfBoundsException", rfl, (fun _ h => nomatch h), by decide, by decide, w_180, by decide, rfl⟩
theorem tC_got_23 : xTh xC_got 48 50 "java/lang/IndexOutOfBoundsException" ["java/lang/RuntimeException", "java/lang/Exception"] := ⟨by decide +kernel, by decide +kernel, w_185, w_45, by decide +kernel, by decide +kernel, by decide, by decide, rfl⟩
theorem kW_delete_4_0 : xCatch xW_delete 4 "java/lang/IllegalStateException" 19 := ⟨[], ⟨0, 16, 19, 19⟩, [], "java/lang/IllegalStateException", rfl, (fun _ h => nomatch h), by decide, by decide, w_251, by decide, rfl⟩
theorem kW_where_4_0 : xCatch xW_where 4 "java/lang/IllegalStateException" 12 := ⟨[], ⟨0, 9, 12, 19⟩, [], "java/lang/IllegalStateException", rfl, (fun _ h => nomatch h), by decide, by decide, w_251, by decide, rfl⟩
theorem kW_flash_5_0 : xCatch xW_flash 5 "java/lang/IndexOutOfBoundsException" 13 := ⟨[], ⟨0, 10, 13, 13⟩, [], "java/lang/IndexOutOfBoundsException", rfl, (fun _ h => nomatch h), by decide, by decide, w_180, by decide, rfl⟩
theorem tC_flash_20 : xTh xC_flash 48 50 "java/lang/IndexOutOfBoundsException" ["java/lang/RuntimeException", "java/lang/Exception"] := ⟨by decide +kernel, by decide +kernel, w_185, w_45, by decide +kernel, by decide +kernel, by decide, by decide, rfl⟩
theorem kW_close_1_0 : xCatch xW_close 1 "java/lang/IllegalStateException" 7 := ⟨[], ⟨0, 4, 7, 19⟩, [], "java/lang/IllegalStateException", rfl, (fun _ h => nomatch h), by decide, by decide, w_251, by decide, rfl⟩
theorem kW_crash_1_0 : xCatch xW_crash 1 "java/lang/IllegalStateException" 7 := ⟨[], ⟨0, 4, 7, 19⟩, [], "java/lang/IllegalStateException", rfl, (fun _ h => nomatch h), by decide, by decide, w_251, by decide, rfl⟩
theorem kW_open_3_0 : xCatch xW_open 3 "java/lang/IllegalStateException" 11 := ⟨[], ⟨0, 8, 11, 19⟩, [], "java/lang/IllegalStateException", rfl, (fun _ h => nomatch h), by decide, by decide, w_251, by decide, rfl⟩
theorem tC_open_7 : xTh xC_open 133 135 "java/lang/IllegalStateException" ["java/lang/RuntimeException", "java/lang/Exception"] := ⟨by decide +kernel, by decide +kernel, w_261, w_46, by decide +kernel, by decide +kernel, by decide, by decide, rfl⟩
