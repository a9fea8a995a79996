set_option maxRecDepth 100000 in
theorem cw_L_65 : kCw RL 65 mX11_init 0 := ⟨kU_of (i := 108) (by decide +kernel) rfl, okX11_init, by decide +kernel⟩
set_option maxRecDepth 100000 in
theorem cw_X3_18 : kCw RX3 18 mX6_init 1 := ⟨kU_of (i := 167) (by decide +kernel) rfl, okX6_init, by decide +kernel⟩
set_option maxRecDepth 100000 in
theorem cw_X7_27 : kCw RX7 27 mX6_init 1 := ⟨kU_of (i := 243) (by decide +kernel) rfl, okX6_init, by decide +kernel⟩
set_option maxRecDepth 100000 in
theorem cw_X1_23 : kCw RX1 23 mX6_init 1 := ⟨kU_of (i := 263) (by decide +kernel) rfl, okX6_init, by decide +kernel⟩
set_option maxRecDepth 100000 in
theorem cw_X1_32 : kCw RX1 32 mX10_init 0 := ⟨kU_of (i := 266) (by decide +kernel) rfl, okX10_init, by decide +kernel⟩
set_option maxRecDepth 100000 in
theorem cw_X10_19 : kCw RX10 19 mX6_init 1 := ⟨kU_of (i := 272) (by decide +kernel) rfl, okX6_init, by decide +kernel⟩
set_option maxRecDepth 100000 in
theorem cw_X11_61 : kCw RX11 61 mX6_init 1 := ⟨kU_of (i := 411) (by decide +kernel) rfl, okX6_init, by decide +kernel⟩
set_option maxRecDepth 100000 in
theorem cw_L_71 : kCw RL 71 mX11_type 2 := ⟨kU_of (i := 461) (by decide +kernel) rfl, okX11_type, by decide +kernel⟩
set_option maxRecDepth 100000 in
theorem cw_X11_80 : kCw RX11 80 mX6_hasRoom 1 := ⟨kU_of (i := 465) (by decide +kernel) rfl, okX6_hasRoom, by decide +kernel⟩
set_option maxRecDepth 100000 in
theorem cw_X11_84 : kCw RX11 84 mX6_put 1 := ⟨kU_of (i := 469) (by decide +kernel) rfl, okX6_put, by decide +kernel⟩
set_option maxRecDepth 100000 in
theorem cw_L_90 : kCw RL 90 mX11_hash 0 := ⟨kU_of (i := 473) (by decide +kernel) rfl, okX11_hash, by decide +kernel⟩
set_option maxRecDepth 100000 in
theorem cw_X11_87 : kCw RX11 87 mX11_takeTape 0 := ⟨kU_of (i := 477) (by decide +kernel) rfl, okX11_takeTape, by decide +kernel⟩
set_option maxRecDepth 100000 in
theorem cw_X11_139 : kCw RX11 139 mX6_clear 0 := ⟨kU_of (i := 481) (by decide +kernel) rfl, okX6_clear, by decide +kernel⟩
set_option maxRecDepth 100000 in
theorem cw_X11_118 : kCw RX11 118 mX3_start 0 := ⟨kU_of (i := 485) (by decide +kernel) rfl, okX3_start, by decide +kernel⟩
set_option maxRecDepth 100000 in
theorem cw_X3_25 : kCw RX3 25 mX6_clear 0 := ⟨kU_of (i := 489) (by decide +kernel) rfl, okX6_clear, by decide +kernel⟩
set_option maxRecDepth 100000 in
theorem cw_X11_121 : kCw RX11 121 mX3_addRow 3 := ⟨kU_of (i := 490) (by decide +kernel) rfl, okX3_addRow, by decide +kernel⟩
set_option maxRecDepth 100000 in
theorem cw_X3_28 : kCw RX3 28 mX6_putAll 3 := ⟨kU_of (i := 494) (by decide +kernel) rfl, okX6_putAll, by decide +kernel⟩
set_option maxRecDepth 100000 in
theorem cw_X6_17 : kCw RX6 17 mX6_hasRoom 1 := ⟨kU_of (i := 498) (by decide +kernel) rfl, okX6_hasRoom, by decide +kernel⟩
set_option maxRecDepth 100000 in
theorem cw_X11_125 : kCw RX11 125 mX3_finish 1 := ⟨kU_of (i := 502) (by decide +kernel) rfl, okX3_finish, by decide +kernel⟩
set_option maxRecDepth 100000 in
theorem cw_X3_32 : kCw RX3 32 mX6_put 1 := ⟨kU_of (i := 506) (by decide +kernel) rfl, okX6_put, by decide +kernel⟩
set_option maxRecDepth 100000 in
theorem cw_X3_39 : kCw RX3 39 mX6_putBig 1 := ⟨kU_of (i := 507) (by decide +kernel) rfl, okX6_putBig, by decide +kernel⟩
set_option maxRecDepth 100000 in
theorem cw_X6_27 : kCw RX6 27 mX6_put 1 := ⟨kU_of (i := 511) (by decide +kernel) rfl, okX6_put, by decide +kernel⟩
set_option maxRecDepth 100000 in
theorem cw_X3_51 : kCw RX3 51 mX3_mix 1 := ⟨kU_of (i := 515) (by decide +kernel) rfl, okX3_mix, by decide +kernel⟩
set_option maxRecDepth 100000 in
theorem cw_X3_54 : kCw RX3 54 mX3_spread 1 := ⟨kU_of (i := 519) (by decide +kernel) rfl, okX3_spread, by decide +kernel⟩
set_option maxRecDepth 100000 in
theorem cw_L_7 : kCw RL 7 mX11_set 1 := ⟨kU_of (i := 530) (by decide +kernel) rfl, okX11_set, by decide +kernel⟩
set_option maxRecDepth 100000 in
theorem cw_X11_94 : kCw RX11 94 mX11_settable 1 := ⟨kU_of (i := 598) (by decide +kernel) rfl, okX11_settable, by decide +kernel⟩
set_option maxRecDepth 100000 in
theorem cw_L_17 : kCw RL 17 mX11_multiply 0 := ⟨kU_of (i := 621) (by decide +kernel) rfl, okX11_multiply, by decide +kernel⟩
set_option maxRecDepth 100000 in
theorem cw_X11_114 : kCw RX11 114 mX0_times 4 := ⟨kU_of (i := 625) (by decide +kernel) rfl, okX0_times, by decide +kernel⟩
set_option maxRecDepth 100000 in
theorem cw_X0_55 : kCw RX0 55 mX5_read 4 := ⟨kU_of (i := 630) (by decide +kernel) rfl, okX5_read, by decide +kernel⟩
set_option maxRecDepth 100000 in
theorem cw_X0_63 : kCw RX0 63 mX0_setSmall 2 := ⟨kU_of (i := 635) (by decide +kernel) rfl, okX0_setSmall, by decide +kernel⟩
set_option maxRecDepth 100000 in
theorem cw_X0_87 : kCw RX0 87 mJ7_fill_d0a16 2 := ⟨kU_of (i := 638) (by decide +kernel) rfl, okJ7_fill_d0a16, by decide +kernel⟩
set_option maxRecDepth 100000 in
theorem cw_X0_67 : kCw RX0 67 mX0_step 4 := ⟨kU_of (i := 641) (by decide +kernel) rfl, okX0_step, by decide +kernel⟩
set_option maxRecDepth 100000 in
theorem cw_X0_92 : kCw RX0 92 mX0_sum 3 := ⟨kU_of (i := 645) (by decide +kernel) rfl, okX0_sum, by decide +kernel⟩
set_option maxRecDepth 100000 in
theorem cw_X0_95 : kCw RX0 95 mX0_difference 3 := ⟨kU_of (i := 648) (by decide +kernel) rfl, okX0_difference, by decide +kernel⟩
set_option maxRecDepth 100000 in
theorem cw_X0_75 : kCw RX0 75 mX0_product 3 := ⟨kU_of (i := 654) (by decide +kernel) rfl, okX0_product, by decide +kernel⟩
set_option maxRecDepth 100000 in
theorem cw_X0_112 : kCw RX0 112 mX0_fold 1 := ⟨kU_of (i := 658) (by decide +kernel) rfl, okX0_fold, by decide +kernel⟩
set_option maxRecDepth 100000 in
theorem cw_X0_98 : kCw RX0 98 mX0_square 2 := ⟨kU_of (i := 665) (by decide +kernel) rfl, okX0_square, by decide +kernel⟩
set_option maxRecDepth 100000 in
theorem cw_X0_101 : kCw RX0 101 mX0_scale 2 := ⟨kU_of (i := 670) (by decide +kernel) rfl, okX0_scale, by decide +kernel⟩
set_option maxRecDepth 100000 in
theorem cw_X0_71 : kCw RX0 71 mX0_invert 2 := ⟨kU_of (i := 675) (by decide +kernel) rfl, okX0_invert, by decide +kernel⟩
set_option maxRecDepth 100000 in
theorem cw_X0_79 : kCw RX0 79 mX0_settle 1 := ⟨kU_of (i := 679) (by decide +kernel) rfl, okX0_settle, by decide +kernel⟩
set_option maxRecDepth 100000 in
theorem cw_X0_83 : kCw RX0 83 mX5_write 3 := ⟨kU_of (i := 682) (by decide +kernel) rfl, okX5_write, by decide +kernel⟩
set_option maxRecDepth 100000 in
theorem cw_L_20 : kCw RL 20 mX11_stream 2 := ⟨kU_of (i := 688) (by decide +kernel) rfl, okX11_stream, by decide +kernel⟩
set_option maxRecDepth 100000 in
theorem cw_X11_133 : kCw RX11 133 mX8_make 3 := ⟨kU_of (i := 692) (by decide +kernel) rfl, okX8_make, by decide +kernel⟩
set_option maxRecDepth 100000 in
theorem cw_X8_19 : kCw RX8 19 mX8_fillFirst 3 := ⟨kU_of (i := 696) (by decide +kernel) rfl, okX8_fillFirst, by decide +kernel⟩
set_option maxRecDepth 100000 in
theorem cw_X8_32 : kCw RX8 32 mX8_quarter 4 := ⟨kU_of (i := 708) (by decide +kernel) rfl, okX8_quarter, by decide +kernel⟩
set_option maxRecDepth 100000 in
theorem cw_X11_143 : kCw RX11 143 mX6_putAll 3 := ⟨kU_of (i := 712) (by decide +kernel) rfl, okX6_putAll, by decide +kernel⟩
set_option maxRecDepth 100000 in
theorem cw_L_24 : kCw RL 24 mX11_tag 0 := ⟨kU_of (i := 716) (by decide +kernel) rfl, okX11_tag, by decide +kernel⟩
set_option maxRecDepth 100000 in
theorem cw_X11_150 : kCw RX11 150 mX9_make 4 := ⟨kU_of (i := 720) (by decide +kernel) rfl, okX9_make, by decide +kernel⟩
set_option maxRecDepth 100000 in
theorem cw_X9_26 : kCw RX9 26 mX9_readFactor 1 := ⟨kU_of (i := 724) (by decide +kernel) rfl, okX9_readFactor, by decide +kernel⟩
set_option maxRecDepth 100000 in
theorem cw_X9_64 : kCw RX9 64 mX5_read 4 := ⟨kU_of (i := 729) (by decide +kernel) rfl, okX5_read, by decide +kernel⟩
set_option maxRecDepth 100000 in
theorem cw_X9_30 : kCw RX9 30 mJ7_fill_d0a16 2 := ⟨kU_of (i := 730) (by decide +kernel) rfl, okJ7_fill_d0a16, by decide +kernel⟩
set_option maxRecDepth 100000 in
theorem cw_X9_42 : kCw RX9 42 mX9_addPiece 3 := ⟨kU_of (i := 734) (by decide +kernel) rfl, okX9_addPiece, by decide +kernel⟩
set_option maxRecDepth 100000 in
theorem cw_X9_68 : kCw RX9 68 mJ7_fill_53178 2 := ⟨kU_of (i := 738) (by decide +kernel) rfl, okJ7_fill_53178, by decide +kernel⟩
set_option maxRecDepth 100000 in
theorem cw_X9_46 : kCw RX9 46 mX9_multiplyByFactor 0 := ⟨kU_of (i := 741) (by decide +kernel) rfl, okX9_multiplyByFactor, by decide +kernel⟩
set_option maxRecDepth 100000 in
theorem cw_X9_73 : kCw RX9 73 mX9_carry 0 := ⟨kU_of (i := 746) (by decide +kernel) rfl, okX9_carry, by decide +kernel⟩
set_option maxRecDepth 100000 in
theorem cw_X9_49 : kCw RX9 49 mX9_settle 0 := ⟨kU_of (i := 751) (by decide +kernel) rfl, okX9_settle, by decide +kernel⟩
set_option maxRecDepth 100000 in
theorem cw_X9_52 : kCw RX9 52 mX5_write 3 := ⟨kU_of (i := 755) (by decide +kernel) rfl, okX5_write, by decide +kernel⟩
set_option maxRecDepth 100000 in
theorem cw_L_27 : kCw RL 27 mX11_out 1 := ⟨kU_of (i := 759) (by decide +kernel) rfl, okX11_out, by decide +kernel⟩
set_option maxRecDepth 100000 in
theorem cw_X11_156 : kCw RX11 156 mX11_byteOf 2 := ⟨kU_of (i := 763) (by decide +kernel) rfl, okX11_byteOf, by decide +kernel⟩
set_option maxRecDepth 100000 in
theorem cw_X11_208 : kCw RX11 208 mX6_holds 1 := ⟨kU_of (i := 766) (by decide +kernel) rfl, okX6_holds, by decide +kernel⟩
set_option maxRecDepth 100000 in
theorem cw_L_31 : kCw RL 31 mX11_begin 1 := ⟨kU_of (i := 775) (by decide +kernel) rfl, okX11_begin, by decide +kernel⟩
set_option maxRecDepth 100000 in
theorem cw_X11_160 : kCw RX11 160 mX11_endOf 1 := ⟨kU_of (i := 779) (by decide +kernel) rfl, okX11_endOf, by decide +kernel⟩
set_option maxRecDepth 100000 in
theorem cw_X11_180 : kCw RX11 180 mX11_writeInit 1 := ⟨kU_of (i := 813) (by decide +kernel) rfl, okX11_writeInit, by decide +kernel⟩
set_option maxRecDepth 100000 in
theorem cw_X11_184 : kCw RX11 184 mX11_emit 1 := ⟨kU_of (i := 817) (by decide +kernel) rfl, okX11_emit, by decide +kernel⟩
set_option maxRecDepth 100000 in
theorem cw_X11_255 : kCw RX11 255 mX10_append 0 := ⟨kU_of (i := 821) (by decide +kernel) rfl, okX10_append, by decide +kernel⟩
set_option maxRecDepth 100000 in
theorem cw_X10_29 : kCw RX10 29 mX10_at 1 := ⟨kU_of (i := 825) (by decide +kernel) rfl, okX10_at, by decide +kernel⟩
set_option maxRecDepth 100000 in
theorem cw_X11_258 : kCw RX11 258 mX7_close 4 := ⟨kU_of (i := 829) (by decide +kernel) rfl, okX7_close, by decide +kernel⟩
set_option maxRecDepth 100000 in
theorem cw_X7_44 : kCw RX7 44 mX7_zerosBehind 2 := ⟨kU_of (i := 833) (by decide +kernel) rfl, okX7_zerosBehind, by decide +kernel⟩
set_option maxRecDepth 100000 in
theorem cw_X7_48 : kCw RX7 48 mX6_clear 0 := ⟨kU_of (i := 836) (by decide +kernel) rfl, okX6_clear, by decide +kernel⟩
set_option maxRecDepth 100000 in
theorem cw_X7_51 : kCw RX7 51 mX6_putBig 1 := ⟨kU_of (i := 837) (by decide +kernel) rfl, okX6_putBig, by decide +kernel⟩
set_option maxRecDepth 100000 in
theorem cw_X7_54 : kCw RX7 54 mX6_put 1 := ⟨kU_of (i := 838) (by decide +kernel) rfl, okX6_put, by decide +kernel⟩
set_option maxRecDepth 100000 in
theorem cw_X7_61 : kCw RX7 61 mX6_putAll 3 := ⟨kU_of (i := 839) (by decide +kernel) rfl, okX6_putAll, by decide +kernel⟩
set_option maxRecDepth 100000 in
theorem cw_X7_65 : kCw RX7 65 mX7_hide 3 := ⟨kU_of (i := 840) (by decide +kernel) rfl, okX7_hide, by decide +kernel⟩
set_option maxRecDepth 100000 in
theorem cw_X7_72 : kCw RX7 72 mX8_make 3 := ⟨kU_of (i := 844) (by decide +kernel) rfl, okX8_make, by decide +kernel⟩
set_option maxRecDepth 100000 in
theorem cw_X7_77 : kCw RX7 77 mX9_make 4 := ⟨kU_of (i := 845) (by decide +kernel) rfl, okX9_make, by decide +kernel⟩
set_option maxRecDepth 100000 in
theorem cw_L_38 : kCw RL 38 mX11_send 1 := ⟨kU_of (i := 849) (by decide +kernel) rfl, okX11_send, by decide +kernel⟩
set_option maxRecDepth 100000 in
theorem cw_X11_187 : kCw RX11 187 mX11_maySend 2 := ⟨kU_of (i := 853) (by decide +kernel) rfl, okX11_maySend, by decide +kernel⟩
set_option maxRecDepth 100000 in
theorem cw_L_41 : kCw RL 41 mX11_come 1 := ⟨kU_of (i := 859) (by decide +kernel) rfl, okX11_come, by decide +kernel⟩
set_option maxRecDepth 100000 in
theorem cw_X11_191 : kCw RX11 191 mX11_deliver 1 := ⟨kU_of (i := 863) (by decide +kernel) rfl, okX11_deliver, by decide +kernel⟩
set_option maxRecDepth 100000 in
theorem cw_X11_265 : kCw RX11 265 mX10_removeFirst 0 := ⟨kU_of (i := 867) (by decide +kernel) rfl, okX10_removeFirst, by decide +kernel⟩
set_option maxRecDepth 100000 in
theorem cw_X11_271 : kCw RX11 271 mX7_open 4 := ⟨kU_of (i := 871) (by decide +kernel) rfl, okX7_open, by decide +kernel⟩
set_option maxRecDepth 100000 in
theorem cw_X7_81 : kCw RX7 81 mX6_differsAt 2 := ⟨kU_of (i := 875) (by decide +kernel) rfl, okX6_differsAt, by decide +kernel⟩
set_option maxRecDepth 100000 in
theorem cw_X6_31 : kCw RX6 31 mX6_holds 1 := ⟨kU_of (i := 879) (by decide +kernel) rfl, okX6_holds, by decide +kernel⟩
set_option maxRecDepth 100000 in
theorem cw_X7_85 : kCw RX7 85 mX7_readPlain 2 := ⟨kU_of (i := 880) (by decide +kernel) rfl, okX7_readPlain, by decide +kernel⟩
set_option maxRecDepth 100000 in
theorem cw_X7_89 : kCw RX7 89 mX6_bigAt 1 := ⟨kU_of (i := 884) (by decide +kernel) rfl, okX6_bigAt, by decide +kernel⟩
set_option maxRecDepth 100000 in
theorem cw_X11_275 : kCw RX11 275 mX11_giveUp 1 := ⟨kU_of (i := 888) (by decide +kernel) rfl, okX11_giveUp, by decide +kernel⟩
set_option maxRecDepth 100000 in
theorem cw_X11_262 : kCw RX11 262 mX11_writeSingle 1 := ⟨kU_of (i := 892) (by decide +kernel) rfl, okX11_writeSingle, by decide +kernel⟩
set_option maxRecDepth 100000 in
theorem cw_X11_278 : kCw RX11 278 mX11_isInPlace 2 := ⟨kU_of (i := 896) (by decide +kernel) rfl, okX11_isInPlace, by decide +kernel⟩
set_option maxRecDepth 100000 in
theorem cw_X11_281 : kCw RX11 281 mX6_bigAt 1 := ⟨kU_of (i := 900) (by decide +kernel) rfl, okX6_bigAt, by decide +kernel⟩
set_option maxRecDepth 100000 in
theorem cw_X11_285 : kCw RX11 285 mX11_onInit 1 := ⟨kU_of (i := 901) (by decide +kernel) rfl, okX11_onInit, by decide +kernel⟩
set_option maxRecDepth 100000 in
theorem cw_X11_317 : kCw RX11 317 mX11_takeSecret 1 := ⟨kU_of (i := 905) (by decide +kernel) rfl, okX11_takeSecret, by decide +kernel⟩
set_option maxRecDepth 100000 in
theorem cw_X11_288 : kCw RX11 288 mX1_finishExchange 0 := ⟨kU_of (i := 911) (by decide +kernel) rfl, okX1_finishExchange, by decide +kernel⟩
set_option maxRecDepth 100000 in
theorem cw_X1_65 : kCw RX1 65 mX4_copyOf 1 := ⟨kU_of (i := 915) (by decide +kernel) rfl, okX4_copyOf, by decide +kernel⟩
set_option maxRecDepth 100000 in
theorem cw_X1_69 : kCw RX1 69 mX2_forget 0 := ⟨kU_of (i := 920) (by decide +kernel) rfl, okX2_forget, by decide +kernel⟩
set_option maxRecDepth 100000 in
theorem cw_X11_291 : kCw RX11 291 mX11_onRequest 0 := ⟨kU_of (i := 924) (by decide +kernel) rfl, okX11_onRequest, by decide +kernel⟩
set_option maxRecDepth 100000 in
theorem cw_X11_327 : kCw RX11 327 mX11_startAgreement 4 := ⟨kU_of (i := 928) (by decide +kernel) rfl, okX11_startAgreement, by decide +kernel⟩
set_option maxRecDepth 100000 in
theorem cw_X11_331 : kCw RX11 331 mX11_finishAgreement 0 := ⟨kU_of (i := 932) (by decide +kernel) rfl, okX11_finishAgreement, by decide +kernel⟩
set_option maxRecDepth 100000 in
theorem cw_X11_334 : kCw RX11 334 mX11_makeProof 0 := ⟨kU_of (i := 936) (by decide +kernel) rfl, okX11_makeProof, by decide +kernel⟩
set_option maxRecDepth 100000 in
theorem cw_X11_337 : kCw RX11 337 mX11_turnToNewKeys 3 := ⟨kU_of (i := 940) (by decide +kernel) rfl, okX11_turnToNewKeys, by decide +kernel⟩
set_option maxRecDepth 100000 in
theorem cw_X11_350 : kCw RX11 350 mX11_makeKey 3 := ⟨kU_of (i := 944) (by decide +kernel) rfl, okX11_makeKey, by decide +kernel⟩
set_option maxRecDepth 100000 in
theorem cw_X11_363 : kCw RX11 363 mX3_add 1 := ⟨kU_of (i := 948) (by decide +kernel) rfl, okX3_add, by decide +kernel⟩
set_option maxRecDepth 100000 in
theorem cw_X11_294 : kCw RX11 294 mX11_acceptReply 0 := ⟨kU_of (i := 952) (by decide +kernel) rfl, okX11_acceptReply, by decide +kernel⟩
set_option maxRecDepth 100000 in
theorem cw_X11_341 : kCw RX11 341 mX6_differsAt 2 := ⟨kU_of (i := 956) (by decide +kernel) rfl, okX6_differsAt, by decide +kernel⟩
set_option maxRecDepth 100000 in
theorem cw_X11_298 : kCw RX11 298 mX11_answerUnknown 2 := ⟨kU_of (i := 957) (by decide +kernel) rfl, okX11_answerUnknown, by decide +kernel⟩
set_option maxRecDepth 100000 in
theorem cw_X11_308 : kCw RX11 308 mX6_putBig 1 := ⟨kU_of (i := 961) (by decide +kernel) rfl, okX6_putBig, by decide +kernel⟩
set_option maxRecDepth 100000 in
theorem cw_L_44 : kCw RL 44 mX11_run 1 := ⟨kU_of (i := 965) (by decide +kernel) rfl, okX11_run, by decide +kernel⟩
set_option maxRecDepth 100000 in
theorem cw_L_47 : kCw RL 47 mX11_packet 3 := ⟨kU_of (i := 972) (by decide +kernel) rfl, okX11_packet, by decide +kernel⟩
set_option maxRecDepth 100000 in
theorem cw_X11_204 : kCw RX11 204 mX11_packetOf 2 := ⟨kU_of (i := 976) (by decide +kernel) rfl, okX11_packetOf, by decide +kernel⟩
set_option maxRecDepth 100000 in
theorem cw_X11_244 : kCw RX11 244 mX10_at 1 := ⟨kU_of (i := 979) (by decide +kernel) rfl, okX10_at, by decide +kernel⟩
set_option maxRecDepth 100000 in
theorem cw_L_51 : kCw RL 51 mX11_damage 4 := ⟨kU_of (i := 983) (by decide +kernel) rfl, okX11_damage, by decide +kernel⟩
set_option maxRecDepth 100000 in
theorem cw_L_55 : kCw RL 55 mX11_got 2 := ⟨kU_of (i := 990) (by decide +kernel) rfl, okX11_got, by decide +kernel⟩
set_option maxRecDepth 100000 in
theorem cw_L_59 : kCw RL 59 mX11_about 2 := ⟨kU_of (i := 997) (by decide +kernel) rfl, okX11_about, by decide +kernel⟩
set_option maxRecDepth 100000 in
theorem cw_L_62 : kCw RL 62 mX11_session 2 := ⟨kU_of (i := 1004) (by decide +kernel) rfl, okX11_session, by decide +kernel⟩
set_option maxRecDepth 100000 in
theorem ii_X0_init : (my mX0_init).name = "<init>" ∧ Cond.instanceMethod (my mX0_init) ∈ kU ∧ mrt mX0_init = none := ⟨rfl, kU_of (i := 117) (by decide +kernel) rfl, rfl⟩
set_option maxRecDepth 100000 in
theorem iv_X0_times : Cond.instanceMethod (my mX0_times) ∈ kU ∧ Cond.selects (my mX0_times).cls (my mX0_times) (my mX0_times) ∈ kU := ⟨kU_of (i := 626) (by decide +kernel) rfl, kU_of (i := 627) (by decide +kernel) rfl⟩
set_option maxRecDepth 100000 in
theorem is_X0_setSmall : Cond.static (my mX0_setSmall) ∈ kU := kU_of (i := 636) (by decide +kernel) rfl
set_option maxRecDepth 100000 in
theorem iv_X0_step : Cond.instanceMethod (my mX0_step) ∈ kU ∧ Cond.selects (my mX0_step).cls (my mX0_step) (my mX0_step) ∈ kU := ⟨kU_of (i := 643) (by decide +kernel) rfl, kU_of (i := 5) (by decide +kernel) rfl⟩
set_option maxRecDepth 100000 in
theorem iv_X0_invert : Cond.instanceMethod (my mX0_invert) ∈ kU ∧ Cond.selects (my mX0_invert).cls (my mX0_invert) (my mX0_invert) ∈ kU := ⟨kU_of (i := 677) (by decide +kernel) rfl, kU_of (i := 10) (by decide +kernel) rfl⟩
set_option maxRecDepth 100000 in
theorem is_X0_sum : Cond.static (my mX0_sum) ∈ kU := kU_of (i := 646) (by decide +kernel) rfl
set_option maxRecDepth 100000 in
theorem is_X0_difference : Cond.static (my mX0_difference) ∈ kU := kU_of (i := 649) (by decide +kernel) rfl
set_option maxRecDepth 100000 in
theorem iv_X0_scale : Cond.instanceMethod (my mX0_scale) ∈ kU ∧ Cond.selects (my mX0_scale).cls (my mX0_scale) (my mX0_scale) ∈ kU := ⟨kU_of (i := 672) (by decide +kernel) rfl, kU_of (i := 9) (by decide +kernel) rfl⟩
set_option maxRecDepth 100000 in
theorem iv_X0_product : Cond.instanceMethod (my mX0_product) ∈ kU ∧ Cond.selects (my mX0_product).cls (my mX0_product) (my mX0_product) ∈ kU := ⟨kU_of (i := 656) (by decide +kernel) rfl, kU_of (i := 6) (by decide +kernel) rfl⟩
set_option maxRecDepth 100000 in
theorem iv_X0_square : Cond.instanceMethod (my mX0_square) ∈ kU ∧ Cond.selects (my mX0_square).cls (my mX0_square) (my mX0_square) ∈ kU := ⟨kU_of (i := 667) (by decide +kernel) rfl, kU_of (i := 8) (by decide +kernel) rfl⟩
set_option maxRecDepth 100000 in
theorem iv_X0_fold : Cond.instanceMethod (my mX0_fold) ∈ kU ∧ Cond.selects (my mX0_fold).cls (my mX0_fold) (my mX0_fold) ∈ kU := ⟨kU_of (i := 660) (by decide +kernel) rfl, kU_of (i := 7) (by decide +kernel) rfl⟩
set_option maxRecDepth 100000 in
theorem is_X0_settle : Cond.static (my mX0_settle) ∈ kU := kU_of (i := 680) (by decide +kernel) rfl
set_option maxRecDepth 100000 in
theorem ii_X1_init : (my mX1_init).name = "<init>" ∧ Cond.instanceMethod (my mX1_init) ∈ kU ∧ mrt mX1_init = none := ⟨rfl, kU_of (i := 259) (by decide +kernel) rfl, rfl⟩
set_option maxRecDepth 100000 in
theorem iv_X1_finishExchange : Cond.instanceMethod (my mX1_finishExchange) ∈ kU ∧ Cond.selects (my mX1_finishExchange).cls (my mX1_finishExchange) (my mX1_finishExchange) ∈ kU := ⟨kU_of (i := 912) (by decide +kernel) rfl, kU_of (i := 913) (by decide +kernel) rfl⟩
set_option maxRecDepth 100000 in
theorem ii_X2_init : (my mX2_init).name = "<init>" ∧ Cond.instanceMethod (my mX2_init) ∈ kU ∧ mrt mX2_init = none := ⟨rfl, kU_of (i := 309) (by decide +kernel) rfl, rfl⟩
set_option maxRecDepth 100000 in
theorem iv_X2_forget : Cond.instanceMethod (my mX2_forget) ∈ kU ∧ Cond.selects (my mX2_forget).cls (my mX2_forget) (my mX2_forget) ∈ kU := ⟨kU_of (i := 921) (by decide +kernel) rfl, kU_of (i := 922) (by decide +kernel) rfl⟩
set_option maxRecDepth 100000 in
theorem ii_X3_init : (my mX3_init).name = "<init>" ∧ Cond.instanceMethod (my mX3_init) ∈ kU ∧ mrt mX3_init = none := ⟨rfl, kU_of (i := 162) (by decide +kernel) rfl, rfl⟩
set_option maxRecDepth 100000 in
theorem iv_X3_start : Cond.instanceMethod (my mX3_start) ∈ kU ∧ Cond.selects (my mX3_start).cls (my mX3_start) (my mX3_start) ∈ kU := ⟨kU_of (i := 486) (by decide +kernel) rfl, kU_of (i := 487) (by decide +kernel) rfl⟩
set_option maxRecDepth 100000 in
theorem iv_X3_addRow : Cond.instanceMethod (my mX3_addRow) ∈ kU ∧ Cond.selects (my mX3_addRow).cls (my mX3_addRow) (my mX3_addRow) ∈ kU := ⟨kU_of (i := 491) (by decide +kernel) rfl, kU_of (i := 492) (by decide +kernel) rfl⟩
set_option maxRecDepth 100000 in
theorem iv_X3_add : Cond.instanceMethod (my mX3_add) ∈ kU ∧ Cond.selects (my mX3_add).cls (my mX3_add) (my mX3_add) ∈ kU := ⟨kU_of (i := 949) (by decide +kernel) rfl, kU_of (i := 950) (by decide +kernel) rfl⟩
set_option maxRecDepth 100000 in
theorem iv_X3_finish : Cond.instanceMethod (my mX3_finish) ∈ kU ∧ Cond.selects (my mX3_finish).cls (my mX3_finish) (my mX3_finish) ∈ kU := ⟨kU_of (i := 503) (by decide +kernel) rfl, kU_of (i := 504) (by decide +kernel) rfl⟩
set_option maxRecDepth 100000 in
theorem iv_X3_mix : Cond.instanceMethod (my mX3_mix) ∈ kU ∧ Cond.selects (my mX3_mix).cls (my mX3_mix) (my mX3_mix) ∈ kU := ⟨kU_of (i := 517) (by decide +kernel) rfl, kU_of (i := 1) (by decide +kernel) rfl⟩
set_option maxRecDepth 100000 in
theorem iv_X3_spread : Cond.instanceMethod (my mX3_spread) ∈ kU ∧ Cond.selects (my mX3_spread).cls (my mX3_spread) (my mX3_spread) ∈ kU := ⟨kU_of (i := 521) (by decide +kernel) rfl, kU_of (i := 2) (by decide +kernel) rfl⟩
set_option maxRecDepth 100000 in
theorem ii_X4_init : (my mX4_init).name = "<init>" ∧ Cond.instanceMethod (my mX4_init) ∈ kU ∧ mrt mX4_init = none := ⟨rfl, kU_of (i := 287) (by decide +kernel) rfl, rfl⟩
set_option maxRecDepth 100000 in
theorem iv_X4_copyOf : Cond.instanceMethod (my mX4_copyOf) ∈ kU ∧ Cond.selects (my mX4_copyOf).cls (my mX4_copyOf) (my mX4_copyOf) ∈ kU := ⟨kU_of (i := 916) (by decide +kernel) rfl, kU_of (i := 917) (by decide +kernel) rfl⟩
set_option maxRecDepth 100000 in
theorem is_X5_read : Cond.static (my mX5_read) ∈ kU := kU_of (i := 631) (by decide +kernel) rfl
set_option maxRecDepth 100000 in
theorem is_X5_write : Cond.static (my mX5_write) ∈ kU := kU_of (i := 683) (by decide +kernel) rfl
set_option maxRecDepth 100000 in
theorem ii_X6_init : (my mX6_init).name = "<init>" ∧ Cond.instanceMethod (my mX6_init) ∈ kU ∧ mrt mX6_init = none := ⟨rfl, kU_of (i := 168) (by decide +kernel) rfl, rfl⟩
set_option maxRecDepth 100000 in
theorem iv_X6_clear : Cond.instanceMethod (my mX6_clear) ∈ kU ∧ Cond.selects (my mX6_clear).cls (my mX6_clear) (my mX6_clear) ∈ kU := ⟨kU_of (i := 482) (by decide +kernel) rfl, kU_of (i := 483) (by decide +kernel) rfl⟩
set_option maxRecDepth 100000 in
theorem iv_X6_hasRoom : Cond.instanceMethod (my mX6_hasRoom) ∈ kU ∧ Cond.selects (my mX6_hasRoom).cls (my mX6_hasRoom) (my mX6_hasRoom) ∈ kU := ⟨kU_of (i := 466) (by decide +kernel) rfl, kU_of (i := 467) (by decide +kernel) rfl⟩
set_option maxRecDepth 100000 in
theorem iv_X6_holds : Cond.instanceMethod (my mX6_holds) ∈ kU ∧ Cond.selects (my mX6_holds).cls (my mX6_holds) (my mX6_holds) ∈ kU := ⟨kU_of (i := 767) (by decide +kernel) rfl, kU_of (i := 768) (by decide +kernel) rfl⟩
set_option maxRecDepth 100000 in
theorem iv_X6_put : Cond.instanceMethod (my mX6_put) ∈ kU ∧ Cond.selects (my mX6_put).cls (my mX6_put) (my mX6_put) ∈ kU := ⟨kU_of (i := 470) (by decide +kernel) rfl, kU_of (i := 471) (by decide +kernel) rfl⟩
set_option maxRecDepth 100000 in
theorem iv_X6_putAll : Cond.instanceMethod (my mX6_putAll) ∈ kU ∧ Cond.selects (my mX6_putAll).cls (my mX6_putAll) (my mX6_putAll) ∈ kU := ⟨kU_of (i := 495) (by decide +kernel) rfl, kU_of (i := 496) (by decide +kernel) rfl⟩
set_option maxRecDepth 100000 in
theorem iv_X6_putBig : Cond.instanceMethod (my mX6_putBig) ∈ kU ∧ Cond.selects (my mX6_putBig).cls (my mX6_putBig) (my mX6_putBig) ∈ kU := ⟨kU_of (i := 508) (by decide +kernel) rfl, kU_of (i := 509) (by decide +kernel) rfl⟩
set_option maxRecDepth 100000 in
theorem iv_X6_bigAt : Cond.instanceMethod (my mX6_bigAt) ∈ kU ∧ Cond.selects (my mX6_bigAt).cls (my mX6_bigAt) (my mX6_bigAt) ∈ kU := ⟨kU_of (i := 885) (by decide +kernel) rfl, kU_of (i := 886) (by decide +kernel) rfl⟩
set_option maxRecDepth 100000 in
theorem iv_X6_differsAt : Cond.instanceMethod (my mX6_differsAt) ∈ kU ∧ Cond.selects (my mX6_differsAt).cls (my mX6_differsAt) (my mX6_differsAt) ∈ kU := ⟨kU_of (i := 876) (by decide +kernel) rfl, kU_of (i := 877) (by decide +kernel) rfl⟩
set_option maxRecDepth 100000 in
theorem ii_X7_init : (my mX7_init).name = "<init>" ∧ Cond.instanceMethod (my mX7_init) ∈ kU ∧ mrt mX7_init = none := ⟨rfl, kU_of (i := 197) (by decide +kernel) rfl, rfl⟩
set_option maxRecDepth 100000 in
theorem iv_X7_close : Cond.instanceMethod (my mX7_close) ∈ kU ∧ Cond.selects (my mX7_close).cls (my mX7_close) (my mX7_close) ∈ kU := ⟨kU_of (i := 830) (by decide +kernel) rfl, kU_of (i := 831) (by decide +kernel) rfl⟩
set_option maxRecDepth 100000 in
theorem iv_X7_open : Cond.instanceMethod (my mX7_open) ∈ kU ∧ Cond.selects (my mX7_open).cls (my mX7_open) (my mX7_open) ∈ kU := ⟨kU_of (i := 872) (by decide +kernel) rfl, kU_of (i := 873) (by decide +kernel) rfl⟩
set_option maxRecDepth 100000 in
theorem iv_X7_readPlain : Cond.instanceMethod (my mX7_readPlain) ∈ kU ∧ Cond.selects (my mX7_readPlain).cls (my mX7_readPlain) (my mX7_readPlain) ∈ kU := ⟨kU_of (i := 882) (by decide +kernel) rfl, kU_of (i := 23) (by decide +kernel) rfl⟩
set_option maxRecDepth 100000 in
theorem is_X7_zerosBehind : Cond.static (my mX7_zerosBehind) ∈ kU := kU_of (i := 834) (by decide +kernel) rfl
set_option maxRecDepth 100000 in
theorem iv_X7_hide : Cond.instanceMethod (my mX7_hide) ∈ kU ∧ Cond.selects (my mX7_hide).cls (my mX7_hide) (my mX7_hide) ∈ kU := ⟨kU_of (i := 842) (by decide +kernel) rfl, kU_of (i := 21) (by decide +kernel) rfl⟩
set_option maxRecDepth 100000 in
theorem ii_X8_init : (my mX8_init).name = "<init>" ∧ Cond.instanceMethod (my mX8_init) ∈ kU ∧ mrt mX8_init = none := ⟨rfl, kU_of (i := 203) (by decide +kernel) rfl, rfl⟩
set_option maxRecDepth 100000 in
theorem iv_X8_make : Cond.instanceMethod (my mX8_make) ∈ kU ∧ Cond.selects (my mX8_make).cls (my mX8_make) (my mX8_make) ∈ kU := ⟨kU_of (i := 693) (by decide +kernel) rfl, kU_of (i := 694) (by decide +kernel) rfl⟩
set_option maxRecDepth 100000 in
theorem iv_X8_fillFirst : Cond.instanceMethod (my mX8_fillFirst) ∈ kU ∧ Cond.selects (my mX8_fillFirst).cls (my mX8_fillFirst) (my mX8_fillFirst) ∈ kU := ⟨kU_of (i := 698) (by decide +kernel) rfl, kU_of (i := 11) (by decide +kernel) rfl⟩
set_option maxRecDepth 100000 in
theorem iv_X8_quarter : Cond.instanceMethod (my mX8_quarter) ∈ kU ∧ Cond.selects (my mX8_quarter).cls (my mX8_quarter) (my mX8_quarter) ∈ kU := ⟨kU_of (i := 710) (by decide +kernel) rfl, kU_of (i := 12) (by decide +kernel) rfl⟩
set_option maxRecDepth 100000 in
theorem ii_X9_init : (my mX9_init).name = "<init>" ∧ Cond.instanceMethod (my mX9_init) ∈ kU ∧ mrt mX9_init = none := ⟨rfl, kU_of (i := 221) (by decide +kernel) rfl, rfl⟩
set_option maxRecDepth 100000 in
theorem iv_X9_make : Cond.instanceMethod (my mX9_make) ∈ kU ∧ Cond.selects (my mX9_make).cls (my mX9_make) (my mX9_make) ∈ kU := ⟨kU_of (i := 721) (by decide +kernel) rfl, kU_of (i := 722) (by decide +kernel) rfl⟩
set_option maxRecDepth 100000 in
theorem iv_X9_readFactor : Cond.instanceMethod (my mX9_readFactor) ∈ kU ∧ Cond.selects (my mX9_readFactor).cls (my mX9_readFactor) (my mX9_readFactor) ∈ kU := ⟨kU_of (i := 726) (by decide +kernel) rfl, kU_of (i := 13) (by decide +kernel) rfl⟩
set_option maxRecDepth 100000 in
theorem iv_X9_addPiece : Cond.instanceMethod (my mX9_addPiece) ∈ kU ∧ Cond.selects (my mX9_addPiece).cls (my mX9_addPiece) (my mX9_addPiece) ∈ kU := ⟨kU_of (i := 736) (by decide +kernel) rfl, kU_of (i := 14) (by decide +kernel) rfl⟩
set_option maxRecDepth 100000 in
theorem iv_X9_multiplyByFactor : Cond.instanceMethod (my mX9_multiplyByFactor) ∈ kU ∧ Cond.selects (my mX9_multiplyByFactor).cls (my mX9_multiplyByFactor) (my mX9_multiplyByFactor) ∈ kU := ⟨kU_of (i := 743) (by decide +kernel) rfl, kU_of (i := 15) (by decide +kernel) rfl⟩
set_option maxRecDepth 100000 in
theorem iv_X9_carry : Cond.instanceMethod (my mX9_carry) ∈ kU ∧ Cond.selects (my mX9_carry).cls (my mX9_carry) (my mX9_carry) ∈ kU := ⟨kU_of (i := 748) (by decide +kernel) rfl, kU_of (i := 16) (by decide +kernel) rfl⟩
set_option maxRecDepth 100000 in
theorem iv_X9_settle : Cond.instanceMethod (my mX9_settle) ∈ kU ∧ Cond.selects (my mX9_settle).cls (my mX9_settle) (my mX9_settle) ∈ kU := ⟨kU_of (i := 753) (by decide +kernel) rfl, kU_of (i := 17) (by decide +kernel) rfl⟩
set_option maxRecDepth 100000 in
theorem ii_X10_init : (my mX10_init).name = "<init>" ∧ Cond.instanceMethod (my mX10_init) ∈ kU ∧ mrt mX10_init = none := ⟨rfl, kU_of (i := 267) (by decide +kernel) rfl, rfl⟩
set_option maxRecDepth 100000 in
theorem iv_X10_at : Cond.instanceMethod (my mX10_at) ∈ kU ∧ Cond.selects (my mX10_at).cls (my mX10_at) (my mX10_at) ∈ kU := ⟨kU_of (i := 826) (by decide +kernel) rfl, kU_of (i := 827) (by decide +kernel) rfl⟩
set_option maxRecDepth 100000 in
theorem iv_X10_append : Cond.instanceMethod (my mX10_append) ∈ kU ∧ Cond.selects (my mX10_append).cls (my mX10_append) (my mX10_append) ∈ kU := ⟨kU_of (i := 822) (by decide +kernel) rfl, kU_of (i := 823) (by decide +kernel) rfl⟩
set_option maxRecDepth 100000 in
theorem iv_X10_removeFirst : Cond.instanceMethod (my mX10_removeFirst) ∈ kU ∧ Cond.selects (my mX10_removeFirst).cls (my mX10_removeFirst) (my mX10_removeFirst) ∈ kU := ⟨kU_of (i := 868) (by decide +kernel) rfl, kU_of (i := 869) (by decide +kernel) rfl⟩
set_option maxRecDepth 100000 in
theorem ii_X11_init : (my mX11_init).name = "<init>" ∧ Cond.instanceMethod (my mX11_init) ∈ kU ∧ mrt mX11_init = none := ⟨rfl, kU_of (i := 109) (by decide +kernel) rfl, rfl⟩
set_option maxRecDepth 100000 in
theorem iv_X11_type : Cond.instanceMethod (my mX11_type) ∈ kU ∧ Cond.selects (my mX11_type).cls (my mX11_type) (my mX11_type) ∈ kU := ⟨kU_of (i := 462) (by decide +kernel) rfl, kU_of (i := 463) (by decide +kernel) rfl⟩
set_option maxRecDepth 100000 in
theorem iv_X11_set : Cond.instanceMethod (my mX11_set) ∈ kU ∧ Cond.selects (my mX11_set).cls (my mX11_set) (my mX11_set) ∈ kU := ⟨kU_of (i := 531) (by decide +kernel) rfl, kU_of (i := 532) (by decide +kernel) rfl⟩
set_option maxRecDepth 100000 in
theorem iv_X11_multiply : Cond.instanceMethod (my mX11_multiply) ∈ kU ∧ Cond.selects (my mX11_multiply).cls (my mX11_multiply) (my mX11_multiply) ∈ kU := ⟨kU_of (i := 622) (by decide +kernel) rfl, kU_of (i := 623) (by decide +kernel) rfl⟩
set_option maxRecDepth 100000 in
theorem iv_X11_hash : Cond.instanceMethod (my mX11_hash) ∈ kU ∧ Cond.selects (my mX11_hash).cls (my mX11_hash) (my mX11_hash) ∈ kU := ⟨kU_of (i := 474) (by decide +kernel) rfl, kU_of (i := 475) (by decide +kernel) rfl⟩
set_option maxRecDepth 100000 in
theorem iv_X11_stream : Cond.instanceMethod (my mX11_stream) ∈ kU ∧ Cond.selects (my mX11_stream).cls (my mX11_stream) (my mX11_stream) ∈ kU := ⟨kU_of (i := 689) (by decide +kernel) rfl, kU_of (i := 690) (by decide +kernel) rfl⟩
set_option maxRecDepth 100000 in
theorem iv_X11_tag : Cond.instanceMethod (my mX11_tag) ∈ kU ∧ Cond.selects (my mX11_tag).cls (my mX11_tag) (my mX11_tag) ∈ kU := ⟨kU_of (i := 717) (by decide +kernel) rfl, kU_of (i := 718) (by decide +kernel) rfl⟩
set_option maxRecDepth 100000 in
theorem iv_X11_out : Cond.instanceMethod (my mX11_out) ∈ kU ∧ Cond.selects (my mX11_out).cls (my mX11_out) (my mX11_out) ∈ kU := ⟨kU_of (i := 760) (by decide +kernel) rfl, kU_of (i := 761) (by decide +kernel) rfl⟩
set_option maxRecDepth 100000 in
theorem iv_X11_begin : Cond.instanceMethod (my mX11_begin) ∈ kU ∧ Cond.selects (my mX11_begin).cls (my mX11_begin) (my mX11_begin) ∈ kU := ⟨kU_of (i := 776) (by decide +kernel) rfl, kU_of (i := 777) (by decide +kernel) rfl⟩
set_option maxRecDepth 100000 in
theorem iv_X11_send : Cond.instanceMethod (my mX11_send) ∈ kU ∧ Cond.selects (my mX11_send).cls (my mX11_send) (my mX11_send) ∈ kU := ⟨kU_of (i := 850) (by decide +kernel) rfl, kU_of (i := 851) (by decide +kernel) rfl⟩
set_option maxRecDepth 100000 in
theorem iv_X11_come : Cond.instanceMethod (my mX11_come) ∈ kU ∧ Cond.selects (my mX11_come).cls (my mX11_come) (my mX11_come) ∈ kU := ⟨kU_of (i := 860) (by decide +kernel) rfl, kU_of (i := 861) (by decide +kernel) rfl⟩
set_option maxRecDepth 100000 in
theorem iv_X11_run : Cond.instanceMethod (my mX11_run) ∈ kU ∧ Cond.selects (my mX11_run).cls (my mX11_run) (my mX11_run) ∈ kU := ⟨kU_of (i := 966) (by decide +kernel) rfl, kU_of (i := 967) (by decide +kernel) rfl⟩
set_option maxRecDepth 100000 in
theorem iv_X11_packet : Cond.instanceMethod (my mX11_packet) ∈ kU ∧ Cond.selects (my mX11_packet).cls (my mX11_packet) (my mX11_packet) ∈ kU := ⟨kU_of (i := 973) (by decide +kernel) rfl, kU_of (i := 974) (by decide +kernel) rfl⟩
set_option maxRecDepth 100000 in
theorem iv_X11_damage : Cond.instanceMethod (my mX11_damage) ∈ kU ∧ Cond.selects (my mX11_damage).cls (my mX11_damage) (my mX11_damage) ∈ kU := ⟨kU_of (i := 984) (by decide +kernel) rfl, kU_of (i := 985) (by decide +kernel) rfl⟩
set_option maxRecDepth 100000 in
theorem iv_X11_got : Cond.instanceMethod (my mX11_got) ∈ kU ∧ Cond.selects (my mX11_got).cls (my mX11_got) (my mX11_got) ∈ kU := ⟨kU_of (i := 991) (by decide +kernel) rfl, kU_of (i := 992) (by decide +kernel) rfl⟩
set_option maxRecDepth 100000 in
theorem iv_X11_about : Cond.instanceMethod (my mX11_about) ∈ kU ∧ Cond.selects (my mX11_about).cls (my mX11_about) (my mX11_about) ∈ kU := ⟨kU_of (i := 998) (by decide +kernel) rfl, kU_of (i := 999) (by decide +kernel) rfl⟩
set_option maxRecDepth 100000 in
theorem iv_X11_session : Cond.instanceMethod (my mX11_session) ∈ kU ∧ Cond.selects (my mX11_session).cls (my mX11_session) (my mX11_session) ∈ kU := ⟨kU_of (i := 1005) (by decide +kernel) rfl, kU_of (i := 1006) (by decide +kernel) rfl⟩
set_option maxRecDepth 100000 in
theorem iv_X11_takeTape : Cond.instanceMethod (my mX11_takeTape) ∈ kU ∧ Cond.selects (my mX11_takeTape).cls (my mX11_takeTape) (my mX11_takeTape) ∈ kU := ⟨kU_of (i := 479) (by decide +kernel) rfl, kU_of (i := 0) (by decide +kernel) rfl⟩
set_option maxRecDepth 100000 in
theorem iv_X11_settable : Cond.instanceMethod (my mX11_settable) ∈ kU ∧ Cond.selects (my mX11_settable).cls (my mX11_settable) (my mX11_settable) ∈ kU := ⟨kU_of (i := 600) (by decide +kernel) rfl, kU_of (i := 4) (by decide +kernel) rfl⟩
set_option maxRecDepth 100000 in
theorem iv_X11_endOf : Cond.instanceMethod (my mX11_endOf) ∈ kU ∧ Cond.selects (my mX11_endOf).cls (my mX11_endOf) (my mX11_endOf) ∈ kU := ⟨kU_of (i := 781) (by decide +kernel) rfl, kU_of (i := 18) (by decide +kernel) rfl⟩
set_option maxRecDepth 100000 in
theorem is_X11_packetOf : Cond.static (my mX11_packetOf) ∈ kU := kU_of (i := 977) (by decide +kernel) rfl
set_option maxRecDepth 100000 in
theorem is_X11_byteOf : Cond.static (my mX11_byteOf) ∈ kU := kU_of (i := 764) (by decide +kernel) rfl
set_option maxRecDepth 100000 in
theorem is_X11_maySend : Cond.static (my mX11_maySend) ∈ kU := kU_of (i := 854) (by decide +kernel) rfl
set_option maxRecDepth 100000 in
theorem iv_X11_emit : Cond.instanceMethod (my mX11_emit) ∈ kU ∧ Cond.selects (my mX11_emit).cls (my mX11_emit) (my mX11_emit) ∈ kU := ⟨kU_of (i := 819) (by decide +kernel) rfl, kU_of (i := 20) (by decide +kernel) rfl⟩
set_option maxRecDepth 100000 in
theorem iv_X11_writeSingle : Cond.instanceMethod (my mX11_writeSingle) ∈ kU ∧ Cond.selects (my mX11_writeSingle).cls (my mX11_writeSingle) (my mX11_writeSingle) ∈ kU := ⟨kU_of (i := 894) (by decide +kernel) rfl, kU_of (i := 25) (by decide +kernel) rfl⟩
set_option maxRecDepth 100000 in
theorem iv_X11_giveUp : Cond.instanceMethod (my mX11_giveUp) ∈ kU ∧ Cond.selects (my mX11_giveUp).cls (my mX11_giveUp) (my mX11_giveUp) ∈ kU := ⟨kU_of (i := 890) (by decide +kernel) rfl, kU_of (i := 24) (by decide +kernel) rfl⟩
set_option maxRecDepth 100000 in
theorem iv_X11_deliver : Cond.instanceMethod (my mX11_deliver) ∈ kU ∧ Cond.selects (my mX11_deliver).cls (my mX11_deliver) (my mX11_deliver) ∈ kU := ⟨kU_of (i := 865) (by decide +kernel) rfl, kU_of (i := 22) (by decide +kernel) rfl⟩
set_option maxRecDepth 100000 in
theorem iv_X11_isInPlace : Cond.instanceMethod (my mX11_isInPlace) ∈ kU ∧ Cond.selects (my mX11_isInPlace).cls (my mX11_isInPlace) (my mX11_isInPlace) ∈ kU := ⟨kU_of (i := 898) (by decide +kernel) rfl, kU_of (i := 26) (by decide +kernel) rfl⟩
set_option maxRecDepth 100000 in
theorem iv_X11_answerUnknown : Cond.instanceMethod (my mX11_answerUnknown) ∈ kU ∧ Cond.selects (my mX11_answerUnknown).cls (my mX11_answerUnknown) (my mX11_answerUnknown) ∈ kU := ⟨kU_of (i := 959) (by decide +kernel) rfl, kU_of (i := 36) (by decide +kernel) rfl⟩
set_option maxRecDepth 100000 in
theorem iv_X11_writeInit : Cond.instanceMethod (my mX11_writeInit) ∈ kU ∧ Cond.selects (my mX11_writeInit).cls (my mX11_writeInit) (my mX11_writeInit) ∈ kU := ⟨kU_of (i := 815) (by decide +kernel) rfl, kU_of (i := 19) (by decide +kernel) rfl⟩
set_option maxRecDepth 100000 in
theorem iv_X11_onInit : Cond.instanceMethod (my mX11_onInit) ∈ kU ∧ Cond.selects (my mX11_onInit).cls (my mX11_onInit) (my mX11_onInit) ∈ kU := ⟨kU_of (i := 903) (by decide +kernel) rfl, kU_of (i := 27) (by decide +kernel) rfl⟩
set_option maxRecDepth 100000 in
theorem iv_X11_takeSecret : Cond.instanceMethod (my mX11_takeSecret) ∈ kU ∧ Cond.selects (my mX11_takeSecret).cls (my mX11_takeSecret) (my mX11_takeSecret) ∈ kU := ⟨kU_of (i := 907) (by decide +kernel) rfl, kU_of (i := 28) (by decide +kernel) rfl⟩
set_option maxRecDepth 100000 in
theorem iv_X11_onRequest : Cond.instanceMethod (my mX11_onRequest) ∈ kU ∧ Cond.selects (my mX11_onRequest).cls (my mX11_onRequest) (my mX11_onRequest) ∈ kU := ⟨kU_of (i := 926) (by decide +kernel) rfl, kU_of (i := 29) (by decide +kernel) rfl⟩
set_option maxRecDepth 100000 in
theorem iv_X11_acceptReply : Cond.instanceMethod (my mX11_acceptReply) ∈ kU ∧ Cond.selects (my mX11_acceptReply).cls (my mX11_acceptReply) (my mX11_acceptReply) ∈ kU := ⟨kU_of (i := 954) (by decide +kernel) rfl, kU_of (i := 35) (by decide +kernel) rfl⟩
set_option maxRecDepth 100000 in
theorem iv_X11_startAgreement : Cond.instanceMethod (my mX11_startAgreement) ∈ kU ∧ Cond.selects (my mX11_startAgreement).cls (my mX11_startAgreement) (my mX11_startAgreement) ∈ kU := ⟨kU_of (i := 930) (by decide +kernel) rfl, kU_of (i := 30) (by decide +kernel) rfl⟩
set_option maxRecDepth 100000 in
theorem iv_X11_finishAgreement : Cond.instanceMethod (my mX11_finishAgreement) ∈ kU ∧ Cond.selects (my mX11_finishAgreement).cls (my mX11_finishAgreement) (my mX11_finishAgreement) ∈ kU := ⟨kU_of (i := 934) (by decide +kernel) rfl, kU_of (i := 31) (by decide +kernel) rfl⟩
set_option maxRecDepth 100000 in
theorem iv_X11_makeProof : Cond.instanceMethod (my mX11_makeProof) ∈ kU ∧ Cond.selects (my mX11_makeProof).cls (my mX11_makeProof) (my mX11_makeProof) ∈ kU := ⟨kU_of (i := 938) (by decide +kernel) rfl, kU_of (i := 32) (by decide +kernel) rfl⟩
set_option maxRecDepth 100000 in
theorem iv_X11_turnToNewKeys : Cond.instanceMethod (my mX11_turnToNewKeys) ∈ kU ∧ Cond.selects (my mX11_turnToNewKeys).cls (my mX11_turnToNewKeys) (my mX11_turnToNewKeys) ∈ kU := ⟨kU_of (i := 942) (by decide +kernel) rfl, kU_of (i := 33) (by decide +kernel) rfl⟩
set_option maxRecDepth 100000 in
theorem iv_X11_makeKey : Cond.instanceMethod (my mX11_makeKey) ∈ kU ∧ Cond.selects (my mX11_makeKey).cls (my mX11_makeKey) (my mX11_makeKey) ∈ kU := ⟨kU_of (i := 946) (by decide +kernel) rfl, kU_of (i := 34) (by decide +kernel) rfl⟩
set_option maxRecDepth 100000 in
theorem ii_X12_init : (my mX12_init).name = "<init>" ∧ Cond.instanceMethod (my mX12_init) ∈ kU ∧ mrt mX12_init = none := ⟨rfl, kU_of (i := 1011) (by decide +kernel) rfl, rfl⟩
set_option maxRecDepth 100000 in
theorem iv_X12_thrown : Cond.instanceMethod (my mX12_thrown) ∈ kU ∧ Cond.selects (my mX12_thrown).cls (my mX12_thrown) (my mX12_thrown) ∈ kU := ⟨kU_of (i := 1175) (by decide +kernel) rfl, kU_of (i := 1176) (by decide +kernel) rfl⟩
set_option maxRecDepth 100000 in
theorem is_X12_row : Cond.static (my mX12_row) ∈ kU := kU_of (i := 1191) (by decide +kernel) rfl
set_option maxRecDepth 100000 in
theorem iv_X12_isRoot : Cond.instanceMethod (my mX12_isRoot) ∈ kU ∧ Cond.selects (my mX12_isRoot).cls (my mX12_isRoot) (my mX12_isRoot) ∈ kU := ⟨kU_of (i := 1020) (by decide +kernel) rfl, kU_of (i := 38) (by decide +kernel) rfl⟩
set_option maxRecDepth 100000 in
theorem iv_X12_rootOf : Cond.instanceMethod (my mX12_rootOf) ∈ kU ∧ Cond.selects (my mX12_rootOf).cls (my mX12_rootOf) (my mX12_rootOf) ∈ kU := ⟨kU_of (i := 1016) (by decide +kernel) rfl, kU_of (i := 37) (by decide +kernel) rfl⟩
set_option maxRecDepth 100000 in
theorem iv_X12_putSmall : Cond.instanceMethod (my mX12_putSmall) ∈ kU ∧ Cond.selects (my mX12_putSmall).cls (my mX12_putSmall) (my mX12_putSmall) ∈ kU := ⟨kU_of (i := 1203) (by decide +kernel) rfl, kU_of (i := 41) (by decide +kernel) rfl⟩
set_option maxRecDepth 100000 in
theorem iv_X12_copy : Cond.instanceMethod (my mX12_copy) ∈ kU ∧ Cond.selects (my mX12_copy).cls (my mX12_copy) (my mX12_copy) ∈ kU := ⟨kU_of (i := 1210) (by decide +kernel) rfl, kU_of (i := 42) (by decide +kernel) rfl⟩
set_option maxRecDepth 100000 in
theorem iv_X12_carry : Cond.instanceMethod (my mX12_carry) ∈ kU ∧ Cond.selects (my mX12_carry).cls (my mX12_carry) (my mX12_carry) ∈ kU := ⟨kU_of (i := 1224) (by decide +kernel) rfl, kU_of (i := 45) (by decide +kernel) rfl⟩
set_option maxRecDepth 100000 in
theorem iv_X12_add : Cond.instanceMethod (my mX12_add) ∈ kU ∧ Cond.selects (my mX12_add).cls (my mX12_add) (my mX12_add) ∈ kU := ⟨kU_of (i := 1220) (by decide +kernel) rfl, kU_of (i := 44) (by decide +kernel) rfl⟩
set_option maxRecDepth 100000 in
theorem iv_X12_subtract : Cond.instanceMethod (my mX12_subtract) ∈ kU ∧ Cond.selects (my mX12_subtract).cls (my mX12_subtract) (my mX12_subtract) ∈ kU := ⟨kU_of (i := 1230) (by decide +kernel) rfl, kU_of (i := 46) (by decide +kernel) rfl⟩
set_option maxRecDepth 100000 in
theorem iv_X12_times : Cond.instanceMethod (my mX12_times) ∈ kU ∧ Cond.selects (my mX12_times).cls (my mX12_times) (my mX12_times) ∈ kU := ⟨kU_of (i := 1236) (by decide +kernel) rfl, kU_of (i := 47) (by decide +kernel) rfl⟩
set_option maxRecDepth 100000 in
theorem is_X12_bitOf : Cond.static (my mX12_bitOf) ∈ kU := kU_of (i := 1206) (by decide +kernel) rfl
set_option maxRecDepth 100000 in
theorem iv_X12_pointTimes : Cond.instanceMethod (my mX12_pointTimes) ∈ kU ∧ Cond.selects (my mX12_pointTimes).cls (my mX12_pointTimes) (my mX12_pointTimes) ∈ kU := ⟨kU_of (i := 1199) (by decide +kernel) rfl, kU_of (i := 40) (by decide +kernel) rfl⟩
set_option maxRecDepth 100000 in
theorem iv_X12_turnRound : Cond.instanceMethod (my mX12_turnRound) ∈ kU ∧ Cond.selects (my mX12_turnRound).cls (my mX12_turnRound) (my mX12_turnRound) ∈ kU := ⟨kU_of (i := 1216) (by decide +kernel) rfl, kU_of (i := 43) (by decide +kernel) rfl⟩
set_option maxRecDepth 100000 in
theorem iv_X12_settle : Cond.instanceMethod (my mX12_settle) ∈ kU ∧ Cond.selects (my mX12_settle).cls (my mX12_settle) (my mX12_settle) ∈ kU := ⟨kU_of (i := 1240) (by decide +kernel) rfl, kU_of (i := 48) (by decide +kernel) rfl⟩
set_option maxRecDepth 100000 in
theorem iv_X12_hashBegin : Cond.instanceMethod (my mX12_hashBegin) ∈ kU ∧ Cond.selects (my mX12_hashBegin).cls (my mX12_hashBegin) (my mX12_hashBegin) ∈ kU := ⟨kU_of (i := 1253) (by decide +kernel) rfl, kU_of (i := 50) (by decide +kernel) rfl⟩
set_option maxRecDepth 100000 in
theorem iv_X12_hashAdd : Cond.instanceMethod (my mX12_hashAdd) ∈ kU ∧ Cond.selects (my mX12_hashAdd).cls (my mX12_hashAdd) (my mX12_hashAdd) ∈ kU := ⟨kU_of (i := 1257) (by decide +kernel) rfl, kU_of (i := 51) (by decide +kernel) rfl⟩
set_option maxRecDepth 100000 in
theorem is_X12_right : Cond.static (my mX12_right) ∈ kU := kU_of (i := 1270) (by decide +kernel) rfl
set_option maxRecDepth 100000 in
theorem is_X12_left : Cond.static (my mX12_left) ∈ kU := kU_of (i := 1296) (by decide +kernel) rfl
set_option maxRecDepth 100000 in
theorem iv_X12_hashBlock : Cond.instanceMethod (my mX12_hashBlock) ∈ kU ∧ Cond.selects (my mX12_hashBlock).cls (my mX12_hashBlock) (my mX12_hashBlock) ∈ kU := ⟨kU_of (i := 1267) (by decide +kernel) rfl, kU_of (i := 53) (by decide +kernel) rfl⟩
set_option maxRecDepth 100000 in
theorem iv_X12_hashEnd : Cond.instanceMethod (my mX12_hashEnd) ∈ kU ∧ Cond.selects (my mX12_hashEnd).cls (my mX12_hashEnd) (my mX12_hashEnd) ∈ kU := ⟨kU_of (i := 1261) (by decide +kernel) rfl, kU_of (i := 52) (by decide +kernel) rfl⟩
set_option maxRecDepth 100000 in
theorem iv_X12_quarter : Cond.instanceMethod (my mX12_quarter) ∈ kU ∧ Cond.selects (my mX12_quarter).cls (my mX12_quarter) (my mX12_quarter) ∈ kU := ⟨kU_of (i := 1293) (by decide +kernel) rfl, kU_of (i := 55) (by decide +kernel) rfl⟩
set_option maxRecDepth 100000 in
theorem is_X12_little : Cond.static (my mX12_little) ∈ kU := kU_of (i := 1285) (by decide +kernel) rfl
set_option maxRecDepth 100000 in
theorem is_X12_turned : Cond.static (my mX12_turned) ∈ kU := kU_of (i := 1288) (by decide +kernel) rfl
set_option maxRecDepth 100000 in
theorem iv_X12_makeStream : Cond.instanceMethod (my mX12_makeStream) ∈ kU ∧ Cond.selects (my mX12_makeStream).cls (my mX12_makeStream) (my mX12_makeStream) ∈ kU := ⟨kU_of (i := 1278) (by decide +kernel) rfl, kU_of (i := 54) (by decide +kernel) rfl⟩
set_option maxRecDepth 100000 in
theorem iv_X12_hide : Cond.instanceMethod (my mX12_hide) ∈ kU ∧ Cond.selects (my mX12_hide).cls (my mX12_hide) (my mX12_hide) ∈ kU := ⟨kU_of (i := 1346) (by decide +kernel) rfl, kU_of (i := 63) (by decide +kernel) rfl⟩
set_option maxRecDepth 100000 in
theorem iv_X12_tagCarry : Cond.instanceMethod (my mX12_tagCarry) ∈ kU ∧ Cond.selects (my mX12_tagCarry).cls (my mX12_tagCarry) (my mX12_tagCarry) ∈ kU := ⟨kU_of (i := 1311) (by decide +kernel) rfl, kU_of (i := 57) (by decide +kernel) rfl⟩
set_option maxRecDepth 100000 in
theorem iv_X12_tagTimes : Cond.instanceMethod (my mX12_tagTimes) ∈ kU ∧ Cond.selects (my mX12_tagTimes).cls (my mX12_tagTimes) (my mX12_tagTimes) ∈ kU := ⟨kU_of (i := 1317) (by decide +kernel) rfl, kU_of (i := 58) (by decide +kernel) rfl⟩
set_option maxRecDepth 100000 in
theorem is_X12_counts : Cond.static (my mX12_counts) ∈ kU := kU_of (i := 1307) (by decide +kernel) rfl
set_option maxRecDepth 100000 in
theorem iv_X12_seal : Cond.instanceMethod (my mX12_seal) ∈ kU ∧ Cond.selects (my mX12_seal).cls (my mX12_seal) (my mX12_seal) ∈ kU := ⟨kU_of (i := 1304) (by decide +kernel) rfl, kU_of (i := 56) (by decide +kernel) rfl⟩
set_option maxRecDepth 100000 in
theorem iv_X12_type : Cond.instanceMethod (my mX12_type) ∈ kU ∧ Cond.selects (my mX12_type).cls (my mX12_type) (my mX12_type) ∈ kU := ⟨kU_of (i := 1179) (by decide +kernel) rfl, kU_of (i := 1180) (by decide +kernel) rfl⟩
set_option maxRecDepth 100000 in
theorem iv_X12_taken : Cond.instanceMethod (my mX12_taken) ∈ kU ∧ Cond.selects (my mX12_taken).cls (my mX12_taken) (my mX12_taken) ∈ kU := ⟨kU_of (i := 1188) (by decide +kernel) rfl, kU_of (i := 39) (by decide +kernel) rfl⟩
set_option maxRecDepth 100000 in
theorem iv_X12_tell : Cond.instanceMethod (my mX12_tell) ∈ kU ∧ Cond.selects (my mX12_tell).cls (my mX12_tell) (my mX12_tell) ∈ kU := ⟨kU_of (i := 1245) (by decide +kernel) rfl, kU_of (i := 49) (by decide +kernel) rfl⟩
set_option maxRecDepth 100000 in
theorem iv_X12_set : Cond.instanceMethod (my mX12_set) ∈ kU ∧ Cond.selects (my mX12_set).cls (my mX12_set) (my mX12_set) ∈ kU := ⟨kU_of (i := 1183) (by decide +kernel) rfl, kU_of (i := 1184) (by decide +kernel) rfl⟩
set_option maxRecDepth 100000 in
theorem iv_X12_multiply : Cond.instanceMethod (my mX12_multiply) ∈ kU ∧ Cond.selects (my mX12_multiply).cls (my mX12_multiply) (my mX12_multiply) ∈ kU := ⟨kU_of (i := 1194) (by decide +kernel) rfl, kU_of (i := 1195) (by decide +kernel) rfl⟩
set_option maxRecDepth 100000 in
theorem iv_X12_hash : Cond.instanceMethod (my mX12_hash) ∈ kU ∧ Cond.selects (my mX12_hash).cls (my mX12_hash) (my mX12_hash) ∈ kU := ⟨kU_of (i := 1248) (by decide +kernel) rfl, kU_of (i := 1249) (by decide +kernel) rfl⟩
set_option maxRecDepth 100000 in
theorem iv_X12_stream : Cond.instanceMethod (my mX12_stream) ∈ kU ∧ Cond.selects (my mX12_stream).cls (my mX12_stream) (my mX12_stream) ∈ kU := ⟨kU_of (i := 1273) (by decide +kernel) rfl, kU_of (i := 1274) (by decide +kernel) rfl⟩
set_option maxRecDepth 100000 in
theorem iv_X12_tag : Cond.instanceMethod (my mX12_tag) ∈ kU ∧ Cond.selects (my mX12_tag).cls (my mX12_tag) (my mX12_tag) ∈ kU := ⟨kU_of (i := 1299) (by decide +kernel) rfl, kU_of (i := 1300) (by decide +kernel) rfl⟩
set_option maxRecDepth 100000 in
theorem iv_X12_out : Cond.instanceMethod (my mX12_out) ∈ kU ∧ Cond.selects (my mX12_out).cls (my mX12_out) (my mX12_out) ∈ kU := ⟨kU_of (i := 1321) (by decide +kernel) rfl, kU_of (i := 1322) (by decide +kernel) rfl⟩
set_option maxRecDepth 100000 in
theorem is_X12_zerosOf : Cond.static (my mX12_zerosOf) ∈ kU := kU_of (i := 1350) (by decide +kernel) rfl
set_option maxRecDepth 100000 in
theorem iv_X12_sealPacket : Cond.instanceMethod (my mX12_sealPacket) ∈ kU ∧ Cond.selects (my mX12_sealPacket).cls (my mX12_sealPacket) (my mX12_sealPacket) ∈ kU := ⟨kU_of (i := 1342) (by decide +kernel) rfl, kU_of (i := 62) (by decide +kernel) rfl⟩
set_option maxRecDepth 100000 in
theorem iv_X12_post : Cond.instanceMethod (my mX12_post) ∈ kU ∧ Cond.selects (my mX12_post).cls (my mX12_post) (my mX12_post) ∈ kU := ⟨kU_of (i := 1377) (by decide +kernel) rfl, kU_of (i := 69) (by decide +kernel) rfl⟩
set_option maxRecDepth 100000 in
theorem iv_X12_say : Cond.instanceMethod (my mX12_say) ∈ kU ∧ Cond.selects (my mX12_say).cls (my mX12_say) (my mX12_say) ∈ kU := ⟨kU_of (i := 1369) (by decide +kernel) rfl, kU_of (i := 67) (by decide +kernel) rfl⟩
set_option maxRecDepth 100000 in
theorem iv_X12_sayRow : Cond.instanceMethod (my mX12_sayRow) ∈ kU ∧ Cond.selects (my mX12_sayRow).cls (my mX12_sayRow) (my mX12_sayRow) ∈ kU := ⟨kU_of (i := 1373) (by decide +kernel) rfl, kU_of (i := 68) (by decide +kernel) rfl⟩
set_option maxRecDepth 100000 in
theorem iv_X12_postOne : Cond.instanceMethod (my mX12_postOne) ∈ kU ∧ Cond.selects (my mX12_postOne).cls (my mX12_postOne) (my mX12_postOne) ∈ kU := ⟨kU_of (i := 1401) (by decide +kernel) rfl, kU_of (i := 75) (by decide +kernel) rfl⟩
set_option maxRecDepth 100000 in
theorem iv_X12_giveUp : Cond.instanceMethod (my mX12_giveUp) ∈ kU ∧ Cond.selects (my mX12_giveUp).cls (my mX12_giveUp) (my mX12_giveUp) ∈ kU := ⟨kU_of (i := 1413) (by decide +kernel) rfl, kU_of (i := 78) (by decide +kernel) rfl⟩
set_option maxRecDepth 100000 in
theorem iv_X12_unpack : Cond.instanceMethod (my mX12_unpack) ∈ kU ∧ Cond.selects (my mX12_unpack).cls (my mX12_unpack) (my mX12_unpack) ∈ kU := ⟨kU_of (i := 1338) (by decide +kernel) rfl, kU_of (i := 61) (by decide +kernel) rfl⟩
set_option maxRecDepth 100000 in
theorem iv_X12_dropFirst : Cond.instanceMethod (my mX12_dropFirst) ∈ kU ∧ Cond.selects (my mX12_dropFirst).cls (my mX12_dropFirst) (my mX12_dropFirst) ∈ kU := ⟨kU_of (i := 1334) (by decide +kernel) rfl, kU_of (i := 60) (by decide +kernel) rfl⟩
set_option maxRecDepth 100000 in
theorem iv_X12_postInit : Cond.instanceMethod (my mX12_postInit) ∈ kU ∧ Cond.selects (my mX12_postInit).cls (my mX12_postInit) (my mX12_postInit) ∈ kU := ⟨kU_of (i := 1365) (by decide +kernel) rfl, kU_of (i := 66) (by decide +kernel) rfl⟩
set_option maxRecDepth 100000 in
theorem iv_X12_takeSecret : Cond.instanceMethod (my mX12_takeSecret) ∈ kU ∧ Cond.selects (my mX12_takeSecret).cls (my mX12_takeSecret) (my mX12_takeSecret) ∈ kU := ⟨kU_of (i := 1381) (by decide +kernel) rfl, kU_of (i := 70) (by decide +kernel) rfl⟩
set_option maxRecDepth 100000 in
theorem iv_X12_digest : Cond.instanceMethod (my mX12_digest) ∈ kU ∧ Cond.selects (my mX12_digest).cls (my mX12_digest) (my mX12_digest) ∈ kU := ⟨kU_of (i := 1389) (by decide +kernel) rfl, kU_of (i := 72) (by decide +kernel) rfl⟩
set_option maxRecDepth 100000 in
theorem iv_X12_makeKeys : Cond.instanceMethod (my mX12_makeKeys) ∈ kU ∧ Cond.selects (my mX12_makeKeys).cls (my mX12_makeKeys) (my mX12_makeKeys) ∈ kU := ⟨kU_of (i := 1393) (by decide +kernel) rfl, kU_of (i := 73) (by decide +kernel) rfl⟩
set_option maxRecDepth 100000 in
theorem iv_X12_postNew : Cond.instanceMethod (my mX12_postNew) ∈ kU ∧ Cond.selects (my mX12_postNew).cls (my mX12_postNew) (my mX12_postNew) ∈ kU := ⟨kU_of (i := 1397) (by decide +kernel) rfl, kU_of (i := 74) (by decide +kernel) rfl⟩
set_option maxRecDepth 100000 in
theorem iv_X12_answer : Cond.instanceMethod (my mX12_answer) ∈ kU ∧ Cond.selects (my mX12_answer).cls (my mX12_answer) (my mX12_answer) ∈ kU := ⟨kU_of (i := 1385) (by decide +kernel) rfl, kU_of (i := 71) (by decide +kernel) rfl⟩
set_option maxRecDepth 100000 in
theorem iv_X12_isProved : Cond.instanceMethod (my mX12_isProved) ∈ kU ∧ Cond.selects (my mX12_isProved).cls (my mX12_isProved) (my mX12_isProved) ∈ kU := ⟨kU_of (i := 1409) (by decide +kernel) rfl, kU_of (i := 77) (by decide +kernel) rfl⟩
set_option maxRecDepth 100000 in
theorem iv_X12_placed : Cond.instanceMethod (my mX12_placed) ∈ kU ∧ Cond.selects (my mX12_placed).cls (my mX12_placed) (my mX12_placed) ∈ kU := ⟨kU_of (i := 1357) (by decide +kernel) rfl, kU_of (i := 64) (by decide +kernel) rfl⟩
set_option maxRecDepth 100000 in
theorem iv_X12_initComes : Cond.instanceMethod (my mX12_initComes) ∈ kU ∧ Cond.selects (my mX12_initComes).cls (my mX12_initComes) (my mX12_initComes) ∈ kU := ⟨kU_of (i := 1361) (by decide +kernel) rfl, kU_of (i := 65) (by decide +kernel) rfl⟩
set_option maxRecDepth 100000 in
theorem iv_X12_replyComes : Cond.instanceMethod (my mX12_replyComes) ∈ kU ∧ Cond.selects (my mX12_replyComes).cls (my mX12_replyComes) (my mX12_replyComes) ∈ kU := ⟨kU_of (i := 1405) (by decide +kernel) rfl, kU_of (i := 76) (by decide +kernel) rfl⟩
set_option maxRecDepth 100000 in
theorem iv_X12_newComes : Cond.instanceMethod (my mX12_newComes) ∈ kU ∧ Cond.selects (my mX12_newComes).cls (my mX12_newComes) (my mX12_newComes) ∈ kU := ⟨kU_of (i := 1417) (by decide +kernel) rfl, kU_of (i := 79) (by decide +kernel) rfl⟩
set_option maxRecDepth 100000 in
theorem iv_X12_dataComes : Cond.instanceMethod (my mX12_dataComes) ∈ kU ∧ Cond.selects (my mX12_dataComes).cls (my mX12_dataComes) (my mX12_dataComes) ∈ kU := ⟨kU_of (i := 1421) (by decide +kernel) rfl, kU_of (i := 80) (by decide +kernel) rfl⟩
set_option maxRecDepth 100000 in
theorem is_X12_hasPlace : Cond.static (my mX12_hasPlace) ∈ kU := kU_of (i := 1353) (by decide +kernel) rfl
set_option maxRecDepth 100000 in
theorem iv_X12_comes : Cond.instanceMethod (my mX12_comes) ∈ kU ∧ Cond.selects (my mX12_comes).cls (my mX12_comes) (my mX12_comes) ∈ kU := ⟨kU_of (i := 1330) (by decide +kernel) rfl, kU_of (i := 59) (by decide +kernel) rfl⟩
set_option maxRecDepth 100000 in
theorem iv_X12_come : Cond.instanceMethod (my mX12_come) ∈ kU ∧ Cond.selects (my mX12_come).cls (my mX12_come) (my mX12_come) ∈ kU := ⟨kU_of (i := 1325) (by decide +kernel) rfl, kU_of (i := 1326) (by decide +kernel) rfl⟩
set_option maxRecDepth 100000 in
theorem iv_X12_run : Cond.instanceMethod (my mX12_run) ∈ kU ∧ Cond.selects (my mX12_run).cls (my mX12_run) (my mX12_run) ∈ kU := ⟨kU_of (i := 1424) (by decide +kernel) rfl, kU_of (i := 1425) (by decide +kernel) rfl⟩
set_option maxRecDepth 100000 in
theorem iv_X12_begin : Cond.instanceMethod (my mX12_begin) ∈ kU ∧ Cond.selects (my mX12_begin).cls (my mX12_begin) (my mX12_begin) ∈ kU := ⟨kU_of (i := 1428) (by decide +kernel) rfl, kU_of (i := 1429) (by decide +kernel) rfl⟩
set_option maxRecDepth 100000 in
theorem iv_X12_send : Cond.instanceMethod (my mX12_send) ∈ kU ∧ Cond.selects (my mX12_send).cls (my mX12_send) (my mX12_send) ∈ kU := ⟨kU_of (i := 1432) (by decide +kernel) rfl, kU_of (i := 1433) (by decide +kernel) rfl⟩
set_option maxRecDepth 100000 in
theorem iv_X12_isPacket : Cond.instanceMethod (my mX12_isPacket) ∈ kU ∧ Cond.selects (my mX12_isPacket).cls (my mX12_isPacket) (my mX12_isPacket) ∈ kU := ⟨kU_of (i := 1441) (by decide +kernel) rfl, kU_of (i := 81) (by decide +kernel) rfl⟩
set_option maxRecDepth 100000 in
theorem iv_X12_packet : Cond.instanceMethod (my mX12_packet) ∈ kU ∧ Cond.selects (my mX12_packet).cls (my mX12_packet) (my mX12_packet) ∈ kU := ⟨kU_of (i := 1436) (by decide +kernel) rfl, kU_of (i := 1437) (by decide +kernel) rfl⟩
set_option maxRecDepth 100000 in
theorem iv_X12_damage : Cond.instanceMethod (my mX12_damage) ∈ kU ∧ Cond.selects (my mX12_damage).cls (my mX12_damage) (my mX12_damage) ∈ kU := ⟨kU_of (i := 1444) (by decide +kernel) rfl, kU_of (i := 1445) (by decide +kernel) rfl⟩
set_option maxRecDepth 100000 in
theorem iv_X12_got : Cond.instanceMethod (my mX12_got) ∈ kU ∧ Cond.selects (my mX12_got).cls (my mX12_got) (my mX12_got) ∈ kU := ⟨kU_of (i := 1448) (by decide +kernel) rfl, kU_of (i := 1449) (by decide +kernel) rfl⟩
set_option maxRecDepth 100000 in
theorem iv_X12_about : Cond.instanceMethod (my mX12_about) ∈ kU ∧ Cond.selects (my mX12_about).cls (my mX12_about) (my mX12_about) ∈ kU := ⟨kU_of (i := 1452) (by decide +kernel) rfl, kU_of (i := 1453) (by decide +kernel) rfl⟩
set_option maxRecDepth 100000 in
theorem iv_X12_session : Cond.instanceMethod (my mX12_session) ∈ kU ∧ Cond.selects (my mX12_session).cls (my mX12_session) (my mX12_session) ∈ kU := ⟨kU_of (i := 1456) (by decide +kernel) rfl, kU_of (i := 1457) (by decide +kernel) rfl⟩
set_option maxRecDepth 100000 in
theorem is_J7_fill_d0a16 : Cond.static (my mJ7_fill_d0a16) ∈ kU := kU_of (i := 639) (by decide +kernel) rfl
set_option maxRecDepth 100000 in
theorem is_J7_fill_53178 : Cond.static (my mJ7_fill_53178) ∈ kU := kU_of (i := 739) (by decide +kernel) rfl
set_option maxRecDepth 100000 in
theorem kl_L_8 : Cond.classLink RL 8 "SealedWire" ∈ kU := kU_of (i := 106) (by decide +kernel) rfl
set_option maxRecDepth 100000 in
theorem kn_X11 : Cond.instantiable RX11 16 ∈ kU ∧ Cond.initialized RX11 ∈ kU := ⟨kU_of (i := 107) (by decide +kernel) rfl, kU_of (i := 83) (by decide +kernel) rfl⟩
set_option maxRecDepth 100000 in
theorem kk_X11_1 : Cond.methodLink RX11 1 ⟨"java/lang/Object", "<init>", "()V"⟩ ∈ kU := kU_of (i := 111) (by decide +kernel) rfl
set_option maxRecDepth 100000 in
theorem kl_X11_7 : Cond.classLink RX11 7 "SealedWire$Curve" ∈ kU := kU_of (i := 114) (by decide +kernel) rfl
set_option maxRecDepth 100000 in
theorem kn_X0 : Cond.instantiable RX0 12 ∈ kU ∧ Cond.initialized RX0 ∈ kU := ⟨kU_of (i := 115) (by decide +kernel) rfl, kU_of (i := 84) (by decide +kernel) rfl⟩
set_option maxRecDepth 100000 in
theorem kk_X0_5 : Cond.methodLink RX0 5 ⟨"java/lang/Object", "<init>", "()V"⟩ ∈ kU := kU_of (i := 119) (by decide +kernel) rfl
set_option maxRecDepth 100000 in
theorem kl_X11_16 : Cond.classLink RX11 16 "SealedWire$Hasher" ∈ kU := kU_of (i := 159) (by decide +kernel) rfl
set_option maxRecDepth 100000 in
theorem kn_X3 : Cond.instantiable RX3 3 ∈ kU ∧ Cond.initialized RX3 ∈ kU := ⟨kU_of (i := 160) (by decide +kernel) rfl, kU_of (i := 85) (by decide +kernel) rfl⟩
set_option maxRecDepth 100000 in
theorem kk_X3_1 : Cond.methodLink RX3 1 ⟨"java/lang/Object", "<init>", "()V"⟩ ∈ kU := kU_of (i := 164) (by decide +kernel) rfl
set_option maxRecDepth 100000 in
theorem kl_X3_16 : Cond.classLink RX3 16 "SealedWire$Row" ∈ kU := kU_of (i := 165) (by decide +kernel) rfl
set_option maxRecDepth 100000 in
theorem kn_X6 : Cond.instantiable RX6 2 ∈ kU ∧ Cond.initialized RX6 ∈ kU := ⟨kU_of (i := 166) (by decide +kernel) rfl, kU_of (i := 86) (by decide +kernel) rfl⟩
set_option maxRecDepth 100000 in
theorem kk_X6_1 : Cond.methodLink RX6 1 ⟨"java/lang/Object", "<init>", "()V"⟩ ∈ kU := kU_of (i := 170) (by decide +kernel) rfl
set_option maxRecDepth 100000 in
theorem kl_X11_23 : Cond.classLink RX11 23 "SealedWire$Sealer" ∈ kU := kU_of (i := 194) (by decide +kernel) rfl
set_option maxRecDepth 100000 in
theorem kn_X7 : Cond.instantiable RX7 3 ∈ kU ∧ Cond.initialized RX7 ∈ kU := ⟨kU_of (i := 195) (by decide +kernel) rfl, kU_of (i := 87) (by decide +kernel) rfl⟩
set_option maxRecDepth 100000 in
theorem kk_X7_3 : Cond.methodLink RX7 3 ⟨"java/lang/Object", "<init>", "()V"⟩ ∈ kU := kU_of (i := 199) (by decide +kernel) rfl
set_option maxRecDepth 100000 in
theorem kl_X7_9 : Cond.classLink RX7 9 "SealedWire$Streamer" ∈ kU := kU_of (i := 200) (by decide +kernel) rfl
set_option maxRecDepth 100000 in
theorem kn_X8 : Cond.instantiable RX8 3 ∈ kU ∧ Cond.initialized RX8 ∈ kU := ⟨kU_of (i := 201) (by decide +kernel) rfl, kU_of (i := 88) (by decide +kernel) rfl⟩
set_option maxRecDepth 100000 in
theorem kk_X8_1 : Cond.methodLink RX8 1 ⟨"java/lang/Object", "<init>", "()V"⟩ ∈ kU := kU_of (i := 205) (by decide +kernel) rfl
set_option maxRecDepth 100000 in
theorem kl_X7_18 : Cond.classLink RX7 18 "SealedWire$Tagger" ∈ kU := kU_of (i := 218) (by decide +kernel) rfl
set_option maxRecDepth 100000 in
theorem kn_X9 : Cond.instantiable RX9 5 ∈ kU ∧ Cond.initialized RX9 ∈ kU := ⟨kU_of (i := 219) (by decide +kernel) rfl, kU_of (i := 89) (by decide +kernel) rfl⟩
set_option maxRecDepth 100000 in
theorem kk_X9_1 : Cond.methodLink RX9 1 ⟨"java/lang/Object", "<init>", "()V"⟩ ∈ kU := kU_of (i := 223) (by decide +kernel) rfl
set_option maxRecDepth 100000 in
theorem kl_X7_25 : Cond.classLink RX7 25 "SealedWire$Row" ∈ kU := kU_of (i := 242) (by decide +kernel) rfl
set_option maxRecDepth 100000 in
theorem kl_X11_30 : Cond.classLink RX11 30 "SealedWire$End" ∈ kU := kU_of (i := 256) (by decide +kernel) rfl
set_option maxRecDepth 100000 in
theorem kn_X1 : Cond.instantiable RX1 14 ∈ kU ∧ Cond.initialized RX1 ∈ kU := ⟨kU_of (i := 257) (by decide +kernel) rfl, kU_of (i := 90) (by decide +kernel) rfl⟩
set_option maxRecDepth 100000 in
theorem kk_X1_3 : Cond.methodLink RX1 3 ⟨"java/lang/Object", "<init>", "()V"⟩ ∈ kU := kU_of (i := 261) (by decide +kernel) rfl
set_option maxRecDepth 100000 in
theorem kl_X1_21 : Cond.classLink RX1 21 "SealedWire$Row" ∈ kU := kU_of (i := 262) (by decide +kernel) rfl
set_option maxRecDepth 100000 in
theorem kl_X1_30 : Cond.classLink RX1 30 "SealedWire$Wire" ∈ kU := kU_of (i := 264) (by decide +kernel) rfl
set_option maxRecDepth 100000 in
theorem kn_X10 : Cond.instantiable RX10 3 ∈ kU ∧ Cond.initialized RX10 ∈ kU := ⟨kU_of (i := 265) (by decide +kernel) rfl, kU_of (i := 91) (by decide +kernel) rfl⟩
set_option maxRecDepth 100000 in
theorem kk_X10_3 : Cond.methodLink RX10 3 ⟨"java/lang/Object", "<init>", "()V"⟩ ∈ kU := kU_of (i := 269) (by decide +kernel) rfl
set_option maxRecDepth 100000 in
theorem kl_X10_9 : Cond.classLink RX10 9 "SealedWire$Row" ∈ kU := kU_of (i := 270) (by decide +kernel) rfl
set_option maxRecDepth 100000 in
theorem kl_X1_37 : Cond.classLink RX1 37 "SealedWire$Keys" ∈ kU := kU_of (i := 284) (by decide +kernel) rfl
set_option maxRecDepth 100000 in
theorem kn_X4 : Cond.instantiable RX4 3 ∈ kU ∧ Cond.initialized RX4 ∈ kU := ⟨kU_of (i := 285) (by decide +kernel) rfl, kU_of (i := 92) (by decide +kernel) rfl⟩
set_option maxRecDepth 100000 in
theorem kk_X4_3 : Cond.methodLink RX4 3 ⟨"java/lang/Object", "<init>", "()V"⟩ ∈ kU := kU_of (i := 289) (by decide +kernel) rfl
set_option maxRecDepth 100000 in
theorem kl_X1_47 : Cond.classLink RX1 47 "SealedWire$Exchange" ∈ kU := kU_of (i := 306) (by decide +kernel) rfl
set_option maxRecDepth 100000 in
theorem kn_X2 : Cond.instantiable RX2 10 ∈ kU ∧ Cond.initialized RX2 ∈ kU := ⟨kU_of (i := 307) (by decide +kernel) rfl, kU_of (i := 93) (by decide +kernel) rfl⟩
set_option maxRecDepth 100000 in
theorem kk_X2_3 : Cond.methodLink RX2 3 ⟨"java/lang/Object", "<init>", "()V"⟩ ∈ kU := kU_of (i := 311) (by decide +kernel) rfl
set_option maxRecDepth 100000 in
theorem kl_X2_24 : Cond.classLink RX2 24 "SealedWire$Keys" ∈ kU := kU_of (i := 312) (by decide +kernel) rfl
set_option maxRecDepth 100000 in
theorem kl_X11_59 : Cond.classLink RX11 59 "SealedWire$Row" ∈ kU := kU_of (i := 410) (by decide +kernel) rfl
set_option maxRecDepth 100000 in
theorem kk_X6_21 : Cond.methodLink RX6 21 arraycopyName ∈ kU := kU_of (i := 499) (by decide +kernel) rfl
set_option maxRecDepth 100000 in
theorem kk_X3_45 : Cond.methodLink RX3 45 arraycopyName ∈ kU := kU_of (i := 514) (by decide +kernel) rfl
set_option maxRecDepth 100000 in
theorem kl_L_13 : Cond.classLink RL 13 "java/lang/IndexOutOfBoundsException" ∈ kU := kU_of (i := 528) (by decide +kernel) rfl
set_option maxRecDepth 100000 in
theorem kl_L_15 : Cond.classLink RL 15 "java/lang/IllegalArgumentException" ∈ kU := kU_of (i := 529) (by decide +kernel) rfl
set_option maxRecDepth 100000 in
theorem kl_X11_91 : Cond.classLink RX11 91 "java/lang/IndexOutOfBoundsException" ∈ kU := kU_of (i := 534) (by decide +kernel) rfl
set_option maxRecDepth 100000 in
theorem kk_X11_93 : Cond.methodLink RX11 93 ⟨"java/lang/IndexOutOfBoundsException", "<init>", "()V"⟩ ∈ kU := kU_of (i := 576) (by decide +kernel) rfl
set_option maxRecDepth 100000 in
theorem kl_X11_102 : Cond.classLink RX11 102 "java/lang/IllegalArgumentException" ∈ kU := kU_of (i := 602) (by decide +kernel) rfl
set_option maxRecDepth 100000 in
theorem kk_X11_104 : Cond.methodLink RX11 104 ⟨"java/lang/IllegalArgumentException", "<init>", "()V"⟩ ∈ kU := kU_of (i := 611) (by decide +kernel) rfl
set_option maxRecDepth 100000 in
theorem kk_X11_108 : Cond.methodLink RX11 108 arraycopyName ∈ kU := kU_of (i := 617) (by decide +kernel) rfl
set_option maxRecDepth 100000 in
theorem kk_X0_49 : Cond.methodLink RX0 49 arraycopyName ∈ kU := kU_of (i := 629) (by decide +kernel) rfl
set_option maxRecDepth 100000 in
theorem kc_X5_9 : Cond.constantLong RX5 9 (67108863) ∈ kU := kU_of (i := 633) (by decide +kernel) rfl
set_option maxRecDepth 100000 in
theorem kc_X0_61 : Cond.constantLong RX0 61 (2097151) ∈ kU := kU_of (i := 634) (by decide +kernel) rfl
set_option maxRecDepth 100000 in
theorem kc_X0_104 : Cond.constantLong RX0 104 (134217690) ∈ kU := kU_of (i := 651) (by decide +kernel) rfl
set_option maxRecDepth 100000 in
theorem kc_X0_106 : Cond.constantLong RX0 106 (134217726) ∈ kU := kU_of (i := 652) (by decide +kernel) rfl
set_option maxRecDepth 100000 in
theorem kc_X0_108 : Cond.constantLong RX0 108 (4194302) ∈ kU := kU_of (i := 653) (by decide +kernel) rfl
set_option maxRecDepth 100000 in
theorem kc_X0_117 : Cond.constantLong RX0 117 (67108863) ∈ kU := kU_of (i := 662) (by decide +kernel) rfl
set_option maxRecDepth 100000 in
theorem kc_X0_119 : Cond.constantLong RX0 119 (608) ∈ kU := kU_of (i := 663) (by decide +kernel) rfl
set_option maxRecDepth 100000 in
theorem kc_X0_121 : Cond.constantLong RX0 121 (19) ∈ kU := kU_of (i := 664) (by decide +kernel) rfl
set_option maxRecDepth 100000 in
theorem kc_X0_115 : Cond.constantLong RX0 115 (2) ∈ kU := kU_of (i := 669) (by decide +kernel) rfl
set_option maxRecDepth 100000 in
theorem kc_X0_110 : Cond.constantLong RX0 110 (121665) ∈ kU := kU_of (i := 674) (by decide +kernel) rfl
set_option maxRecDepth 100000 in
theorem kc_X8_36 : Cond.constant RX8 36 (1634760805) ∈ kU := kU_of (i := 700) (by decide +kernel) rfl
set_option maxRecDepth 100000 in
theorem kc_X8_37 : Cond.constant RX8 37 (857760878) ∈ kU := kU_of (i := 701) (by decide +kernel) rfl
set_option maxRecDepth 100000 in
theorem kc_X8_38 : Cond.constant RX8 38 (2036477234) ∈ kU := kU_of (i := 702) (by decide +kernel) rfl
set_option maxRecDepth 100000 in
theorem kc_X8_39 : Cond.constant RX8 39 (1797285236) ∈ kU := kU_of (i := 703) (by decide +kernel) rfl
set_option maxRecDepth 100000 in
theorem kc_X8_40 : Cond.constantLong RX8 40 (255) ∈ kU := kU_of (i := 704) (by decide +kernel) rfl
set_option maxRecDepth 100000 in
theorem kk_X8_23 : Cond.methodLink RX8 23 arraycopyName ∈ kU := kU_of (i := 705) (by decide +kernel) rfl
set_option maxRecDepth 100000 in
theorem kk_X9_58 : Cond.methodLink RX9 58 arraycopyName ∈ kU := kU_of (i := 728) (by decide +kernel) rfl
set_option maxRecDepth 100000 in
theorem kc_X9_71 : Cond.constantLong RX9 71 (5) ∈ kU := kU_of (i := 745) (by decide +kernel) rfl
set_option maxRecDepth 100000 in
theorem kc_X9_76 : Cond.constantLong RX9 76 (67108863) ∈ kU := kU_of (i := 750) (by decide +kernel) rfl
set_option maxRecDepth 100000 in
theorem kl_L_34 : Cond.classLink RL 34 "java/util/NoSuchElementException" ∈ kU := kU_of (i := 773) (by decide +kernel) rfl
set_option maxRecDepth 100000 in
theorem kl_L_36 : Cond.classLink RL 36 "java/lang/IllegalStateException" ∈ kU := kU_of (i := 774) (by decide +kernel) rfl
set_option maxRecDepth 100000 in
theorem kl_X11_241 : Cond.classLink RX11 241 "java/util/NoSuchElementException" ∈ kU := kU_of (i := 783) (by decide +kernel) rfl
set_option maxRecDepth 100000 in
theorem kk_X11_243 : Cond.methodLink RX11 243 ⟨"java/util/NoSuchElementException", "<init>", "()V"⟩ ∈ kU := kU_of (i := 792) (by decide +kernel) rfl
set_option maxRecDepth 100000 in
theorem kl_X11_177 : Cond.classLink RX11 177 "java/lang/IllegalStateException" ∈ kU := kU_of (i := 798) (by decide +kernel) rfl
set_option maxRecDepth 100000 in
theorem kk_X11_179 : Cond.methodLink RX11 179 ⟨"java/lang/IllegalStateException", "<init>", "()V"⟩ ∈ kU := kU_of (i := 807) (by decide +kernel) rfl
set_option maxRecDepth 100000 in
theorem kk_X4_18 : Cond.methodLink RX4 18 arraycopyName ∈ kU := kU_of (i := 919) (by decide +kernel) rfl
set_option maxRecDepth 100000 in
theorem kl_L_66 : Cond.classLink RL 66 "SealedWireModel" ∈ kU := kU_of (i := 1008) (by decide +kernel) rfl
set_option maxRecDepth 100000 in
theorem kn_X12 : Cond.instantiable RX12 49 ∈ kU ∧ Cond.initialized RX12 ∈ kU := ⟨kU_of (i := 1009) (by decide +kernel) rfl, kU_of (i := 94) (by decide +kernel) rfl⟩
set_option maxRecDepth 100000 in
theorem kk_X12_1 : Cond.methodLink RX12 1 ⟨"java/lang/Object", "<init>", "()V"⟩ ∈ kU := kU_of (i := 1013) (by decide +kernel) rfl
set_option maxRecDepth 100000 in
theorem kc_X12_150 : Cond.constantLong RX12 150 (65535) ∈ kU := kU_of (i := 1022) (by decide +kernel) rfl
set_option maxRecDepth 100000 in
theorem kc_X12_152 : Cond.constantLong RX12 152 (65536) ∈ kU := kU_of (i := 1023) (by decide +kernel) rfl
set_option maxRecDepth 100000 in
theorem kc_X12_181 : Cond.constantLong RX12 181 (23361) ∈ kU := kU_of (i := 1212) (by decide +kernel) rfl
set_option maxRecDepth 100000 in
theorem kc_X12_183 : Cond.constantLong RX12 183 (3) ∈ kU := kU_of (i := 1213) (by decide +kernel) rfl
set_option maxRecDepth 100000 in
theorem kc_X12_158 : Cond.constantLong RX12 158 (32767) ∈ kU := kU_of (i := 1226) (by decide +kernel) rfl
set_option maxRecDepth 100000 in
theorem kc_X12_160 : Cond.constantLong RX12 160 (19) ∈ kU := kU_of (i := 1227) (by decide +kernel) rfl
set_option maxRecDepth 100000 in
theorem kc_X12_166 : Cond.constantLong RX12 166 (130996) ∈ kU := kU_of (i := 1232) (by decide +kernel) rfl
set_option maxRecDepth 100000 in
theorem kc_X12_168 : Cond.constantLong RX12 168 (131068) ∈ kU := kU_of (i := 1233) (by decide +kernel) rfl
set_option maxRecDepth 100000 in
theorem kc_X12_202 : Cond.constantLong RX12 202 (32749) ∈ kU := kU_of (i := 1242) (by decide +kernel) rfl
set_option maxRecDepth 100000 in
theorem kc_X12_210 : Cond.constantLong RX12 210 (128) ∈ kU := kU_of (i := 1263) (by decide +kernel) rfl
set_option maxRecDepth 100000 in
theorem kc_X12_212 : Cond.constantLong RX12 212 (8) ∈ kU := kU_of (i := 1264) (by decide +kernel) rfl
set_option maxRecDepth 100000 in
theorem kc_X12_221 : Cond.constant RX12 221 (1634760805) ∈ kU := kU_of (i := 1280) (by decide +kernel) rfl
set_option maxRecDepth 100000 in
theorem kc_X12_222 : Cond.constant RX12 222 (857760878) ∈ kU := kU_of (i := 1281) (by decide +kernel) rfl
set_option maxRecDepth 100000 in
theorem kc_X12_223 : Cond.constant RX12 223 (2036477234) ∈ kU := kU_of (i := 1282) (by decide +kernel) rfl
set_option maxRecDepth 100000 in
theorem kc_X12_224 : Cond.constant RX12 224 (1797285236) ∈ kU := kU_of (i := 1283) (by decide +kernel) rfl
set_option maxRecDepth 100000 in
theorem kc_X12_220 : Cond.constant RX12 220 (65280) ∈ kU := kU_of (i := 1290) (by decide +kernel) rfl
set_option maxRecDepth 100000 in
theorem kc_X12_241 : Cond.constantLong RX12 241 (1023) ∈ kU := kU_of (i := 1313) (by decide +kernel) rfl
set_option maxRecDepth 100000 in
theorem kc_X12_243 : Cond.constantLong RX12 243 (5) ∈ kU := kU_of (i := 1314) (by decide +kernel) rfl
set_option maxRecDepth 100000 in
theorem kc_X12_255 : Cond.constantLong RX12 255 (1019) ∈ kU := kU_of (i := 1319) (by decide +kernel) rfl
set_option maxRecDepth 100000 in
theorem kc_X12_319 : Cond.constantLong RX12 319 (256) ∈ kU := kU_of (i := 1348) (by decide +kernel) rfl
set_option maxRecDepth 100000 in
theorem kc_L_69 : Cond.constantLong RL 69 (4294967295) ∈ kU := kU_of (i := 1459) (by decide +kernel) rfl
set_option maxRecDepth 100000 in
theorem k_ac : Cond.native arraycopyName ∈ kU ∧ Cond.static arraycopyName ∈ kU ∧ Cond.initialized "java/lang/System" ∈ kU := ⟨kU_of (i := 501) (by decide +kernel) rfl, kU_of (i := 500) (by decide +kernel) rfl, kU_of (i := 100) (by decide +kernel) rfl⟩
set_option maxRecDepth 100000 in
theorem k_oi : Cond.instanceMethod Lib.objectInit ∈ kU ∧ Cond.code Lib.objectInit ⟨#[0xb1]⟩ 1 none ∈ kU := ⟨kU_of (i := 112) (by decide +kernel) rfl, kU_of (i := 113) (by decide +kernel) rfl⟩
set_option maxRecDepth 100000 in
theorem ks_X3_42 : Cond.fieldLink RX3 42 "SealedWire$Hasher" "FIRST" "[I" ∈ kU := kU_of (i := 512) (by decide +kernel) rfl
set_option maxRecDepth 100000 in
theorem ks_X3_57 : Cond.fieldLink RX3 57 "SealedWire$Hasher" "ROUND" "[I" ∈ kU := kU_of (i := 523) (by decide +kernel) rfl
set_option maxRecDepth 100000 in
theorem ks_X8_29 : Cond.fieldLink RX8 29 "SealedWire$Streamer" "QUARTERS" "[I" ∈ kU := kU_of (i := 706) (by decide +kernel) rfl
set_option maxRecDepth 100000 in
theorem ks_X11_324 : Cond.fieldLink RX11 324 "SealedWire" "NINE" "[I" ∈ kU := kU_of (i := 909) (by decide +kernel) rfl
set_option maxRecDepth 100000 in
theorem ka_int : Cond.arrayClass .int ∈ kU := kU_of (i := 157) (by decide +kernel) rfl
set_option maxRecDepth 100000 in
theorem ka_byte : Cond.arrayClass .byte ∈ kU := kU_of (i := 1172) (by decide +kernel) rfl
set_option maxRecDepth 100000 in
theorem ka_long : Cond.arrayClass .long ∈ kU := kU_of (i := 158) (by decide +kernel) rfl
set_option maxRecDepth 100000 in
theorem ka_boolean : Cond.arrayClass .boolean ∈ kU := kU_of (i := 1173) (by decide +kernel) rfl
