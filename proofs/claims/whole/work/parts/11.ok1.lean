set_option maxRecDepth 100000 in
theorem okX1_init : kOK mX1_init := ⟨kU_of (i := 260) (by rfl) rfl, ⟨by decide +kernel, by decide +kernel, by decide +kernel⟩, by decide +kernel, kU_of (i := 90) (by rfl) rfl⟩
set_option maxRecDepth 100000 in
theorem okX1_finishExchange : kOK mX1_finishExchange := ⟨kU_of (i := 914) (by rfl) rfl, ⟨by decide +kernel, by decide +kernel, by decide +kernel⟩, by decide +kernel, kU_of (i := 90) (by rfl) rfl⟩
set_option maxRecDepth 100000 in
theorem okX2_init : kOK mX2_init := ⟨kU_of (i := 310) (by rfl) rfl, ⟨by decide +kernel, by decide +kernel, by decide +kernel⟩, by decide +kernel, kU_of (i := 93) (by rfl) rfl⟩
set_option maxRecDepth 100000 in
theorem okX2_forget : kOK mX2_forget := ⟨kU_of (i := 923) (by rfl) rfl, ⟨by decide +kernel, by decide +kernel, by decide +kernel⟩, by decide +kernel, kU_of (i := 93) (by rfl) rfl⟩
set_option maxRecDepth 100000 in
theorem okX3_init : kOK mX3_init := ⟨kU_of (i := 163) (by rfl) rfl, ⟨by decide +kernel, by decide +kernel, by decide +kernel⟩, by decide +kernel, kU_of (i := 85) (by rfl) rfl⟩
set_option maxRecDepth 100000 in
theorem okX3_start : kOK mX3_start := ⟨kU_of (i := 488) (by rfl) rfl, ⟨by decide +kernel, by decide +kernel, by decide +kernel⟩, by decide +kernel, kU_of (i := 85) (by rfl) rfl⟩
set_option maxRecDepth 100000 in
theorem okX3_addRow : kOK mX3_addRow := ⟨kU_of (i := 493) (by rfl) rfl, ⟨by decide +kernel, by decide +kernel, by decide +kernel⟩, by decide +kernel, kU_of (i := 85) (by rfl) rfl⟩
set_option maxRecDepth 100000 in
theorem okX3_add : kOK mX3_add := ⟨kU_of (i := 951) (by rfl) rfl, ⟨by decide +kernel, by decide +kernel, by decide +kernel⟩, by decide +kernel, kU_of (i := 85) (by rfl) rfl⟩
set_option maxRecDepth 100000 in
theorem okX3_finish : kOK mX3_finish := ⟨kU_of (i := 505) (by rfl) rfl, ⟨by decide +kernel, by decide +kernel, by decide +kernel⟩, by decide +kernel, kU_of (i := 85) (by rfl) rfl⟩
set_option maxRecDepth 100000 in
theorem okX3_mix : kOK mX3_mix := ⟨kU_of (i := 518) (by rfl) rfl, ⟨by decide +kernel, by decide +kernel, by decide +kernel⟩, by decide +kernel, kU_of (i := 85) (by rfl) rfl⟩
set_option maxRecDepth 100000 in
theorem okX3_spread : kOK mX3_spread := ⟨kU_of (i := 522) (by rfl) rfl, ⟨by decide +kernel, by decide +kernel, by decide +kernel⟩, by decide +kernel, kU_of (i := 85) (by rfl) rfl⟩
set_option maxRecDepth 100000 in
theorem okX4_init : kOK mX4_init := ⟨kU_of (i := 288) (by rfl) rfl, ⟨by decide +kernel, by decide +kernel, by decide +kernel⟩, by decide +kernel, kU_of (i := 92) (by rfl) rfl⟩
set_option maxRecDepth 100000 in
theorem okX4_copyOf : kOK mX4_copyOf := ⟨kU_of (i := 918) (by rfl) rfl, ⟨by decide +kernel, by decide +kernel, by decide +kernel⟩, by decide +kernel, kU_of (i := 92) (by rfl) rfl⟩
set_option maxRecDepth 100000 in
theorem okX5_read : kOK mX5_read := ⟨kU_of (i := 632) (by rfl) rfl, ⟨by decide +kernel, by decide +kernel, by decide +kernel⟩, by decide +kernel, kU_of (i := 101) (by rfl) rfl⟩
set_option maxRecDepth 100000 in
theorem okX5_write : kOK mX5_write := ⟨kU_of (i := 684) (by rfl) rfl, ⟨by decide +kernel, by decide +kernel, by decide +kernel⟩, by decide +kernel, kU_of (i := 101) (by rfl) rfl⟩
set_option maxRecDepth 100000 in
theorem okX6_init : kOK mX6_init := ⟨kU_of (i := 169) (by rfl) rfl, ⟨by decide +kernel, by decide +kernel, by decide +kernel⟩, by decide +kernel, kU_of (i := 86) (by rfl) rfl⟩
set_option maxRecDepth 100000 in
theorem okX6_clear : kOK mX6_clear := ⟨kU_of (i := 484) (by rfl) rfl, ⟨by decide +kernel, by decide +kernel, by decide +kernel⟩, by decide +kernel, kU_of (i := 86) (by rfl) rfl⟩
set_option maxRecDepth 100000 in
theorem okX6_hasRoom : kOK mX6_hasRoom := ⟨kU_of (i := 468) (by rfl) rfl, ⟨by decide +kernel, by decide +kernel, by decide +kernel⟩, by decide +kernel, kU_of (i := 86) (by rfl) rfl⟩
set_option maxRecDepth 100000 in
theorem okX6_holds : kOK mX6_holds := ⟨kU_of (i := 769) (by rfl) rfl, ⟨by decide +kernel, by decide +kernel, by decide +kernel⟩, by decide +kernel, kU_of (i := 86) (by rfl) rfl⟩
set_option maxRecDepth 100000 in
theorem okX6_put : kOK mX6_put := ⟨kU_of (i := 472) (by rfl) rfl, ⟨by decide +kernel, by decide +kernel, by decide +kernel⟩, by decide +kernel, kU_of (i := 86) (by rfl) rfl⟩
set_option maxRecDepth 100000 in
theorem okX6_putAll : kOK mX6_putAll := ⟨kU_of (i := 497) (by rfl) rfl, ⟨by decide +kernel, by decide +kernel, by decide +kernel⟩, by decide +kernel, kU_of (i := 86) (by rfl) rfl⟩
set_option maxRecDepth 100000 in
theorem okX6_putBig : kOK mX6_putBig := ⟨kU_of (i := 510) (by rfl) rfl, ⟨by decide +kernel, by decide +kernel, by decide +kernel⟩, by decide +kernel, kU_of (i := 86) (by rfl) rfl⟩
set_option maxRecDepth 100000 in
theorem okX6_bigAt : kOK mX6_bigAt := ⟨kU_of (i := 887) (by rfl) rfl, ⟨by decide +kernel, by decide +kernel, by decide +kernel⟩, by decide +kernel, kU_of (i := 86) (by rfl) rfl⟩
set_option maxRecDepth 100000 in
theorem okX6_differsAt : kOK mX6_differsAt := ⟨kU_of (i := 878) (by rfl) rfl, ⟨by decide +kernel, by decide +kernel, by decide +kernel⟩, by decide +kernel, kU_of (i := 86) (by rfl) rfl⟩
set_option maxRecDepth 100000 in
theorem okX7_init : kOK mX7_init := ⟨kU_of (i := 198) (by rfl) rfl, ⟨by decide +kernel, by decide +kernel, by decide +kernel⟩, by decide +kernel, kU_of (i := 87) (by rfl) rfl⟩
set_option maxRecDepth 100000 in
theorem okX7_close : kOK mX7_close := ⟨kU_of (i := 832) (by rfl) rfl, ⟨by decide +kernel, by decide +kernel, by decide +kernel⟩, by decide +kernel, kU_of (i := 87) (by rfl) rfl⟩
set_option maxRecDepth 100000 in
theorem okX7_open : kOK mX7_open := ⟨kU_of (i := 874) (by rfl) rfl, ⟨by decide +kernel, by decide +kernel, by decide +kernel⟩, by decide +kernel, kU_of (i := 87) (by rfl) rfl⟩
set_option maxRecDepth 100000 in
theorem okX7_readPlain : kOK mX7_readPlain := ⟨kU_of (i := 883) (by rfl) rfl, ⟨by decide +kernel, by decide +kernel, by decide +kernel⟩, by decide +kernel, kU_of (i := 87) (by rfl) rfl⟩
set_option maxRecDepth 100000 in
theorem okX7_zerosBehind : kOK mX7_zerosBehind := ⟨kU_of (i := 835) (by rfl) rfl, ⟨by decide +kernel, by decide +kernel, by decide +kernel⟩, by decide +kernel, kU_of (i := 87) (by rfl) rfl⟩
set_option maxRecDepth 100000 in
theorem okX7_hide : kOK mX7_hide := ⟨kU_of (i := 843) (by rfl) rfl, ⟨by decide +kernel, by decide +kernel, by decide +kernel⟩, by decide +kernel, kU_of (i := 87) (by rfl) rfl⟩
set_option maxRecDepth 100000 in
theorem okX8_init : kOK mX8_init := ⟨kU_of (i := 204) (by rfl) rfl, ⟨by decide +kernel, by decide +kernel, by decide +kernel⟩, by decide +kernel, kU_of (i := 88) (by rfl) rfl⟩
set_option maxRecDepth 100000 in
theorem okX8_make : kOK mX8_make := ⟨kU_of (i := 695) (by rfl) rfl, ⟨by decide +kernel, by decide +kernel, by decide +kernel⟩, by decide +kernel, kU_of (i := 88) (by rfl) rfl⟩
set_option maxRecDepth 100000 in
theorem okX8_fillFirst : kOK mX8_fillFirst := ⟨kU_of (i := 699) (by rfl) rfl, ⟨by decide +kernel, by decide +kernel, by decide +kernel⟩, by decide +kernel, kU_of (i := 88) (by rfl) rfl⟩
set_option maxRecDepth 100000 in
theorem okX8_quarter : kOK mX8_quarter := ⟨kU_of (i := 711) (by rfl) rfl, ⟨by decide +kernel, by decide +kernel, by decide +kernel⟩, by decide +kernel, kU_of (i := 88) (by rfl) rfl⟩
set_option maxRecDepth 100000 in
theorem okX9_init : kOK mX9_init := ⟨kU_of (i := 222) (by rfl) rfl, ⟨by decide +kernel, by decide +kernel, by decide +kernel⟩, by decide +kernel, kU_of (i := 89) (by rfl) rfl⟩
set_option maxRecDepth 100000 in
theorem okX9_make : kOK mX9_make := ⟨kU_of (i := 723) (by rfl) rfl, ⟨by decide +kernel, by decide +kernel, by decide +kernel⟩, by decide +kernel, kU_of (i := 89) (by rfl) rfl⟩
set_option maxRecDepth 100000 in
theorem okX9_readFactor : kOK mX9_readFactor := ⟨kU_of (i := 727) (by rfl) rfl, ⟨by decide +kernel, by decide +kernel, by decide +kernel⟩, by decide +kernel, kU_of (i := 89) (by rfl) rfl⟩
set_option maxRecDepth 100000 in
theorem okX9_addPiece : kOK mX9_addPiece := ⟨kU_of (i := 737) (by rfl) rfl, ⟨by decide +kernel, by decide +kernel, by decide +kernel⟩, by decide +kernel, kU_of (i := 89) (by rfl) rfl⟩
set_option maxRecDepth 100000 in
theorem okX9_multiplyByFactor : kOK mX9_multiplyByFactor := ⟨kU_of (i := 744) (by rfl) rfl, ⟨by decide +kernel, by decide +kernel, by decide +kernel⟩, by decide +kernel, kU_of (i := 89) (by rfl) rfl⟩
set_option maxRecDepth 100000 in
theorem okX9_carry : kOK mX9_carry := ⟨kU_of (i := 749) (by rfl) rfl, ⟨by decide +kernel, by decide +kernel, by decide +kernel⟩, by decide +kernel, kU_of (i := 89) (by rfl) rfl⟩
set_option maxRecDepth 100000 in
theorem okX9_settle : kOK mX9_settle := ⟨kU_of (i := 754) (by rfl) rfl, ⟨by decide +kernel, by decide +kernel, by decide +kernel⟩, by decide +kernel, kU_of (i := 89) (by rfl) rfl⟩
set_option maxRecDepth 100000 in
theorem okX10_init : kOK mX10_init := ⟨kU_of (i := 268) (by rfl) rfl, ⟨by decide +kernel, by decide +kernel, by decide +kernel⟩, by decide +kernel, kU_of (i := 91) (by rfl) rfl⟩
set_option maxRecDepth 100000 in
theorem okX10_at : kOK mX10_at := ⟨kU_of (i := 828) (by rfl) rfl, ⟨by decide +kernel, by decide +kernel, by decide +kernel⟩, by decide +kernel, kU_of (i := 91) (by rfl) rfl⟩
set_option maxRecDepth 100000 in
theorem okX10_append : kOK mX10_append := ⟨kU_of (i := 824) (by rfl) rfl, ⟨by decide +kernel, by decide +kernel, by decide +kernel⟩, by decide +kernel, kU_of (i := 91) (by rfl) rfl⟩
set_option maxRecDepth 100000 in
theorem okX10_removeFirst : kOK mX10_removeFirst := ⟨kU_of (i := 870) (by rfl) rfl, ⟨by decide +kernel, by decide +kernel, by decide +kernel⟩, by decide +kernel, kU_of (i := 91) (by rfl) rfl⟩
set_option maxRecDepth 100000 in
theorem okX11_init : kOK mX11_init := ⟨kU_of (i := 110) (by rfl) rfl, ⟨by decide +kernel, by decide +kernel, by decide +kernel⟩, by decide +kernel, kU_of (i := 83) (by rfl) rfl⟩
set_option maxRecDepth 100000 in
theorem okX11_type : kOK mX11_type := ⟨kU_of (i := 464) (by rfl) rfl, ⟨by decide +kernel, by decide +kernel, by decide +kernel⟩, by decide +kernel, kU_of (i := 83) (by rfl) rfl⟩
set_option maxRecDepth 100000 in
theorem okX11_set : kOK mX11_set := ⟨kU_of (i := 533) (by rfl) rfl, ⟨by decide +kernel, by decide +kernel, by decide +kernel⟩, by decide +kernel, kU_of (i := 83) (by rfl) rfl⟩
set_option maxRecDepth 100000 in
theorem okX11_multiply : kOK mX11_multiply := ⟨kU_of (i := 624) (by rfl) rfl, ⟨by decide +kernel, by decide +kernel, by decide +kernel⟩, by decide +kernel, kU_of (i := 83) (by rfl) rfl⟩
set_option maxRecDepth 100000 in
theorem okX11_hash : kOK mX11_hash := ⟨kU_of (i := 476) (by rfl) rfl, ⟨by decide +kernel, by decide +kernel, by decide +kernel⟩, by decide +kernel, kU_of (i := 83) (by rfl) rfl⟩
set_option maxRecDepth 100000 in
theorem okX11_stream : kOK mX11_stream := ⟨kU_of (i := 691) (by rfl) rfl, ⟨by decide +kernel, by decide +kernel, by decide +kernel⟩, by decide +kernel, kU_of (i := 83) (by rfl) rfl⟩
set_option maxRecDepth 100000 in
theorem okX11_tag : kOK mX11_tag := ⟨kU_of (i := 719) (by rfl) rfl, ⟨by decide +kernel, by decide +kernel, by decide +kernel⟩, by decide +kernel, kU_of (i := 83) (by rfl) rfl⟩
set_option maxRecDepth 100000 in
theorem okX11_out : kOK mX11_out := ⟨kU_of (i := 762) (by rfl) rfl, ⟨by decide +kernel, by decide +kernel, by decide +kernel⟩, by decide +kernel, kU_of (i := 83) (by rfl) rfl⟩
set_option maxRecDepth 100000 in
theorem okX11_begin : kOK mX11_begin := ⟨kU_of (i := 778) (by rfl) rfl, ⟨by decide +kernel, by decide +kernel, by decide +kernel⟩, by decide +kernel, kU_of (i := 83) (by rfl) rfl⟩
set_option maxRecDepth 100000 in
theorem okX11_send : kOK mX11_send := ⟨kU_of (i := 852) (by rfl) rfl, ⟨by decide +kernel, by decide +kernel, by decide +kernel⟩, by decide +kernel, kU_of (i := 83) (by rfl) rfl⟩
set_option maxRecDepth 100000 in
theorem okX11_come : kOK mX11_come := ⟨kU_of (i := 862) (by rfl) rfl, ⟨by decide +kernel, by decide +kernel, by decide +kernel⟩, by decide +kernel, kU_of (i := 83) (by rfl) rfl⟩
set_option maxRecDepth 100000 in
theorem okX11_run : kOK mX11_run := ⟨kU_of (i := 968) (by rfl) rfl, ⟨by decide +kernel, by decide +kernel, by decide +kernel⟩, by decide +kernel, kU_of (i := 83) (by rfl) rfl⟩
set_option maxRecDepth 100000 in
theorem okX11_packet : kOK mX11_packet := ⟨kU_of (i := 975) (by rfl) rfl, ⟨by decide +kernel, by decide +kernel, by decide +kernel⟩, by decide +kernel, kU_of (i := 83) (by rfl) rfl⟩
set_option maxRecDepth 100000 in
theorem okX11_damage : kOK mX11_damage := ⟨kU_of (i := 986) (by rfl) rfl, ⟨by decide +kernel, by decide +kernel, by decide +kernel⟩, by decide +kernel, kU_of (i := 83) (by rfl) rfl⟩
set_option maxRecDepth 100000 in
theorem okX11_got : kOK mX11_got := ⟨kU_of (i := 993) (by rfl) rfl, ⟨by decide +kernel, by decide +kernel, by decide +kernel⟩, by decide +kernel, kU_of (i := 83) (by rfl) rfl⟩
set_option maxRecDepth 100000 in
theorem okX11_about : kOK mX11_about := ⟨kU_of (i := 1000) (by rfl) rfl, ⟨by decide +kernel, by decide +kernel, by decide +kernel⟩, by decide +kernel, kU_of (i := 83) (by rfl) rfl⟩
set_option maxRecDepth 100000 in
theorem okX11_session : kOK mX11_session := ⟨kU_of (i := 1007) (by rfl) rfl, ⟨by decide +kernel, by decide +kernel, by decide +kernel⟩, by decide +kernel, kU_of (i := 83) (by rfl) rfl⟩
set_option maxRecDepth 100000 in
theorem okX11_takeTape : kOK mX11_takeTape := ⟨kU_of (i := 480) (by rfl) rfl, ⟨by decide +kernel, by decide +kernel, by decide +kernel⟩, by decide +kernel, kU_of (i := 83) (by rfl) rfl⟩
set_option maxRecDepth 100000 in
theorem okX11_settable : kOK mX11_settable := ⟨kU_of (i := 601) (by rfl) rfl, ⟨by decide +kernel, by decide +kernel, by decide +kernel⟩, by decide +kernel, kU_of (i := 83) (by rfl) rfl⟩
set_option maxRecDepth 100000 in
theorem okX11_endOf : kOK mX11_endOf := ⟨kU_of (i := 782) (by rfl) rfl, ⟨by decide +kernel, by decide +kernel, by decide +kernel⟩, by decide +kernel, kU_of (i := 83) (by rfl) rfl⟩
set_option maxRecDepth 100000 in
theorem okX11_packetOf : kOK mX11_packetOf := ⟨kU_of (i := 978) (by rfl) rfl, ⟨by decide +kernel, by decide +kernel, by decide +kernel⟩, by decide +kernel, kU_of (i := 83) (by rfl) rfl⟩
set_option maxRecDepth 100000 in
theorem okX11_byteOf : kOK mX11_byteOf := ⟨kU_of (i := 765) (by rfl) rfl, ⟨by decide +kernel, by decide +kernel, by decide +kernel⟩, by decide +kernel, kU_of (i := 83) (by rfl) rfl⟩
set_option maxRecDepth 100000 in
theorem okX11_maySend : kOK mX11_maySend := ⟨kU_of (i := 855) (by rfl) rfl, ⟨by decide +kernel, by decide +kernel, by decide +kernel⟩, by decide +kernel, kU_of (i := 83) (by rfl) rfl⟩
set_option maxRecDepth 100000 in
theorem okX11_emit : kOK mX11_emit := ⟨kU_of (i := 820) (by rfl) rfl, ⟨by decide +kernel, by decide +kernel, by decide +kernel⟩, by decide +kernel, kU_of (i := 83) (by rfl) rfl⟩
set_option maxRecDepth 100000 in
theorem okX11_writeSingle : kOK mX11_writeSingle := ⟨kU_of (i := 895) (by rfl) rfl, ⟨by decide +kernel, by decide +kernel, by decide +kernel⟩, by decide +kernel, kU_of (i := 83) (by rfl) rfl⟩
set_option maxRecDepth 100000 in
theorem okX11_giveUp : kOK mX11_giveUp := ⟨kU_of (i := 891) (by rfl) rfl, ⟨by decide +kernel, by decide +kernel, by decide +kernel⟩, by decide +kernel, kU_of (i := 83) (by rfl) rfl⟩
set_option maxRecDepth 100000 in
theorem okX11_deliver : kOK mX11_deliver := ⟨kU_of (i := 866) (by rfl) rfl, ⟨by decide +kernel, by decide +kernel, by decide +kernel⟩, by decide +kernel, kU_of (i := 83) (by rfl) rfl⟩
set_option maxRecDepth 100000 in
theorem okX11_isInPlace : kOK mX11_isInPlace := ⟨kU_of (i := 899) (by rfl) rfl, ⟨by decide +kernel, by decide +kernel, by decide +kernel⟩, by decide +kernel, kU_of (i := 83) (by rfl) rfl⟩
set_option maxRecDepth 100000 in
theorem okX11_answerUnknown : kOK mX11_answerUnknown := ⟨kU_of (i := 960) (by rfl) rfl, ⟨by decide +kernel, by decide +kernel, by decide +kernel⟩, by decide +kernel, kU_of (i := 83) (by rfl) rfl⟩
set_option maxRecDepth 100000 in
theorem okX11_writeInit : kOK mX11_writeInit := ⟨kU_of (i := 816) (by rfl) rfl, ⟨by decide +kernel, by decide +kernel, by decide +kernel⟩, by decide +kernel, kU_of (i := 83) (by rfl) rfl⟩
set_option maxRecDepth 100000 in
theorem okX11_onInit : kOK mX11_onInit := ⟨kU_of (i := 904) (by rfl) rfl, ⟨by decide +kernel, by decide +kernel, by decide +kernel⟩, by decide +kernel, kU_of (i := 83) (by rfl) rfl⟩
set_option maxRecDepth 100000 in
theorem okX11_takeSecret : kOK mX11_takeSecret := ⟨kU_of (i := 908) (by rfl) rfl, ⟨by decide +kernel, by decide +kernel, by decide +kernel⟩, by decide +kernel, kU_of (i := 83) (by rfl) rfl⟩
set_option maxRecDepth 100000 in
theorem okX11_onRequest : kOK mX11_onRequest := ⟨kU_of (i := 927) (by rfl) rfl, ⟨by decide +kernel, by decide +kernel, by decide +kernel⟩, by decide +kernel, kU_of (i := 83) (by rfl) rfl⟩
set_option maxRecDepth 100000 in
theorem okX11_acceptReply : kOK mX11_acceptReply := ⟨kU_of (i := 955) (by rfl) rfl, ⟨by decide +kernel, by decide +kernel, by decide +kernel⟩, by decide +kernel, kU_of (i := 83) (by rfl) rfl⟩
set_option maxRecDepth 100000 in
theorem okX11_startAgreement : kOK mX11_startAgreement := ⟨kU_of (i := 931) (by rfl) rfl, ⟨by decide +kernel, by decide +kernel, by decide +kernel⟩, by decide +kernel, kU_of (i := 83) (by rfl) rfl⟩
set_option maxRecDepth 100000 in
theorem okX11_finishAgreement : kOK mX11_finishAgreement := ⟨kU_of (i := 935) (by rfl) rfl, ⟨by decide +kernel, by decide +kernel, by decide +kernel⟩, by decide +kernel, kU_of (i := 83) (by rfl) rfl⟩
set_option maxRecDepth 100000 in
theorem okX11_makeProof : kOK mX11_makeProof := ⟨kU_of (i := 939) (by rfl) rfl, ⟨by decide +kernel, by decide +kernel, by decide +kernel⟩, by decide +kernel, kU_of (i := 83) (by rfl) rfl⟩
set_option maxRecDepth 100000 in
theorem okX11_turnToNewKeys : kOK mX11_turnToNewKeys := ⟨kU_of (i := 943) (by rfl) rfl, ⟨by decide +kernel, by decide +kernel, by decide +kernel⟩, by decide +kernel, kU_of (i := 83) (by rfl) rfl⟩
set_option maxRecDepth 100000 in
theorem okX11_makeKey : kOK mX11_makeKey := ⟨kU_of (i := 947) (by rfl) rfl, ⟨by decide +kernel, by decide +kernel, by decide +kernel⟩, by decide +kernel, kU_of (i := 83) (by rfl) rfl⟩
set_option maxRecDepth 100000 in
theorem okJ7_fill_d0a16 : kOK mJ7_fill_d0a16 := ⟨kU_of (i := 640) (by rfl) rfl, ⟨by decide +kernel, by decide +kernel, by decide +kernel⟩, by decide +kernel, kU_of (i := 102) (by rfl) rfl⟩
set_option maxRecDepth 100000 in
theorem okJ7_fill_53178 : kOK mJ7_fill_53178 := ⟨kU_of (i := 740) (by rfl) rfl, ⟨by decide +kernel, by decide +kernel, by decide +kernel⟩, by decide +kernel, kU_of (i := 102) (by rfl) rfl⟩
