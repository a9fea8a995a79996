set_option maxRecDepth 100000 in
theorem cw_L_68 : kCw RL 68 mX12_init 0 := ⟨kU_of (i := 1010) (by decide +kernel) rfl, okX12_init, by decide +kernel⟩
set_option maxRecDepth 100000 in
theorem cw_X12_142 : kCw RX12 142 mX12_rootOf 2 := ⟨kU_of (i := 1014) (by decide +kernel) rfl, okX12_rootOf, by decide +kernel⟩
set_option maxRecDepth 100000 in
theorem cw_X12_154 : kCw RX12 154 mX12_isRoot 3 := ⟨kU_of (i := 1018) (by decide +kernel) rfl, okX12_isRoot, by decide +kernel⟩
set_option maxRecDepth 100000 in
theorem cw_L_82 : kCw RL 82 mX12_thrown 0 := ⟨kU_of (i := 1174) (by decide +kernel) rfl, okX12_thrown, by decide +kernel⟩
set_option maxRecDepth 100000 in
theorem cw_L_75 : kCw RL 75 mX12_type 2 := ⟨kU_of (i := 1178) (by decide +kernel) rfl, okX12_type, by decide +kernel⟩
set_option maxRecDepth 100000 in
theorem cw_L_81 : kCw RL 81 mX12_set 1 := ⟨kU_of (i := 1182) (by decide +kernel) rfl, okX12_set, by decide +kernel⟩
set_option maxRecDepth 100000 in
theorem cw_X12_263 : kCw RX12 263 mX12_taken 0 := ⟨kU_of (i := 1186) (by decide +kernel) rfl, okX12_taken, by decide +kernel⟩
set_option maxRecDepth 100000 in
theorem cw_X12_267 : kCw RX12 267 mX12_row 1 := ⟨kU_of (i := 1190) (by decide +kernel) rfl, okX12_row, by decide +kernel⟩
set_option maxRecDepth 100000 in
theorem cw_L_89 : kCw RL 89 mX12_multiply 0 := ⟨kU_of (i := 1193) (by decide +kernel) rfl, okX12_multiply, by decide +kernel⟩
set_option maxRecDepth 100000 in
theorem cw_X12_270 : kCw RX12 270 mX12_pointTimes 6 := ⟨kU_of (i := 1197) (by decide +kernel) rfl, okX12_pointTimes, by decide +kernel⟩
set_option maxRecDepth 100000 in
theorem cw_X12_170 : kCw RX12 170 mX12_putSmall 2 := ⟨kU_of (i := 1201) (by decide +kernel) rfl, okX12_putSmall, by decide +kernel⟩
set_option maxRecDepth 100000 in
theorem cw_X12_174 : kCw RX12 174 mX12_bitOf 3 := ⟨kU_of (i := 1205) (by decide +kernel) rfl, okX12_bitOf, by decide +kernel⟩
set_option maxRecDepth 100000 in
theorem cw_X12_178 : kCw RX12 178 mX12_copy 2 := ⟨kU_of (i := 1208) (by decide +kernel) rfl, okX12_copy, by decide +kernel⟩
set_option maxRecDepth 100000 in
theorem cw_X12_185 : kCw RX12 185 mX12_turnRound 1 := ⟨kU_of (i := 1214) (by decide +kernel) rfl, okX12_turnRound, by decide +kernel⟩
set_option maxRecDepth 100000 in
theorem cw_X12_189 : kCw RX12 189 mX12_add 3 := ⟨kU_of (i := 1218) (by decide +kernel) rfl, okX12_add, by decide +kernel⟩
set_option maxRecDepth 100000 in
theorem cw_X12_162 : kCw RX12 162 mX12_carry 1 := ⟨kU_of (i := 1222) (by decide +kernel) rfl, okX12_carry, by decide +kernel⟩
set_option maxRecDepth 100000 in
theorem cw_X12_193 : kCw RX12 193 mX12_subtract 3 := ⟨kU_of (i := 1228) (by decide +kernel) rfl, okX12_subtract, by decide +kernel⟩
set_option maxRecDepth 100000 in
theorem cw_X12_196 : kCw RX12 196 mX12_times 3 := ⟨kU_of (i := 1234) (by decide +kernel) rfl, okX12_times, by decide +kernel⟩
set_option maxRecDepth 100000 in
theorem cw_X12_199 : kCw RX12 199 mX12_settle 1 := ⟨kU_of (i := 1238) (by decide +kernel) rfl, okX12_settle, by decide +kernel⟩
set_option maxRecDepth 100000 in
theorem cw_X12_274 : kCw RX12 274 mX12_tell 3 := ⟨kU_of (i := 1243) (by decide +kernel) rfl, okX12_tell, by decide +kernel⟩
set_option maxRecDepth 100000 in
theorem cw_L_93 : kCw RL 93 mX12_hash 0 := ⟨kU_of (i := 1247) (by decide +kernel) rfl, okX12_hash, by decide +kernel⟩
set_option maxRecDepth 100000 in
theorem cw_X12_278 : kCw RX12 278 mX12_hashBegin 0 := ⟨kU_of (i := 1251) (by decide +kernel) rfl, okX12_hashBegin, by decide +kernel⟩
set_option maxRecDepth 100000 in
theorem cw_X12_281 : kCw RX12 281 mX12_hashAdd 3 := ⟨kU_of (i := 1255) (by decide +kernel) rfl, okX12_hashAdd, by decide +kernel⟩
set_option maxRecDepth 100000 in
theorem cw_X12_284 : kCw RX12 284 mX12_hashEnd 2 := ⟨kU_of (i := 1259) (by decide +kernel) rfl, okX12_hashEnd, by decide +kernel⟩
set_option maxRecDepth 100000 in
theorem cw_X12_214 : kCw RX12 214 mX12_hashBlock 1 := ⟨kU_of (i := 1265) (by decide +kernel) rfl, okX12_hashBlock, by decide +kernel⟩
set_option maxRecDepth 100000 in
theorem cw_X12_207 : kCw RX12 207 mX12_right 2 := ⟨kU_of (i := 1269) (by decide +kernel) rfl, okX12_right, by decide +kernel⟩
set_option maxRecDepth 100000 in
theorem cw_L_97 : kCw RL 97 mX12_stream 2 := ⟨kU_of (i := 1272) (by decide +kernel) rfl, okX12_stream, by decide +kernel⟩
set_option maxRecDepth 100000 in
theorem cw_X12_237 : kCw RX12 237 mX12_makeStream 4 := ⟨kU_of (i := 1276) (by decide +kernel) rfl, okX12_makeStream, by decide +kernel⟩
set_option maxRecDepth 100000 in
theorem cw_X12_225 : kCw RX12 225 mX12_little 2 := ⟨kU_of (i := 1284) (by decide +kernel) rfl, okX12_little, by decide +kernel⟩
set_option maxRecDepth 100000 in
theorem cw_X12_229 : kCw RX12 229 mX12_turned 1 := ⟨kU_of (i := 1287) (by decide +kernel) rfl, okX12_turned, by decide +kernel⟩
set_option maxRecDepth 100000 in
theorem cw_X12_233 : kCw RX12 233 mX12_quarter 4 := ⟨kU_of (i := 1291) (by decide +kernel) rfl, okX12_quarter, by decide +kernel⟩
set_option maxRecDepth 100000 in
theorem cw_X12_217 : kCw RX12 217 mX12_left 2 := ⟨kU_of (i := 1295) (by decide +kernel) rfl, okX12_left, by decide +kernel⟩
set_option maxRecDepth 100000 in
theorem cw_L_100 : kCw RL 100 mX12_tag 0 := ⟨kU_of (i := 1298) (by decide +kernel) rfl, okX12_tag, by decide +kernel⟩
set_option maxRecDepth 100000 in
theorem cw_X12_288 : kCw RX12 288 mX12_seal 5 := ⟨kU_of (i := 1302) (by decide +kernel) rfl, okX12_seal, by decide +kernel⟩
set_option maxRecDepth 100000 in
theorem cw_X12_248 : kCw RX12 248 mX12_counts 1 := ⟨kU_of (i := 1306) (by decide +kernel) rfl, okX12_counts, by decide +kernel⟩
set_option maxRecDepth 100000 in
theorem cw_X12_245 : kCw RX12 245 mX12_tagCarry 0 := ⟨kU_of (i := 1309) (by decide +kernel) rfl, okX12_tagCarry, by decide +kernel⟩
set_option maxRecDepth 100000 in
theorem cw_X12_252 : kCw RX12 252 mX12_tagTimes 0 := ⟨kU_of (i := 1315) (by decide +kernel) rfl, okX12_tagTimes, by decide +kernel⟩
set_option maxRecDepth 100000 in
theorem cw_L_104 : kCw RL 104 mX12_out 1 := ⟨kU_of (i := 1320) (by decide +kernel) rfl, okX12_out, by decide +kernel⟩
set_option maxRecDepth 100000 in
theorem cw_L_113 : kCw RL 113 mX12_come 1 := ⟨kU_of (i := 1324) (by decide +kernel) rfl, okX12_come, by decide +kernel⟩
set_option maxRecDepth 100000 in
theorem cw_X12_374 : kCw RX12 374 mX12_comes 1 := ⟨kU_of (i := 1328) (by decide +kernel) rfl, okX12_comes, by decide +kernel⟩
set_option maxRecDepth 100000 in
theorem cw_X12_316 : kCw RX12 316 mX12_dropFirst 1 := ⟨kU_of (i := 1332) (by decide +kernel) rfl, okX12_dropFirst, by decide +kernel⟩
set_option maxRecDepth 100000 in
theorem cw_X12_364 : kCw RX12 364 mX12_unpack 1 := ⟨kU_of (i := 1336) (by decide +kernel) rfl, okX12_unpack, by decide +kernel⟩
set_option maxRecDepth 100000 in
theorem cw_X12_303 : kCw RX12 303 mX12_sealPacket 5 := ⟨kU_of (i := 1340) (by decide +kernel) rfl, okX12_sealPacket, by decide +kernel⟩
set_option maxRecDepth 100000 in
theorem cw_X12_299 : kCw RX12 299 mX12_hide 6 := ⟨kU_of (i := 1344) (by decide +kernel) rfl, okX12_hide, by decide +kernel⟩
set_option maxRecDepth 100000 in
theorem cw_X12_295 : kCw RX12 295 mX12_zerosOf 2 := ⟨kU_of (i := 1349) (by decide +kernel) rfl, okX12_zerosOf, by decide +kernel⟩
set_option maxRecDepth 100000 in
theorem cw_X12_367 : kCw RX12 367 mX12_hasPlace 1 := ⟨kU_of (i := 1352) (by decide +kernel) rfl, okX12_hasPlace, by decide +kernel⟩
set_option maxRecDepth 100000 in
theorem cw_X12_370 : kCw RX12 370 mX12_placed 2 := ⟨kU_of (i := 1355) (by decide +kernel) rfl, okX12_placed, by decide +kernel⟩
set_option maxRecDepth 100000 in
theorem cw_X12_339 : kCw RX12 339 mX12_initComes 1 := ⟨kU_of (i := 1359) (by decide +kernel) rfl, okX12_initComes, by decide +kernel⟩
set_option maxRecDepth 100000 in
theorem cw_X12_354 : kCw RX12 354 mX12_postInit 1 := ⟨kU_of (i := 1363) (by decide +kernel) rfl, okX12_postInit, by decide +kernel⟩
set_option maxRecDepth 100000 in
theorem cw_X12_307 : kCw RX12 307 mX12_say 1 := ⟨kU_of (i := 1367) (by decide +kernel) rfl, okX12_say, by decide +kernel⟩
set_option maxRecDepth 100000 in
theorem cw_X12_324 : kCw RX12 324 mX12_sayRow 3 := ⟨kU_of (i := 1371) (by decide +kernel) rfl, okX12_sayRow, by decide +kernel⟩
set_option maxRecDepth 100000 in
theorem cw_X12_310 : kCw RX12 310 mX12_post 1 := ⟨kU_of (i := 1375) (by decide +kernel) rfl, okX12_post, by decide +kernel⟩
set_option maxRecDepth 100000 in
theorem cw_X12_327 : kCw RX12 327 mX12_takeSecret 1 := ⟨kU_of (i := 1379) (by decide +kernel) rfl, okX12_takeSecret, by decide +kernel⟩
set_option maxRecDepth 100000 in
theorem cw_X12_342 : kCw RX12 342 mX12_answer 0 := ⟨kU_of (i := 1383) (by decide +kernel) rfl, okX12_answer, by decide +kernel⟩
set_option maxRecDepth 100000 in
theorem cw_X12_330 : kCw RX12 330 mX12_digest 3 := ⟨kU_of (i := 1387) (by decide +kernel) rfl, okX12_digest, by decide +kernel⟩
set_option maxRecDepth 100000 in
theorem cw_X12_333 : kCw RX12 333 mX12_makeKeys 1 := ⟨kU_of (i := 1391) (by decide +kernel) rfl, okX12_makeKeys, by decide +kernel⟩
set_option maxRecDepth 100000 in
theorem cw_X12_336 : kCw RX12 336 mX12_postNew 1 := ⟨kU_of (i := 1395) (by decide +kernel) rfl, okX12_postNew, by decide +kernel⟩
set_option maxRecDepth 100000 in
theorem cw_X12_313 : kCw RX12 313 mX12_postOne 2 := ⟨kU_of (i := 1399) (by decide +kernel) rfl, okX12_postOne, by decide +kernel⟩
set_option maxRecDepth 100000 in
theorem cw_X12_345 : kCw RX12 345 mX12_replyComes 1 := ⟨kU_of (i := 1403) (by decide +kernel) rfl, okX12_replyComes, by decide +kernel⟩
set_option maxRecDepth 100000 in
theorem cw_X12_357 : kCw RX12 357 mX12_isProved 0 := ⟨kU_of (i := 1407) (by decide +kernel) rfl, okX12_isProved, by decide +kernel⟩
set_option maxRecDepth 100000 in
theorem cw_X12_361 : kCw RX12 361 mX12_giveUp 1 := ⟨kU_of (i := 1411) (by decide +kernel) rfl, okX12_giveUp, by decide +kernel⟩
set_option maxRecDepth 100000 in
theorem cw_X12_348 : kCw RX12 348 mX12_newComes 1 := ⟨kU_of (i := 1415) (by decide +kernel) rfl, okX12_newComes, by decide +kernel⟩
set_option maxRecDepth 100000 in
theorem cw_X12_351 : kCw RX12 351 mX12_dataComes 1 := ⟨kU_of (i := 1419) (by decide +kernel) rfl, okX12_dataComes, by decide +kernel⟩
set_option maxRecDepth 100000 in
theorem cw_L_116 : kCw RL 116 mX12_run 1 := ⟨kU_of (i := 1423) (by decide +kernel) rfl, okX12_run, by decide +kernel⟩
set_option maxRecDepth 100000 in
theorem cw_L_107 : kCw RL 107 mX12_begin 1 := ⟨kU_of (i := 1427) (by decide +kernel) rfl, okX12_begin, by decide +kernel⟩
set_option maxRecDepth 100000 in
theorem cw_L_110 : kCw RL 110 mX12_send 1 := ⟨kU_of (i := 1431) (by decide +kernel) rfl, okX12_send, by decide +kernel⟩
set_option maxRecDepth 100000 in
theorem cw_L_120 : kCw RL 120 mX12_packet 3 := ⟨kU_of (i := 1435) (by decide +kernel) rfl, okX12_packet, by decide +kernel⟩
set_option maxRecDepth 100000 in
theorem cw_X12_377 : kCw RX12 377 mX12_isPacket 2 := ⟨kU_of (i := 1439) (by decide +kernel) rfl, okX12_isPacket, by decide +kernel⟩
set_option maxRecDepth 100000 in
theorem cw_L_124 : kCw RL 124 mX12_damage 4 := ⟨kU_of (i := 1443) (by decide +kernel) rfl, okX12_damage, by decide +kernel⟩
set_option maxRecDepth 100000 in
theorem cw_L_128 : kCw RL 128 mX12_got 2 := ⟨kU_of (i := 1447) (by decide +kernel) rfl, okX12_got, by decide +kernel⟩
set_option maxRecDepth 100000 in
theorem cw_L_131 : kCw RL 131 mX12_about 2 := ⟨kU_of (i := 1451) (by decide +kernel) rfl, okX12_about, by decide +kernel⟩
set_option maxRecDepth 100000 in
theorem cw_L_134 : kCw RL 134 mX12_session 2 := ⟨kU_of (i := 1455) (by decide +kernel) rfl, okX12_session, by decide +kernel⟩
