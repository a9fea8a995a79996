set_option maxRecDepth 100000 in
theorem okX12_init : kOK mX12_init := ⟨kU_of (i := 1012) (by rfl) rfl, ⟨by decide +kernel, by decide +kernel, by decide +kernel⟩, by decide +kernel, kU_of (i := 94) (by rfl) rfl⟩
set_option maxRecDepth 100000 in
theorem okX12_thrown : kOK mX12_thrown := ⟨kU_of (i := 1177) (by rfl) rfl, ⟨by decide +kernel, by decide +kernel, by decide +kernel⟩, by decide +kernel, kU_of (i := 94) (by rfl) rfl⟩
set_option maxRecDepth 100000 in
theorem okX12_row : kOK mX12_row := ⟨kU_of (i := 1192) (by rfl) rfl, ⟨by decide +kernel, by decide +kernel, by decide +kernel⟩, by decide +kernel, kU_of (i := 94) (by rfl) rfl⟩
set_option maxRecDepth 100000 in
theorem okX12_isRoot : kOK mX12_isRoot := ⟨kU_of (i := 1021) (by rfl) rfl, ⟨by decide +kernel, by decide +kernel, by decide +kernel⟩, by decide +kernel, kU_of (i := 94) (by rfl) rfl⟩
set_option maxRecDepth 100000 in
theorem okX12_rootOf : kOK mX12_rootOf := ⟨kU_of (i := 1017) (by rfl) rfl, ⟨by decide +kernel, by decide +kernel, by decide +kernel⟩, by decide +kernel, kU_of (i := 94) (by rfl) rfl⟩
set_option maxRecDepth 100000 in
theorem okX12_putSmall : kOK mX12_putSmall := ⟨kU_of (i := 1204) (by rfl) rfl, ⟨by decide +kernel, by decide +kernel, by decide +kernel⟩, by decide +kernel, kU_of (i := 94) (by rfl) rfl⟩
set_option maxRecDepth 100000 in
theorem okX12_copy : kOK mX12_copy := ⟨kU_of (i := 1211) (by rfl) rfl, ⟨by decide +kernel, by decide +kernel, by decide +kernel⟩, by decide +kernel, kU_of (i := 94) (by rfl) rfl⟩
set_option maxRecDepth 100000 in
theorem okX12_carry : kOK mX12_carry := ⟨kU_of (i := 1225) (by rfl) rfl, ⟨by decide +kernel, by decide +kernel, by decide +kernel⟩, by decide +kernel, kU_of (i := 94) (by rfl) rfl⟩
set_option maxRecDepth 100000 in
theorem okX12_add : kOK mX12_add := ⟨kU_of (i := 1221) (by rfl) rfl, ⟨by decide +kernel, by decide +kernel, by decide +kernel⟩, by decide +kernel, kU_of (i := 94) (by rfl) rfl⟩
set_option maxRecDepth 100000 in
theorem okX12_subtract : kOK mX12_subtract := ⟨kU_of (i := 1231) (by rfl) rfl, ⟨by decide +kernel, by decide +kernel, by decide +kernel⟩, by decide +kernel, kU_of (i := 94) (by rfl) rfl⟩
set_option maxRecDepth 100000 in
theorem okX12_times : kOK mX12_times := ⟨kU_of (i := 1237) (by rfl) rfl, ⟨by decide +kernel, by decide +kernel, by decide +kernel⟩, by decide +kernel, kU_of (i := 94) (by rfl) rfl⟩
set_option maxRecDepth 100000 in
theorem okX12_bitOf : kOK mX12_bitOf := ⟨kU_of (i := 1207) (by rfl) rfl, ⟨by decide +kernel, by decide +kernel, by decide +kernel⟩, by decide +kernel, kU_of (i := 94) (by rfl) rfl⟩
set_option maxRecDepth 100000 in
theorem okX12_pointTimes : kOK mX12_pointTimes := ⟨kU_of (i := 1200) (by rfl) rfl, ⟨by decide +kernel, by decide +kernel, by decide +kernel⟩, by decide +kernel, kU_of (i := 94) (by rfl) rfl⟩
set_option maxRecDepth 100000 in
theorem okX12_turnRound : kOK mX12_turnRound := ⟨kU_of (i := 1217) (by rfl) rfl, ⟨by decide +kernel, by decide +kernel, by decide +kernel⟩, by decide +kernel, kU_of (i := 94) (by rfl) rfl⟩
set_option maxRecDepth 100000 in
theorem okX12_settle : kOK mX12_settle := ⟨kU_of (i := 1241) (by rfl) rfl, ⟨by decide +kernel, by decide +kernel, by decide +kernel⟩, by decide +kernel, kU_of (i := 94) (by rfl) rfl⟩
set_option maxRecDepth 100000 in
theorem okX12_hashBegin : kOK mX12_hashBegin := ⟨kU_of (i := 1254) (by rfl) rfl, ⟨by decide +kernel, by decide +kernel, by decide +kernel⟩, by decide +kernel, kU_of (i := 94) (by rfl) rfl⟩
set_option maxRecDepth 100000 in
theorem okX12_hashAdd : kOK mX12_hashAdd := ⟨kU_of (i := 1258) (by rfl) rfl, ⟨by decide +kernel, by decide +kernel, by decide +kernel⟩, by decide +kernel, kU_of (i := 94) (by rfl) rfl⟩
set_option maxRecDepth 100000 in
theorem okX12_right : kOK mX12_right := ⟨kU_of (i := 1271) (by rfl) rfl, ⟨by decide +kernel, by decide +kernel, by decide +kernel⟩, by decide +kernel, kU_of (i := 94) (by rfl) rfl⟩
set_option maxRecDepth 100000 in
theorem okX12_left : kOK mX12_left := ⟨kU_of (i := 1297) (by rfl) rfl, ⟨by decide +kernel, by decide +kernel, by decide +kernel⟩, by decide +kernel, kU_of (i := 94) (by rfl) rfl⟩
set_option maxRecDepth 100000 in
theorem okX12_hashBlock : kOK mX12_hashBlock := ⟨kU_of (i := 1268) (by rfl) rfl, ⟨by decide +kernel, by decide +kernel, by decide +kernel⟩, by decide +kernel, kU_of (i := 94) (by rfl) rfl⟩
set_option maxRecDepth 100000 in
theorem okX12_hashEnd : kOK mX12_hashEnd := ⟨kU_of (i := 1262) (by rfl) rfl, ⟨by decide +kernel, by decide +kernel, by decide +kernel⟩, by decide +kernel, kU_of (i := 94) (by rfl) rfl⟩
set_option maxRecDepth 100000 in
theorem okX12_quarter : kOK mX12_quarter := ⟨kU_of (i := 1294) (by rfl) rfl, ⟨by decide +kernel, by decide +kernel, by decide +kernel⟩, by decide +kernel, kU_of (i := 94) (by rfl) rfl⟩
set_option maxRecDepth 100000 in
theorem okX12_little : kOK mX12_little := ⟨kU_of (i := 1286) (by rfl) rfl, ⟨by decide +kernel, by decide +kernel, by decide +kernel⟩, by decide +kernel, kU_of (i := 94) (by rfl) rfl⟩
set_option maxRecDepth 100000 in
theorem okX12_turned : kOK mX12_turned := ⟨kU_of (i := 1289) (by rfl) rfl, ⟨by decide +kernel, by decide +kernel, by decide +kernel⟩, by decide +kernel, kU_of (i := 94) (by rfl) rfl⟩
set_option maxRecDepth 100000 in
theorem okX12_makeStream : kOK mX12_makeStream := ⟨kU_of (i := 1279) (by rfl) rfl, ⟨by decide +kernel, by decide +kernel, by decide +kernel⟩, by decide +kernel, kU_of (i := 94) (by rfl) rfl⟩
set_option maxRecDepth 100000 in
theorem okX12_hide : kOK mX12_hide := ⟨kU_of (i := 1347) (by rfl) rfl, ⟨by decide +kernel, by decide +kernel, by decide +kernel⟩, by decide +kernel, kU_of (i := 94) (by rfl) rfl⟩
set_option maxRecDepth 100000 in
theorem okX12_tagCarry : kOK mX12_tagCarry := ⟨kU_of (i := 1312) (by rfl) rfl, ⟨by decide +kernel, by decide +kernel, by decide +kernel⟩, by decide +kernel, kU_of (i := 94) (by rfl) rfl⟩
set_option maxRecDepth 100000 in
theorem okX12_tagTimes : kOK mX12_tagTimes := ⟨kU_of (i := 1318) (by rfl) rfl, ⟨by decide +kernel, by decide +kernel, by decide +kernel⟩, by decide +kernel, kU_of (i := 94) (by rfl) rfl⟩
set_option maxRecDepth 100000 in
theorem okX12_counts : kOK mX12_counts := ⟨kU_of (i := 1308) (by rfl) rfl, ⟨by decide +kernel, by decide +kernel, by decide +kernel⟩, by decide +kernel, kU_of (i := 94) (by rfl) rfl⟩
set_option maxRecDepth 100000 in
theorem okX12_seal : kOK mX12_seal := ⟨kU_of (i := 1305) (by rfl) rfl, ⟨by decide +kernel, by decide +kernel, by decide +kernel⟩, by decide +kernel, kU_of (i := 94) (by rfl) rfl⟩
set_option maxRecDepth 100000 in
theorem okX12_type : kOK mX12_type := ⟨kU_of (i := 1181) (by rfl) rfl, ⟨by decide +kernel, by decide +kernel, by decide +kernel⟩, by decide +kernel, kU_of (i := 94) (by rfl) rfl⟩
set_option maxRecDepth 100000 in
theorem okX12_taken : kOK mX12_taken := ⟨kU_of (i := 1189) (by rfl) rfl, ⟨by decide +kernel, by decide +kernel, by decide +kernel⟩, by decide +kernel, kU_of (i := 94) (by rfl) rfl⟩
set_option maxRecDepth 100000 in
theorem okX12_tell : kOK mX12_tell := ⟨kU_of (i := 1246) (by rfl) rfl, ⟨by decide +kernel, by decide +kernel, by decide +kernel⟩, by decide +kernel, kU_of (i := 94) (by rfl) rfl⟩
set_option maxRecDepth 100000 in
theorem okX12_set : kOK mX12_set := ⟨kU_of (i := 1185) (by rfl) rfl, ⟨by decide +kernel, by decide +kernel, by decide +kernel⟩, by decide +kernel, kU_of (i := 94) (by rfl) rfl⟩
set_option maxRecDepth 100000 in
theorem okX12_multiply : kOK mX12_multiply := ⟨kU_of (i := 1196) (by rfl) rfl, ⟨by decide +kernel, by decide +kernel, by decide +kernel⟩, by decide +kernel, kU_of (i := 94) (by rfl) rfl⟩
set_option maxRecDepth 100000 in
theorem okX12_hash : kOK mX12_hash := ⟨kU_of (i := 1250) (by rfl) rfl, ⟨by decide +kernel, by decide +kernel, by decide +kernel⟩, by decide +kernel, kU_of (i := 94) (by rfl) rfl⟩
set_option maxRecDepth 100000 in
theorem okX12_stream : kOK mX12_stream := ⟨kU_of (i := 1275) (by rfl) rfl, ⟨by decide +kernel, by decide +kernel, by decide +kernel⟩, by decide +kernel, kU_of (i := 94) (by rfl) rfl⟩
set_option maxRecDepth 100000 in
theorem okX12_tag : kOK mX12_tag := ⟨kU_of (i := 1301) (by rfl) rfl, ⟨by decide +kernel, by decide +kernel, by decide +kernel⟩, by decide +kernel, kU_of (i := 94) (by rfl) rfl⟩
set_option maxRecDepth 100000 in
theorem okX12_out : kOK mX12_out := ⟨kU_of (i := 1323) (by rfl) rfl, ⟨by decide +kernel, by decide +kernel, by decide +kernel⟩, by decide +kernel, kU_of (i := 94) (by rfl) rfl⟩
set_option maxRecDepth 100000 in
theorem okX12_zerosOf : kOK mX12_zerosOf := ⟨kU_of (i := 1351) (by rfl) rfl, ⟨by decide +kernel, by decide +kernel, by decide +kernel⟩, by decide +kernel, kU_of (i := 94) (by rfl) rfl⟩
set_option maxRecDepth 100000 in
theorem okX12_sealPacket : kOK mX12_sealPacket := ⟨kU_of (i := 1343) (by rfl) rfl, ⟨by decide +kernel, by decide +kernel, by decide +kernel⟩, by decide +kernel, kU_of (i := 94) (by rfl) rfl⟩
set_option maxRecDepth 100000 in
theorem okX12_post : kOK mX12_post := ⟨kU_of (i := 1378) (by rfl) rfl, ⟨by decide +kernel, by decide +kernel, by decide +kernel⟩, by decide +kernel, kU_of (i := 94) (by rfl) rfl⟩
set_option maxRecDepth 100000 in
theorem okX12_say : kOK mX12_say := ⟨kU_of (i := 1370) (by rfl) rfl, ⟨by decide +kernel, by decide +kernel, by decide +kernel⟩, by decide +kernel, kU_of (i := 94) (by rfl) rfl⟩
set_option maxRecDepth 100000 in
theorem okX12_sayRow : kOK mX12_sayRow := ⟨kU_of (i := 1374) (by rfl) rfl, ⟨by decide +kernel, by decide +kernel, by decide +kernel⟩, by decide +kernel, kU_of (i := 94) (by rfl) rfl⟩
set_option maxRecDepth 100000 in
theorem okX12_postOne : kOK mX12_postOne := ⟨kU_of (i := 1402) (by rfl) rfl, ⟨by decide +kernel, by decide +kernel, by decide +kernel⟩, by decide +kernel, kU_of (i := 94) (by rfl) rfl⟩
set_option maxRecDepth 100000 in
theorem okX12_giveUp : kOK mX12_giveUp := ⟨kU_of (i := 1414) (by rfl) rfl, ⟨by decide +kernel, by decide +kernel, by decide +kernel⟩, by decide +kernel, kU_of (i := 94) (by rfl) rfl⟩
set_option maxRecDepth 100000 in
theorem okX12_unpack : kOK mX12_unpack := ⟨kU_of (i := 1339) (by rfl) rfl, ⟨by decide +kernel, by decide +kernel, by decide +kernel⟩, by decide +kernel, kU_of (i := 94) (by rfl) rfl⟩
set_option maxRecDepth 100000 in
theorem okX12_dropFirst : kOK mX12_dropFirst := ⟨kU_of (i := 1335) (by rfl) rfl, ⟨by decide +kernel, by decide +kernel, by decide +kernel⟩, by decide +kernel, kU_of (i := 94) (by rfl) rfl⟩
set_option maxRecDepth 100000 in
theorem okX12_postInit : kOK mX12_postInit := ⟨kU_of (i := 1366) (by rfl) rfl, ⟨by decide +kernel, by decide +kernel, by decide +kernel⟩, by decide +kernel, kU_of (i := 94) (by rfl) rfl⟩
set_option maxRecDepth 100000 in
theorem okX12_takeSecret : kOK mX12_takeSecret := ⟨kU_of (i := 1382) (by rfl) rfl, ⟨by decide +kernel, by decide +kernel, by decide +kernel⟩, by decide +kernel, kU_of (i := 94) (by rfl) rfl⟩
set_option maxRecDepth 100000 in
theorem okX12_digest : kOK mX12_digest := ⟨kU_of (i := 1390) (by rfl) rfl, ⟨by decide +kernel, by decide +kernel, by decide +kernel⟩, by decide +kernel, kU_of (i := 94) (by rfl) rfl⟩
set_option maxRecDepth 100000 in
theorem okX12_makeKeys : kOK mX12_makeKeys := ⟨kU_of (i := 1394) (by rfl) rfl, ⟨by decide +kernel, by decide +kernel, by decide +kernel⟩, by decide +kernel, kU_of (i := 94) (by rfl) rfl⟩
set_option maxRecDepth 100000 in
theorem okX12_postNew : kOK mX12_postNew := ⟨kU_of (i := 1398) (by rfl) rfl, ⟨by decide +kernel, by decide +kernel, by decide +kernel⟩, by decide +kernel, kU_of (i := 94) (by rfl) rfl⟩
set_option maxRecDepth 100000 in
theorem okX12_answer : kOK mX12_answer := ⟨kU_of (i := 1386) (by rfl) rfl, ⟨by decide +kernel, by decide +kernel, by decide +kernel⟩, by decide +kernel, kU_of (i := 94) (by rfl) rfl⟩
set_option maxRecDepth 100000 in
theorem okX12_isProved : kOK mX12_isProved := ⟨kU_of (i := 1410) (by rfl) rfl, ⟨by decide +kernel, by decide +kernel, by decide +kernel⟩, by decide +kernel, kU_of (i := 94) (by rfl) rfl⟩
set_option maxRecDepth 100000 in
theorem okX12_placed : kOK mX12_placed := ⟨kU_of (i := 1358) (by rfl) rfl, ⟨by decide +kernel, by decide +kernel, by decide +kernel⟩, by decide +kernel, kU_of (i := 94) (by rfl) rfl⟩
set_option maxRecDepth 100000 in
theorem okX12_initComes : kOK mX12_initComes := ⟨kU_of (i := 1362) (by rfl) rfl, ⟨by decide +kernel, by decide +kernel, by decide +kernel⟩, by decide +kernel, kU_of (i := 94) (by rfl) rfl⟩
set_option maxRecDepth 100000 in
theorem okX12_replyComes : kOK mX12_replyComes := ⟨kU_of (i := 1406) (by rfl) rfl, ⟨by decide +kernel, by decide +kernel, by decide +kernel⟩, by decide +kernel, kU_of (i := 94) (by rfl) rfl⟩
set_option maxRecDepth 100000 in
theorem okX12_newComes : kOK mX12_newComes := ⟨kU_of (i := 1418) (by rfl) rfl, ⟨by decide +kernel, by decide +kernel, by decide +kernel⟩, by decide +kernel, kU_of (i := 94) (by rfl) rfl⟩
set_option maxRecDepth 100000 in
theorem okX12_dataComes : kOK mX12_dataComes := ⟨kU_of (i := 1422) (by rfl) rfl, ⟨by decide +kernel, by decide +kernel, by decide +kernel⟩, by decide +kernel, kU_of (i := 94) (by rfl) rfl⟩
set_option maxRecDepth 100000 in
theorem okX12_hasPlace : kOK mX12_hasPlace := ⟨kU_of (i := 1354) (by rfl) rfl, ⟨by decide +kernel, by decide +kernel, by decide +kernel⟩, by decide +kernel, kU_of (i := 94) (by rfl) rfl⟩
set_option maxRecDepth 100000 in
theorem okX12_comes : kOK mX12_comes := ⟨kU_of (i := 1331) (by rfl) rfl, ⟨by decide +kernel, by decide +kernel, by decide +kernel⟩, by decide +kernel, kU_of (i := 94) (by rfl) rfl⟩
set_option maxRecDepth 100000 in
theorem okX12_come : kOK mX12_come := ⟨kU_of (i := 1327) (by rfl) rfl, ⟨by decide +kernel, by decide +kernel, by decide +kernel⟩, by decide +kernel, kU_of (i := 94) (by rfl) rfl⟩
set_option maxRecDepth 100000 in
theorem okX12_run : kOK mX12_run := ⟨kU_of (i := 1426) (by rfl) rfl, ⟨by decide +kernel, by decide +kernel, by decide +kernel⟩, by decide +kernel, kU_of (i := 94) (by rfl) rfl⟩
set_option maxRecDepth 100000 in
theorem okX12_begin : kOK mX12_begin := ⟨kU_of (i := 1430) (by rfl) rfl, ⟨by decide +kernel, by decide +kernel, by decide +kernel⟩, by decide +kernel, kU_of (i := 94) (by rfl) rfl⟩
set_option maxRecDepth 100000 in
theorem okX12_send : kOK mX12_send := ⟨kU_of (i := 1434) (by rfl) rfl, ⟨by decide +kernel, by decide +kernel, by decide +kernel⟩, by decide +kernel, kU_of (i := 94) (by rfl) rfl⟩
set_option maxRecDepth 100000 in
theorem okX12_isPacket : kOK mX12_isPacket := ⟨kU_of (i := 1442) (by rfl) rfl, ⟨by decide +kernel, by decide +kernel, by decide +kernel⟩, by decide +kernel, kU_of (i := 94) (by rfl) rfl⟩
set_option maxRecDepth 100000 in
theorem okX12_packet : kOK mX12_packet := ⟨kU_of (i := 1438) (by rfl) rfl, ⟨by decide +kernel, by decide +kernel, by decide +kernel⟩, by decide +kernel, kU_of (i := 94) (by rfl) rfl⟩
set_option maxRecDepth 100000 in
theorem okX12_damage : kOK mX12_damage := ⟨kU_of (i := 1446) (by rfl) rfl, ⟨by decide +kernel, by decide +kernel, by decide +kernel⟩, by decide +kernel, kU_of (i := 94) (by rfl) rfl⟩
set_option maxRecDepth 100000 in
theorem okX12_got : kOK mX12_got := ⟨kU_of (i := 1450) (by rfl) rfl, ⟨by decide +kernel, by decide +kernel, by decide +kernel⟩, by decide +kernel, kU_of (i := 94) (by rfl) rfl⟩
set_option maxRecDepth 100000 in
theorem okX12_about : kOK mX12_about := ⟨kU_of (i := 1454) (by rfl) rfl, ⟨by decide +kernel, by decide +kernel, by decide +kernel⟩, by decide +kernel, kU_of (i := 94) (by rfl) rfl⟩
set_option maxRecDepth 100000 in
theorem okX12_session : kOK mX12_session := ⟨kU_of (i := 1458) (by rfl) rfl, ⟨by decide +kernel, by decide +kernel, by decide +kernel⟩, by decide +kernel, kU_of (i := 94) (by rfl) rfl⟩
set_option maxRecDepth 100000 in
theorem okL_law : kDk mL_law := by
  show kchk mL_law = true
  decide +kernel
