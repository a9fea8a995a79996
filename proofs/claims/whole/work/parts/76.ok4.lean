set_option maxRecDepth 100000 in
theorem okX12_postInit : kOK mX12_postInit := ⟨kU_of (i := 1366) (by rfl) rfl, ⟨by decide +kernel, by decide +kernel, by decide +kernel⟩, by decide +kernel, kU_of (i := 94) (by rfl) rfl⟩
set_option maxRecDepth 100000 in
theorem okX12_takeSecret : kOK mX12_takeSecret := ⟨kU_of (i := 1382) (by rfl) rfl, ⟨by decide +kernel, by decide +kernel, by decide +kernel⟩, by decide +kernel, kU_of (i := 94) (by rfl) rfl⟩
set_option maxRecDepth 100000 in
theorem okX12_digest : kOK mX12_digest := ⟨kU_of (i := 1390) (by rfl) rfl, ⟨by decide +kernel, by decide +kernel, by decide +kernel⟩, by decide +kernel, kU_of (i := 94) (by rfl) rfl⟩
set_option maxRecDepth 100000 in
theorem okX12_makeKeys : kOK mX12_makeKeys := ⟨kU_of (i := 1394) (by rfl) rfl, ⟨by decide +kernel, by decide +kernel, by decide +kernel⟩, by decide +kernel, kU_of (i := 94) (by rfl) rfl⟩
set_option maxRecDepth 100000 in
theorem okX12_postNew : kOK mX12_postNew := ⟨kU_of (i := 1398) (by rfl) rfl, ⟨by decide +kernel, by decide +kernel, by decide +kernel⟩, by decide +kernel, kU_of (i := 94) (by rfl) rfl⟩
set_option maxRecDepth 100000 in
theorem okX12_answer : kOK mX12_answer := ⟨kU_of (i := 1386) (by rfl) rfl, ⟨by decide +kernel, by decide +kernel, by decide +kernel⟩, by decide +kernel, kU_of (i := 94) (by rfl) rfl⟩
set_option maxRecDepth 100000 in
theorem okX12_isProved : kOK mX12_isProved := ⟨kU_of (i := 1410) (by rfl) rfl, ⟨by decide +kernel, by decide +kernel, by decide +kernel⟩, by decide +kernel, kU_of (i := 94) (by rfl) rfl⟩
set_option maxRecDepth 100000 in
theorem okX12_placed : kOK mX12_placed := ⟨kU_of (i := 1358) (by rfl) rfl, ⟨by decide +kernel, by decide +kernel, by decide +kernel⟩, by decide +kernel, kU_of (i := 94) (by rfl) rfl⟩
set_option maxRecDepth 100000 in
theorem okX12_initComes : kOK mX12_initComes := ⟨kU_of (i := 1362) (by rfl) rfl, ⟨by decide +kernel, by decide +kernel, by decide +kernel⟩, by decide +kernel, kU_of (i := 94) (by rfl) rfl⟩
set_option maxRecDepth 100000 in
theorem okX12_replyComes : kOK mX12_replyComes := ⟨kU_of (i := 1406) (by rfl) rfl, ⟨by decide +kernel, by decide +kernel, by decide +kernel⟩, by decide +kernel, kU_of (i := 94) (by rfl) rfl⟩
set_option maxRecDepth 100000 in
theorem okX12_newComes : kOK mX12_newComes := ⟨kU_of (i := 1418) (by rfl) rfl, ⟨by decide +kernel, by decide +kernel, by decide +kernel⟩, by decide +kernel, kU_of (i := 94) (by rfl) rfl⟩
set_option maxRecDepth 100000 in
theorem okX12_dataComes : kOK mX12_dataComes := ⟨kU_of (i := 1422) (by rfl) rfl, ⟨by decide +kernel, by decide +kernel, by decide +kernel⟩, by decide +kernel, kU_of (i := 94) (by rfl) rfl⟩
set_option maxRecDepth 100000 in
theorem okX12_hasPlace : kOK mX12_hasPlace := ⟨kU_of (i := 1354) (by rfl) rfl, ⟨by decide +kernel, by decide +kernel, by decide +kernel⟩, by decide +kernel, kU_of (i := 94) (by rfl) rfl⟩
set_option maxRecDepth 100000 in
theorem okX12_comes : kOK mX12_comes := ⟨kU_of (i := 1331) (by rfl) rfl, ⟨by decide +kernel, by decide +kernel, by decide +kernel⟩, by decide +kernel, kU_of (i := 94) (by rfl) rfl⟩
set_option maxRecDepth 100000 in
theorem okX12_come : kOK mX12_come := ⟨kU_of (i := 1327) (by rfl) rfl, ⟨by decide +kernel, by decide +kernel, by decide +kernel⟩, by decide +kernel, kU_of (i := 94) (by rfl) rfl⟩
set_option maxRecDepth 100000 in
theorem okX12_run : kOK mX12_run := ⟨kU_of (i := 1426) (by rfl) rfl, ⟨by decide +kernel, by decide +kernel, by decide +kernel⟩, by decide +kernel, kU_of (i := 94) (by rfl) rfl⟩
set_option maxRecDepth 100000 in
theorem okX12_begin : kOK mX12_begin := ⟨kU_of (i := 1430) (by rfl) rfl, ⟨by decide +kernel, by decide +kernel, by decide +kernel⟩, by decide +kernel, kU_of (i := 94) (by rfl) rfl⟩
set_option maxRecDepth 100000 in
theorem okX12_send : kOK mX12_send := ⟨kU_of (i := 1434) (by rfl) rfl, ⟨by decide +kernel, by decide +kernel, by decide +kernel⟩, by decide +kernel, kU_of (i := 94) (by rfl) rfl⟩
set_option maxRecDepth 100000 in
theorem okX12_isPacket : kOK mX12_isPacket := ⟨kU_of (i := 1442) (by rfl) rfl, ⟨by decide +kernel, by decide +kernel, by decide +kernel⟩, by decide +kernel, kU_of (i := 94) (by rfl) rfl⟩
set_option maxRecDepth 100000 in
theorem okX12_packet : kOK mX12_packet := ⟨kU_of (i := 1438) (by rfl) rfl, ⟨by decide +kernel, by decide +kernel, by decide +kernel⟩, by decide +kernel, kU_of (i := 94) (by rfl) rfl⟩
set_option maxRecDepth 100000 in
theorem okX12_damage : kOK mX12_damage := ⟨kU_of (i := 1446) (by rfl) rfl, ⟨by decide +kernel, by decide +kernel, by decide +kernel⟩, by decide +kernel, kU_of (i := 94) (by rfl) rfl⟩
set_option maxRecDepth 100000 in
theorem okX12_got : kOK mX12_got := ⟨kU_of (i := 1450) (by rfl) rfl, ⟨by decide +kernel, by decide +kernel, by decide +kernel⟩, by decide +kernel, kU_of (i := 94) (by rfl) rfl⟩
set_option maxRecDepth 100000 in
theorem okX12_about : kOK mX12_about := ⟨kU_of (i := 1454) (by rfl) rfl, ⟨by decide +kernel, by decide +kernel, by decide +kernel⟩, by decide +kernel, kU_of (i := 94) (by rfl) rfl⟩
set_option maxRecDepth 100000 in
theorem okX12_session : kOK mX12_session := ⟨kU_of (i := 1458) (by rfl) rfl, ⟨by decide +kernel, by decide +kernel, by decide +kernel⟩, by decide +kernel, kU_of (i := 94) (by rfl) rfl⟩
