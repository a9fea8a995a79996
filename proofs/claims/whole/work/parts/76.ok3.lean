set_option maxRecDepth 100000 in
theorem okX12_makeStream : kOK mX12_makeStream := ⟨kU_of (i := 1279) (by rfl) rfl, ⟨by decide +kernel, by decide +kernel, by decide +kernel⟩, by decide +kernel, kU_of (i := 94) (by rfl) rfl⟩
set_option maxRecDepth 100000 in
theorem okX12_hide : kOK mX12_hide := ⟨kU_of (i := 1347) (by rfl) rfl, ⟨by decide +kernel, by decide +kernel, by decide +kernel⟩, by decide +kernel, kU_of (i := 94) (by rfl) rfl⟩
set_option maxRecDepth 100000 in
theorem okX12_tagCarry : kOK mX12_tagCarry := ⟨kU_of (i := 1312) (by rfl) rfl, ⟨by decide +kernel, by decide +kernel, by decide +kernel⟩, by decide +kernel, kU_of (i := 94) (by rfl) rfl⟩
set_option maxRecDepth 100000 in
theorem okX12_tagTimes : kOK mX12_tagTimes := ⟨kU_of (i := 1318) (by rfl) rfl, ⟨by decide +kernel, by decide +kernel, by decide +kernel⟩, by decide +kernel, kU_of (i := 94) (by rfl) rfl⟩
set_option maxRecDepth 100000 in
theorem okX12_counts : kOK mX12_counts := ⟨kU_of (i := 1308) (by rfl) rfl, ⟨by decide +kernel, by decide +kernel, by decide +kernel⟩, by decide +kernel, kU_of (i := 94) (by rfl) rfl⟩
set_option maxRecDepth 100000 in
theorem okX12_seal : kOK mX12_seal := ⟨kU_of (i := 1305) (by rfl) rfl, ⟨by decide +kernel, by decide +kernel, by decide +kernel⟩, by decide +kernel, kU_of (i := 94) (by rfl) rfl⟩
set_option maxRecDepth 100000 in
theorem okX12_type : kOK mX12_type := ⟨kU_of (i := 1181) (by rfl) rfl, ⟨by decide +kernel, by decide +kernel, by decide +kernel⟩, by decide +kernel, kU_of (i := 94) (by rfl) rfl⟩
set_option maxRecDepth 100000 in
theorem okX12_taken : kOK mX12_taken := ⟨kU_of (i := 1189) (by rfl) rfl, ⟨by decide +kernel, by decide +kernel, by decide +kernel⟩, by decide +kernel, kU_of (i := 94) (by rfl) rfl⟩
set_option maxRecDepth 100000 in
theorem okX12_tell : kOK mX12_tell := ⟨kU_of (i := 1246) (by rfl) rfl, ⟨by decide +kernel, by decide +kernel, by decide +kernel⟩, by decide +kernel, kU_of (i := 94) (by rfl) rfl⟩
set_option maxRecDepth 100000 in
theorem okX12_set : kOK mX12_set := ⟨kU_of (i := 1185) (by rfl) rfl, ⟨by decide +kernel, by decide +kernel, by decide +kernel⟩, by decide +kernel, kU_of (i := 94) (by rfl) rfl⟩
set_option maxRecDepth 100000 in
theorem okX12_multiply : kOK mX12_multiply := ⟨kU_of (i := 1196) (by rfl) rfl, ⟨by decide +kernel, by decide +kernel, by decide +kernel⟩, by decide +kernel, kU_of (i := 94) (by rfl) rfl⟩
set_option maxRecDepth 100000 in
theorem okX12_hash : kOK mX12_hash := ⟨kU_of (i := 1250) (by rfl) rfl, ⟨by decide +kernel, by decide +kernel, by decide +kernel⟩, by decide +kernel, kU_of (i := 94) (by rfl) rfl⟩
set_option maxRecDepth 100000 in
theorem okX12_stream : kOK mX12_stream := ⟨kU_of (i := 1275) (by rfl) rfl, ⟨by decide +kernel, by decide +kernel, by decide +kernel⟩, by decide +kernel, kU_of (i := 94) (by rfl) rfl⟩
set_option maxRecDepth 100000 in
theorem okX12_tag : kOK mX12_tag := ⟨kU_of (i := 1301) (by rfl) rfl, ⟨by decide +kernel, by decide +kernel, by decide +kernel⟩, by decide +kernel, kU_of (i := 94) (by rfl) rfl⟩
set_option maxRecDepth 100000 in
theorem okX12_out : kOK mX12_out := ⟨kU_of (i := 1323) (by rfl) rfl, ⟨by decide +kernel, by decide +kernel, by decide +kernel⟩, by decide +kernel, kU_of (i := 94) (by rfl) rfl⟩
set_option maxRecDepth 100000 in
theorem okX12_zerosOf : kOK mX12_zerosOf := ⟨kU_of (i := 1351) (by rfl) rfl, ⟨by decide +kernel, by decide +kernel, by decide +kernel⟩, by decide +kernel, kU_of (i := 94) (by rfl) rfl⟩
set_option maxRecDepth 100000 in
theorem okX12_sealPacket : kOK mX12_sealPacket := ⟨kU_of (i := 1343) (by rfl) rfl, ⟨by decide +kernel, by decide +kernel, by decide +kernel⟩, by decide +kernel, kU_of (i := 94) (by rfl) rfl⟩
set_option maxRecDepth 100000 in
theorem okX12_post : kOK mX12_post := ⟨kU_of (i := 1378) (by rfl) rfl, ⟨by decide +kernel, by decide +kernel, by decide +kernel⟩, by decide +kernel, kU_of (i := 94) (by rfl) rfl⟩
set_option maxRecDepth 100000 in
theorem okX12_say : kOK mX12_say := ⟨kU_of (i := 1370) (by rfl) rfl, ⟨by decide +kernel, by decide +kernel, by decide +kernel⟩, by decide +kernel, kU_of (i := 94) (by rfl) rfl⟩
set_option maxRecDepth 100000 in
theorem okX12_sayRow : kOK mX12_sayRow := ⟨kU_of (i := 1374) (by rfl) rfl, ⟨by decide +kernel, by decide +kernel, by decide +kernel⟩, by decide +kernel, kU_of (i := 94) (by rfl) rfl⟩
set_option maxRecDepth 100000 in
theorem okX12_postOne : kOK mX12_postOne := ⟨kU_of (i := 1402) (by rfl) rfl, ⟨by decide +kernel, by decide +kernel, by decide +kernel⟩, by decide +kernel, kU_of (i := 94) (by rfl) rfl⟩
set_option maxRecDepth 100000 in
theorem okX12_giveUp : kOK mX12_giveUp := ⟨kU_of (i := 1414) (by rfl) rfl, ⟨by decide +kernel, by decide +kernel, by decide +kernel⟩, by decide +kernel, kU_of (i := 94) (by rfl) rfl⟩
set_option maxRecDepth 100000 in
theorem okX12_unpack : kOK mX12_unpack := ⟨kU_of (i := 1339) (by rfl) rfl, ⟨by decide +kernel, by decide +kernel, by decide +kernel⟩, by decide +kernel, kU_of (i := 94) (by rfl) rfl⟩
set_option maxRecDepth 100000 in
theorem okX12_dropFirst : kOK mX12_dropFirst := ⟨kU_of (i := 1335) (by rfl) rfl, ⟨by decide +kernel, by decide +kernel, by decide +kernel⟩, by decide +kernel, kU_of (i := 94) (by rfl) rfl⟩
