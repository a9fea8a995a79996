set_option maxRecDepth 100000 in
theorem okX12_init : kOK mX12_init := ⟨kU_of (i := 1012) (by rfl) rfl, ⟨by decide +kernel, by decide +kernel, by decide +kernel⟩, by decide +kernel, kU_of (i := 94) (by rfl) rfl⟩
set_option maxRecDepth 100000 in
theorem okX12_thrown : kOK mX12_thrown := ⟨kU_of (i := 1177) (by rfl) rfl, ⟨by decide +kernel, by decide +kernel, by decide +kernel⟩, by decide +kernel, kU_of (i := 94) (by rfl) rfl⟩
set_option maxRecDepth 100000 in
theorem okX12_row : kOK mX12_row := ⟨kU_of (i := 1192) (by rfl) rfl, ⟨by decide +kernel, by decide +kernel, by decide +kernel⟩, by decide +kernel, kU_of (i := 94) (by rfl) rfl⟩
set_option maxRecDepth 100000 in
theorem okX12_isRoot : kOK mX12_isRoot := ⟨kU_of (i := 1021) (by rfl) rfl, ⟨by decide +kernel, by decide +kernel, by decide +kernel⟩, by decide +kernel, kU_of (i := 94) (by rfl) rfl⟩
set_option maxRecDepth 100000 in
theorem okX12_rootOf : kOK mX12_rootOf := ⟨kU_of (i := 1017) (by rfl) rfl, ⟨by decide +kernel, by decide +kernel, by decide +kernel⟩, by decide +kernel, kU_of (i := 94) (by rfl) rfl⟩
set_option maxRecDepth 100000 in
theorem okX12_putSmall : kOK mX12_putSmall := ⟨kU_of (i := 1204) (by rfl) rfl, ⟨by decide +kernel, by decide +kernel, by decide +kernel⟩, by decide +kernel, kU_of (i := 94) (by rfl) rfl⟩
set_option maxRecDepth 100000 in
theorem okX12_copy : kOK mX12_copy := ⟨kU_of (i := 1211) (by rfl) rfl, ⟨by decide +kernel, by decide +kernel, by decide +kernel⟩, by decide +kernel, kU_of (i := 94) (by rfl) rfl⟩
set_option maxRecDepth 100000 in
theorem okX12_carry : kOK mX12_carry := ⟨kU_of (i := 1225) (by rfl) rfl, ⟨by decide +kernel, by decide +kernel, by decide +kernel⟩, by decide +kernel, kU_of (i := 94) (by rfl) rfl⟩
set_option maxRecDepth 100000 in
theorem okX12_add : kOK mX12_add := ⟨kU_of (i := 1221) (by rfl) rfl, ⟨by decide +kernel, by decide +kernel, by decide +kernel⟩, by decide +kernel, kU_of (i := 94) (by rfl) rfl⟩
set_option maxRecDepth 100000 in
theorem okX12_subtract : kOK mX12_subtract := ⟨kU_of (i := 1231) (by rfl) rfl, ⟨by decide +kernel, by decide +kernel, by decide +kernel⟩, by decide +kernel, kU_of (i := 94) (by rfl) rfl⟩
set_option maxRecDepth 100000 in
theorem okX12_times : kOK mX12_times := ⟨kU_of (i := 1237) (by rfl) rfl, ⟨by decide +kernel, by decide +kernel, by decide +kernel⟩, by decide +kernel, kU_of (i := 94) (by rfl) rfl⟩
set_option maxRecDepth 100000 in
theorem okX12_bitOf : kOK mX12_bitOf := ⟨kU_of (i := 1207) (by rfl) rfl, ⟨by decide +kernel, by decide +kernel, by decide +kernel⟩, by decide +kernel, kU_of (i := 94) (by rfl) rfl⟩
set_option maxRecDepth 100000 in
theorem okX12_pointTimes : kOK mX12_pointTimes := ⟨kU_of (i := 1200) (by rfl) rfl, ⟨by decide +kernel, by decide +kernel, by decide +kernel⟩, by decide +kernel, kU_of (i := 94) (by rfl) rfl⟩
set_option maxRecDepth 100000 in
theorem okX12_turnRound : kOK mX12_turnRound := ⟨kU_of (i := 1217) (by rfl) rfl, ⟨by decide +kernel, by decide +kernel, by decide +kernel⟩, by decide +kernel, kU_of (i := 94) (by rfl) rfl⟩
set_option maxRecDepth 100000 in
theorem okX12_settle : kOK mX12_settle := ⟨kU_of (i := 1241) (by rfl) rfl, ⟨by decide +kernel, by decide +kernel, by decide +kernel⟩, by decide +kernel, kU_of (i := 94) (by rfl) rfl⟩
set_option maxRecDepth 100000 in
theorem okX12_hashBegin : kOK mX12_hashBegin := ⟨kU_of (i := 1254) (by rfl) rfl, ⟨by decide +kernel, by decide +kernel, by decide +kernel⟩, by decide +kernel, kU_of (i := 94) (by rfl) rfl⟩
set_option maxRecDepth 100000 in
theorem okX12_hashAdd : kOK mX12_hashAdd := ⟨kU_of (i := 1258) (by rfl) rfl, ⟨by decide +kernel, by decide +kernel, by decide +kernel⟩, by decide +kernel, kU_of (i := 94) (by rfl) rfl⟩
set_option maxRecDepth 100000 in
theorem okX12_right : kOK mX12_right := ⟨kU_of (i := 1271) (by rfl) rfl, ⟨by decide +kernel, by decide +kernel, by decide +kernel⟩, by decide +kernel, kU_of (i := 94) (by rfl) rfl⟩
set_option maxRecDepth 100000 in
theorem okX12_left : kOK mX12_left := ⟨kU_of (i := 1297) (by rfl) rfl, ⟨by decide +kernel, by decide +kernel, by decide +kernel⟩, by decide +kernel, kU_of (i := 94) (by rfl) rfl⟩
set_option maxRecDepth 100000 in
theorem okX12_hashBlock : kOK mX12_hashBlock := ⟨kU_of (i := 1268) (by rfl) rfl, ⟨by decide +kernel, by decide +kernel, by decide +kernel⟩, by decide +kernel, kU_of (i := 94) (by rfl) rfl⟩
set_option maxRecDepth 100000 in
theorem okX12_hashEnd : kOK mX12_hashEnd := ⟨kU_of (i := 1262) (by rfl) rfl, ⟨by decide +kernel, by decide +kernel, by decide +kernel⟩, by decide +kernel, kU_of (i := 94) (by rfl) rfl⟩
set_option maxRecDepth 100000 in
theorem okX12_quarter : kOK mX12_quarter := ⟨kU_of (i := 1294) (by rfl) rfl, ⟨by decide +kernel, by decide +kernel, by decide +kernel⟩, by decide +kernel, kU_of (i := 94) (by rfl) rfl⟩
set_option maxRecDepth 100000 in
theorem okX12_little : kOK mX12_little := ⟨kU_of (i := 1286) (by rfl) rfl, ⟨by decide +kernel, by decide +kernel, by decide +kernel⟩, by decide +kernel, kU_of (i := 94) (by rfl) rfl⟩
set_option maxRecDepth 100000 in
theorem okX12_turned : kOK mX12_turned := ⟨kU_of (i := 1289) (by rfl) rfl, ⟨by decide +kernel, by decide +kernel, by decide +kernel⟩, by decide +kernel, kU_of (i := 94) (by rfl) rfl⟩
