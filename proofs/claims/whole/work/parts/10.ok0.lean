set_option maxRecDepth 100000 in
theorem okX0_init : kOK mX0_init := ⟨kU_of (i := 118) (by rfl) rfl, ⟨by decide +kernel, by decide +kernel, by decide +kernel⟩, by decide +kernel, kU_of (i := 84) (by rfl) rfl⟩
set_option maxRecDepth 100000 in
theorem okX0_times : kOK mX0_times := ⟨kU_of (i := 628) (by rfl) rfl, ⟨by decide +kernel, by decide +kernel, by decide +kernel⟩, by decide +kernel, kU_of (i := 84) (by rfl) rfl⟩
set_option maxRecDepth 100000 in
theorem okX0_setSmall : kOK mX0_setSmall := ⟨kU_of (i := 637) (by rfl) rfl, ⟨by decide +kernel, by decide +kernel, by decide +kernel⟩, by decide +kernel, kU_of (i := 84) (by rfl) rfl⟩
set_option maxRecDepth 100000 in
theorem okX0_step : kOK mX0_step := ⟨kU_of (i := 644) (by rfl) rfl, ⟨by decide +kernel, by decide +kernel, by decide +kernel⟩, by decide +kernel, kU_of (i := 84) (by rfl) rfl⟩
set_option maxRecDepth 100000 in
theorem okX0_invert : kOK mX0_invert := ⟨kU_of (i := 678) (by rfl) rfl, ⟨by decide +kernel, by decide +kernel, by decide +kernel⟩, by decide +kernel, kU_of (i := 84) (by rfl) rfl⟩
set_option maxRecDepth 100000 in
theorem okX0_sum : kOK mX0_sum := ⟨kU_of (i := 647) (by rfl) rfl, ⟨by decide +kernel, by decide +kernel, by decide +kernel⟩, by decide +kernel, kU_of (i := 84) (by rfl) rfl⟩
set_option maxRecDepth 100000 in
theorem okX0_difference : kOK mX0_difference := ⟨kU_of (i := 650) (by rfl) rfl, ⟨by decide +kernel, by decide +kernel, by decide +kernel⟩, by decide +kernel, kU_of (i := 84) (by rfl) rfl⟩
set_option maxRecDepth 100000 in
theorem okX0_scale : kOK mX0_scale := ⟨kU_of (i := 673) (by rfl) rfl, ⟨by decide +kernel, by decide +kernel, by decide +kernel⟩, by decide +kernel, kU_of (i := 84) (by rfl) rfl⟩
set_option maxRecDepth 100000 in
theorem okX0_product : kOK mX0_product := ⟨kU_of (i := 657) (by rfl) rfl, ⟨by decide +kernel, by decide +kernel, by decide +kernel⟩, by decide +kernel, kU_of (i := 84) (by rfl) rfl⟩
set_option maxRecDepth 100000 in
theorem okX0_square : kOK mX0_square := ⟨kU_of (i := 668) (by rfl) rfl, ⟨by decide +kernel, by decide +kernel, by decide +kernel⟩, by decide +kernel, kU_of (i := 84) (by rfl) rfl⟩
set_option maxRecDepth 100000 in
theorem okX0_fold : kOK mX0_fold := ⟨kU_of (i := 661) (by rfl) rfl, ⟨by decide +kernel, by decide +kernel, by decide +kernel⟩, by decide +kernel, kU_of (i := 84) (by rfl) rfl⟩
set_option maxRecDepth 100000 in
theorem okX0_settle : kOK mX0_settle := ⟨kU_of (i := 681) (by rfl) rfl, ⟨by decide +kernel, by decide +kernel, by decide +kernel⟩, by decide +kernel, kU_of (i := 84) (by rfl) rfl⟩
