/-! the law's bytes -/
theorem all_td {α : Type} {p : α → Bool} {l : List α} (n : Nat) (h1 : (l.take n).all p = true) (h2 : (l.drop n).all p = true) : l.all p = true := by
  rw [← List.take_append_drop n l, List.all_append, h1, h2]; rfl
set_option maxRecDepth 100000 in
theorem okLa_0 : (((mco mL_law).drop 0).take 40).all (kck1 (mby mL_law)) = true := by decide +kernel
set_option maxRecDepth 100000 in
theorem okLa_40 : (((mco mL_law).drop 40).take 40).all (kck1 (mby mL_law)) = true := by decide +kernel
set_option maxRecDepth 100000 in
theorem okLa_80 : (((mco mL_law).drop 80).take 40).all (kck1 (mby mL_law)) = true := by decide +kernel
set_option maxRecDepth 100000 in
theorem okLa_120 : (((mco mL_law).drop 120).take 40).all (kck1 (mby mL_law)) = true := by decide +kernel
set_option maxRecDepth 100000 in
theorem okLa_160 : (((mco mL_law).drop 160).take 40).all (kck1 (mby mL_law)) = true := by decide +kernel
set_option maxRecDepth 100000 in
theorem okLa_200 : (((mco mL_law).drop 200).take 40).all (kck1 (mby mL_law)) = true := by decide +kernel
set_option maxRecDepth 100000 in
theorem okLa_240 : (((mco mL_law).drop 240).take 40).all (kck1 (mby mL_law)) = true := by decide +kernel
set_option maxRecDepth 100000 in
theorem okLa_280 : (((mco mL_law).drop 280).take 40).all (kck1 (mby mL_law)) = true := by decide +kernel
set_option maxRecDepth 100000 in
theorem okLa_320 : (((mco mL_law).drop 320).take 40).all (kck1 (mby mL_law)) = true := by decide +kernel
set_option maxRecDepth 100000 in
theorem okLa_360 : (((mco mL_law).drop 360).take 40).all (kck1 (mby mL_law)) = true := by decide +kernel
set_option maxRecDepth 100000 in
theorem okLa_400 : (((mco mL_law).drop 400).take 40).all (kck1 (mby mL_law)) = true := by decide +kernel
set_option maxRecDepth 100000 in
theorem okLa_440 : (((mco mL_law).drop 440).take 40).all (kck1 (mby mL_law)) = true := by decide +kernel
set_option maxRecDepth 100000 in
theorem okLa_480 : (((mco mL_law).drop 480).take 40).all (kck1 (mby mL_law)) = true := by decide +kernel
set_option maxRecDepth 100000 in
theorem okLa_520 : (((mco mL_law).drop 520).take 40).all (kck1 (mby mL_law)) = true := by decide +kernel
set_option maxRecDepth 100000 in
theorem okLa_560 : (((mco mL_law).drop 560).take 40).all (kck1 (mby mL_law)) = true := by decide +kernel
theorem okLd {k n : Nat} (h1 : (((mco mL_law).drop k).take n).all (kck1 (mby mL_law)) = true) (h2 : ((mco mL_law).drop (k + n)).all (kck1 (mby mL_law)) = true) : ((mco mL_law).drop k).all (kck1 (mby mL_law)) = true := all_td n h1 (by rw [List.drop_drop]; exact h2)
set_option maxRecDepth 100000 in
theorem okLe : ((mco mL_law).drop 600).all (kck1 (mby mL_law)) = true := by decide +kernel
theorem okL_law : kDk mL_law := by
  show ((mco mL_law).drop 0).all (kck1 (mby mL_law)) = true
  exact okLd okLa_0 (okLd okLa_40 (okLd okLa_80 (okLd okLa_120 (okLd okLa_160 (okLd okLa_200 (okLd okLa_240 (okLd okLa_280 (okLd okLa_320 (okLd okLa_360 (okLd okLa_400 (okLd okLa_440 (okLd okLa_480 (okLd okLa_520 (okLd okLa_560 (okLe)))))))))))))))
