/-! what the Statement says of the start -/
def kFC : List Cond := flatC (Cond.and given_1 narrow_1)
def kT1 : List Int32 := [1779033703, (-1150833019), 1013904242, (-1521486534), 1359893119, (-1694144372), 528734635, 1541459225]
def kT2 : List Int32 := [1116352408, 1899447441, (-1245643825), (-373957723), 961987163, 1508970993, (-1841331548), (-1424204075), (-670586216), 310598401, 607225278, 1426881987, 1925078388, (-2132889090), (-1680079193), (-1046744716), (-459576895), (-272742522), 264347078, 604807628, 770255983, 1249150122, 1555081692, 1996064986, (-1740746414), (-1473132947), (-1341970488), (-1084653625), (-958395405), (-710438585), 113926993, 338241895, 666307205, 773529912, 1294757372, 1396182291, 1695183700, 1986661051, (-2117940946), (-1838011259), (-1564481375), (-1474664885), (-1035236496), (-949202525), (-778901479), (-694614492), (-200395387), 275423344, 430227734, 506948616, 659060556, 883997877, 958139571, 1322822218, 1537002063, 1747873779, 1955562222, 2024104815, (-2067236844), (-1933114872), (-1866530822), (-1538233109), (-1090935817), (-965641998)]
def kT3 : List Nat := [0, 4, 8, 12, 1, 5, 9, 13, 2, 6, 10, 14, 3, 7, 11, 15, 0, 5, 10, 15, 1, 6, 11, 12, 2, 7, 8, 13, 3, 4, 9, 14]
def kT : TB := (fun j => kT1.getD j 0, fun j => kT2.getD j 0, fun j => kT3.getD j 0)
set_option maxRecDepth 100000 in
theorem fe_NINE : ∀ j, j < 32 → kFC[122 + j]? = some (Cond.eq (.elem (.static RX11 "NINE" "[I") (.int (Int32.ofNat j))) (.int (nI (nine j)))) := by decide +kernel
set_option maxRecDepth 100000 in
theorem fa_NINE : kFC[120]? = some (Cond.arrayOf (.static RX11 "NINE" "[I") .int) := by decide +kernel
set_option maxRecDepth 100000 in
theorem fl_NINE : kFC[121]? = some (Cond.eq (.length (.static RX11 "NINE" "[I")) (.int (Int32.ofNat 32))) := by decide +kernel
set_option maxRecDepth 100000 in
theorem fs_NINE : lw_tbl[910]? = some (Cond.laysStatic RX11 "NINE" "[I") ∧ lw_tbl[83]? = some (Cond.initialized RX11) := ⟨by decide +kernel, by decide +kernel⟩
set_option maxRecDepth 100000 in
theorem fe_FIRST : ∀ j, j < 8 → kFC[7 + j]? = some (Cond.eq (.elem (.static RX3 "FIRST" "[I") (.int (Int32.ofNat j))) (.int (kT.1 j))) := by decide +kernel
set_option maxRecDepth 100000 in
theorem fa_FIRST : kFC[5]? = some (Cond.arrayOf (.static RX3 "FIRST" "[I") .int) := by decide +kernel
set_option maxRecDepth 100000 in
theorem fl_FIRST : kFC[6]? = some (Cond.eq (.length (.static RX3 "FIRST" "[I")) (.int (Int32.ofNat 8))) := by decide +kernel
set_option maxRecDepth 100000 in
theorem fs_FIRST : lw_tbl[513]? = some (Cond.laysStatic RX3 "FIRST" "[I") ∧ lw_tbl[85]? = some (Cond.initialized RX3) := ⟨by decide +kernel, by decide +kernel⟩
set_option maxRecDepth 100000 in
theorem fe_ROUND : ∀ j, j < 64 → kFC[18 + j]? = some (Cond.eq (.elem (.static RX3 "ROUND" "[I") (.int (Int32.ofNat j))) (.int (kT.2.1 j))) := by decide +kernel
set_option maxRecDepth 100000 in
theorem fa_ROUND : kFC[16]? = some (Cond.arrayOf (.static RX3 "ROUND" "[I") .int) := by decide +kernel
set_option maxRecDepth 100000 in
theorem fl_ROUND : kFC[17]? = some (Cond.eq (.length (.static RX3 "ROUND" "[I")) (.int (Int32.ofNat 64))) := by decide +kernel
set_option maxRecDepth 100000 in
theorem fs_ROUND : lw_tbl[524]? = some (Cond.laysStatic RX3 "ROUND" "[I") ∧ lw_tbl[85]? = some (Cond.initialized RX3) := ⟨by decide +kernel, by decide +kernel⟩
set_option maxRecDepth 100000 in
theorem fe_QUARTERS : ∀ j, j < 32 → kFC[87 + j]? = some (Cond.eq (.elem (.static RX8 "QUARTERS" "[I") (.int (Int32.ofNat j))) (.int (nI (kT.2.2 j)))) := by decide +kernel
set_option maxRecDepth 100000 in
theorem fa_QUARTERS : kFC[85]? = some (Cond.arrayOf (.static RX8 "QUARTERS" "[I") .int) := by decide +kernel
set_option maxRecDepth 100000 in
theorem fl_QUARTERS : kFC[86]? = some (Cond.eq (.length (.static RX8 "QUARTERS" "[I")) (.int (Int32.ofNat 32))) := by decide +kernel
set_option maxRecDepth 100000 in
theorem fs_QUARTERS : lw_tbl[707]? = some (Cond.laysStatic RX8 "QUARTERS" "[I") ∧ lw_tbl[88]? = some (Cond.initialized RX8) := ⟨by decide +kernel, by decide +kernel⟩
set_option maxRecDepth 100000 in
theorem fs_UNASSIGNED_STACK : lw_tbl[561]? = some (Cond.laysStatic Bundle.tN "UNASSIGNED_STACK" Bundle.steD) ∧ lw_tbl[95]? = some (Cond.initialized Bundle.tN) ∧ kFC[82]? = some (Cond.isRef (.static Bundle.tN "UNASSIGNED_STACK" Bundle.steD)) := ⟨by decide +kernel, by decide +kernel, by decide +kernel⟩
set_option maxRecDepth 100000 in
theorem fs_SUPPRESSED_SENTINEL : lw_tbl[563]? = some (Cond.laysStatic Bundle.tN "SUPPRESSED_SENTINEL" Bundle.listD) ∧ lw_tbl[95]? = some (Cond.initialized Bundle.tN) ∧ kFC[83]? = some (Cond.isRef (.static Bundle.tN "SUPPRESSED_SENTINEL" Bundle.listD)) := ⟨by decide +kernel, by decide +kernel, by decide +kernel⟩
set_option maxRecDepth 100000 in
theorem f_cast : ∀ E ∈ kX4, ∀ F ∈ kX4, E ≠ F → Cond.not (.castable E F) ∈ kFC := by decide +kernel
set_option maxRecDepth 100000 in
theorem f_self : ∀ E ∈ kX4, Cond.castable E E ∈ lw_tbl := List.forall_mem_cons.mpr ⟨List.mem_of_getElem? (i := 604) (by decide +kernel), List.forall_mem_cons.mpr ⟨List.mem_of_getElem? (i := 800) (by decide +kernel), List.forall_mem_cons.mpr ⟨List.mem_of_getElem? (i := 536) (by decide +kernel), List.forall_mem_cons.mpr ⟨List.mem_of_getElem? (i := 785) (by decide +kernel), fun _ h => absurd h List.not_mem_nil⟩⟩⟩⟩
set_option maxRecDepth 100000 in
theorem f_decl : ∀ y ∈ kDc, Cond.declares y ∈ lw_tbl := List.forall_mem_cons.mpr ⟨List.mem_of_getElem? (i := 537) (by decide +kernel), List.forall_mem_cons.mpr ⟨List.mem_of_getElem? (i := 539) (by decide +kernel), List.forall_mem_cons.mpr ⟨List.mem_of_getElem? (i := 541) (by decide +kernel), fun _ h => absurd h List.not_mem_nil⟩⟩⟩
set_option maxRecDepth 100000 in
theorem f_nest : ∀ q ∈ kNs, Cond.methodLinkNest q.1 q.2.1 q.2.2 RX11 ∈ lw_tbl := List.forall_mem_cons.mpr ⟨List.mem_of_getElem? (i := 116) (by decide +kernel), List.forall_mem_cons.mpr ⟨List.mem_of_getElem? (i := 161) (by decide +kernel), List.forall_mem_cons.mpr ⟨List.mem_of_getElem? (i := 196) (by decide +kernel), List.forall_mem_cons.mpr ⟨List.mem_of_getElem? (i := 202) (by decide +kernel), List.forall_mem_cons.mpr ⟨List.mem_of_getElem? (i := 220) (by decide +kernel), List.forall_mem_cons.mpr ⟨List.mem_of_getElem? (i := 258) (by decide +kernel), List.forall_mem_cons.mpr ⟨List.mem_of_getElem? (i := 286) (by decide +kernel), List.forall_mem_cons.mpr ⟨List.mem_of_getElem? (i := 308) (by decide +kernel), List.forall_mem_cons.mpr ⟨List.mem_of_getElem? (i := 313) (by decide +kernel), fun _ h => absurd h List.not_mem_nil⟩⟩⟩⟩⟩⟩⟩⟩⟩
set_option maxRecDepth 100000 in
theorem f_over : lw_tbl[271]? = some (Cond.arrayOver (.object RX6)) := by decide +kernel
set_option maxRecDepth 100000 in
theorem f_t1 : ∀ j, j < 8 → nI (rtF (gD p64 j) 2 37 0) = kT.1 j := by decide +kernel
set_option maxRecDepth 100000 in
theorem f_t2 : ∀ j, j < 64 → nI (rtF (gD p64 j) 3 37 0) = kT.2.1 j := by decide +kernel
set_option maxRecDepth 100000 in
theorem f_q : ∀ j, j < 32 → kT.2.2 j < 16 := by decide +kernel
set_option maxRecDepth 100000 in
theorem f_qt : qtO kT.2.2 := by unfold qtO; decide +kernel
theorem f_inst : ∀ (c : Nat) (r : vw_C), vwCl[c]? = some r → ∃ n, Cond.instantiable r.1 n ∈ kU
  | 0, r, h => by cases h; exact ⟨_, kn_X0.1⟩
  | 1, r, h => by cases h; exact ⟨_, kn_X1.1⟩
  | 2, r, h => by cases h; exact ⟨_, kn_X2.1⟩
  | 3, r, h => by cases h; exact ⟨_, kn_X3.1⟩
  | 4, r, h => by cases h; exact ⟨_, kn_X4.1⟩
  | 5, r, h => by cases h; exact ⟨_, kn_X6.1⟩
  | 6, r, h => by cases h; exact ⟨_, kn_X7.1⟩
  | 7, r, h => by cases h; exact ⟨_, kn_X8.1⟩
  | 8, r, h => by cases h; exact ⟨_, kn_X9.1⟩
  | 9, r, h => by cases h; exact ⟨_, kn_X10.1⟩
  | 10, r, h => by cases h; exact ⟨_, kn_X11.1⟩
  | 11, r, h => by cases h; exact ⟨_, kn_X12.1⟩
  | n + 12, r, h => by cases h
