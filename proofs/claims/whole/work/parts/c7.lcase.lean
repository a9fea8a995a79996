/-! the law's cases -/
def lwd (a b : Int32) : Int64 := (a.toInt64 <<< ((32 : Int32).toInt64 &&& 63)) ||| (b.toInt64 &&& 4294967295)
/-- what holds at the law's loop: the class and the reference hold the same state -/
def LI (T : TB) (S : SG) (i : Nat) (lc : kLo) (G : kG) : Prop := (lc 0 = some (.ref (1000000 + 4)) ∧ lc 1 = some (.ref 0) ∧ lc 2 = some (.ref 140) ∧ lc 3 = some (.ref 184) ∧ lc 4 = some (.int (nI i))) ∧ RC S G ∧ (∃ th, RMA T S th G) ∧ ∃ f, G.1 184 = some (OA f)
section LCase
variable {K : kK} {G : kG} {Q : kO → kG → Prop} {T : TB} {S : SG} {bc bs i L : Nat} {xs : Nat → Int32} {lc : kLo}
set_option maxRecDepth 100000 in
theorem L_type (hx : kSX K 4 = some (L, xs)) (hi : i + 5 ≤ L) (hL : L ≤ 320) (h : LI T S i lc G) (hq : ∀ G' lc', LI T (aTy S (lwd (xs (i + 1)) (xs (i + 2))) (xs (i + 3)).toInt).2.2 i lc' G' → V K bc bs mL_law 956 lc' [] G' Q) : V K (bc + 3) (bs + 18) mL_law 116 lc [] G Q := by
  obtain ⟨⟨l0, l1, l2, l3, l4⟩, hC, ⟨th, hR⟩, f, g184⟩ := h
  obtain ⟨tp, sp, g0⟩ := hC.sw
  have c1 : ∀ Q, (∀ G', Kp G G' → RC (aTy S (lwd (xs (i + 1)) (xs (i + 2))) (xs (i + 3)).toInt).2.2 G' → Q (.inl (some (.int (aTy S (lwd (xs (i + 1)) (xs (i + 2))) (xs (i + 3)).toInt).2.1))) G') → C K 0 0 mX11_type [.ref 0, .long (lwd (xs (i + 1)) (xs (i + 2))), .int (xs (i + 3))] G Q := fun Q hq => c_type hC hq
  have c2 : ∀ G1 Q, RMA T S th G1 → (∀ G', FP PM G1 G' → RMA T (aTy S (lwd (xs (i + 1)) (xs (i + 2))) (xs (i + 3)).toInt).2.2 0 G' → Q (.inl (some (.int (aTy S (lwd (xs (i + 1)) (xs (i + 2))) (xs (i + 3)).toInt).2.1))) G') → C K 0 0 mX12_type [.ref 140, .long (lwd (xs (i + 1)) (xs (i + 2))), .int (xs (i + 3))] G1 Q := fun G1 Q h hq => c_Mtype h hq
  generalize aTy S (lwd (xs (i + 1)) (xs (i + 2))) (xs (i + 3)).toInt = A at c1 c2 hq
  refine V_aload_n rfl (by first | rfl | assumption) ?_
  refine V_aload_n rfl (by first | rfl | assumption) ?_
  refine V_iload rfl (by first | rfl | assumption) ?_
  refine V_iconst (v := nI 1) rfl (by decide) ?_
  refine V_iaddN rfl ?_
  refine V_isldJ (j := 4) rfl hx rfl (by omega) (by omega) ?_
  refine V_i2l rfl ?_
  refine V_bipush (v := 32) rfl (by decide) ?_
  refine V_lshl rfl ?_
  refine V_aload_n rfl (by first | rfl | assumption) ?_
  refine V_iload rfl (by first | rfl | assumption) ?_
  refine V_iconst (v := nI 2) rfl (by decide) ?_
  refine V_iaddN rfl ?_
  refine V_isldJ (j := 4) rfl hx rfl (by omega) (by omega) ?_
  refine V_i2l rfl ?_
  refine V_ldc2 (v := 4294967295) rfl kc_L_69 ?_
  refine V_land rfl ?_
  refine V_lor rfl ?_
  refine V_aload_n rfl (by first | rfl | assumption) ?_
  refine V_iload rfl (by first | rfl | assumption) ?_
  refine V_iconst (v := nI 3) rfl (by decide) ?_
  refine V_iaddN rfl ?_
  refine V_isldJ (j := 4) rfl hx rfl (by omega) (by omega) ?_
  refine V_callV (M' := mX11_type) (mc := 0) (ms := 0) (bc' := bc) (bs' := bs) rfl cw_L_71 iv_X11_type g0 rfl rfl (Nat.le_of_ble_eq_true rfl) ⟨Nat.le_of_ble_eq_true rfl, Nat.le_of_ble_eq_true rfl⟩ ⟨by omega, by omega⟩ (As := [.long (lwd (xs (i + 1)) (xs (i + 2))), .int (xs (i + 3))]) (c1 (fun o G' => Kp G G' ∧ RC A.2.2 G' ∧ o = .inl (some (.int A.2.1))) (fun G' a b => ⟨a, b, rfl⟩)) (fun r G1 hr => ?_) (fun E G' hr => by cases hr.2.2)
  obtain ⟨k1, r1, e1⟩ := hr
  cases e1
  have hR1 : RMA T S th G1 := hR.fp (fun j a b => k1 j a)
  have g1 : G1.1 184 = some (OA f) := (k1 184 (by decide)).trans g184
  have o1 := hR1.2.2.2
  obtain ⟨hs1, ps1, rs1, o1⟩ := o1
  refine V_aload_n rfl (by first | rfl | assumption) ?_
  refine V_aload_n rfl (by first | rfl | assumption) ?_
  refine V_iload rfl (by first | rfl | assumption) ?_
  refine V_iconst (v := nI 1) rfl (by decide) ?_
  refine V_iaddN rfl ?_
  refine V_isldJ (j := 4) rfl hx rfl (by omega) (by omega) ?_
  refine V_i2l rfl ?_
  refine V_bipush (v := 32) rfl (by decide) ?_
  refine V_lshl rfl ?_
  refine V_aload_n rfl (by first | rfl | assumption) ?_
  refine V_iload rfl (by first | rfl | assumption) ?_
  refine V_iconst (v := nI 2) rfl (by decide) ?_
  refine V_iaddN rfl ?_
  refine V_isldJ (j := 4) rfl hx rfl (by omega) (by omega) ?_
  refine V_i2l rfl ?_
  refine V_ldc2 (v := 4294967295) rfl kc_L_69 ?_
  refine V_land rfl ?_
  refine V_lor rfl ?_
  refine V_aload_n rfl (by first | rfl | assumption) ?_
  refine V_iload rfl (by first | rfl | assumption) ?_
  refine V_iconst (v := nI 3) rfl (by decide) ?_
  refine V_iaddN rfl ?_
  refine V_isldJ (j := 4) rfl hx rfl (by omega) (by omega) ?_
  refine V_callV (M' := mX12_type) (mc := 0) (ms := 0) (bc' := bc) (bs' := bs) rfl cw_L_75 iv_X12_type o1 rfl rfl (Nat.le_of_ble_eq_true rfl) ⟨Nat.le_of_ble_eq_true rfl, Nat.le_of_ble_eq_true rfl⟩ ⟨by omega, by omega⟩ (As := [.long (lwd (xs (i + 1)) (xs (i + 2))), .int (xs (i + 3))]) (c2 G1 (fun o G' => FP PM G1 G' ∧ RMA T A.2.2 0 G' ∧ o = .inl (some (.int A.2.1))) hR1 (fun G' a b => ⟨a, b, rfl⟩)) (fun r G2 hr => ?_) (fun E G' hr => by cases hr.2.2)
  obtain ⟨F2, hR2, e2⟩ := hr
  cases e2
  have r2 : RC A.2.2 G2 := r1.fp (fun j hj => F2.2 j (fun q => by have := q.1; omega))
  have g2 := (F2.2 184 (by decide)).trans g1
  refine V_icmp_eq rfl (fun _ => ?_) (fun z => absurd rfl z)
  exact hq _ _ ⟨⟨l0, l1, l2, l3, l4⟩, r2, ⟨_, hR2⟩, _, g2⟩
set_option maxRecDepth 100000 in
theorem L_set (hx : kSX K 4 = some (L, xs)) (hi : i + 5 ≤ L) (hL : L ≤ 320) (h : LI T S i lc G) (hq : ∀ G' lc', LI T (aSt S (xs (i + 1)).toInt).2.2 i lc' G' → V K bc bs mL_law 956 lc' [] G' Q) : V K (bc + 3) (bs + 18) mL_law 185 lc [] G Q := by
  obtain ⟨⟨l0, l1, l2, l3, l4⟩, hC, ⟨th, hR⟩, f, g184⟩ := h
  obtain ⟨tp, sp, g0⟩ := hC.sw
  have c1 : ∀ Q, (∀ G', Kp G G' → RC (aSt S (xs (i + 1)).toInt).2.2 G' → Q (.inl (some (.int (nI (aSt S (xs (i + 1)).toInt).1)))) G') → CH K 1 6 mL_set hL_set [.ref 0, .int (xs (i + 1))] G Q := fun Q hq => w_set hC hq
  have c2 : ∀ G1 Q, RMA T S th G1 → (∀ G', FP PM G1 G' → RMA T (aSt S (xs (i + 1)).toInt).2.2 (nI (aSt S (xs (i + 1)).toInt).1) G' → Q (.inl none) G') → C K 0 0 mX12_set [.ref 140, .int (xs (i + 1))] G1 Q := fun G1 Q h hq => c_Mset h hq
  generalize aSt S (xs (i + 1)).toInt = A at c1 c2 hq
  refine V_aload_n rfl (by first | rfl | assumption) ?_
  refine V_aload_n rfl (by first | rfl | assumption) ?_
  refine V_iload rfl (by first | rfl | assumption) ?_
  refine V_iconst (v := nI 1) rfl (by decide) ?_
  refine V_iaddN rfl ?_
  refine V_isldJ (j := 4) rfl hx rfl (by omega) (by omega) ?_
  refine V_callSH (M' := mL_set) (hh := hL_set) (mc := 1) (ms := 6) (bc' := bc) (bs' := bs) rfl cl_L_76 is_L_set rfl (Nat.le_of_ble_eq_true rfl) ⟨Nat.le_of_ble_eq_true rfl, Nat.le_of_ble_eq_true rfl⟩ ⟨by omega, by omega⟩ (As := [.ref 0, .int (xs (i + 1))]) (c1 (fun o G' => Kp G G' ∧ RC A.2.2 G' ∧ o = .inl (some (.int (nI A.1)))) (fun G' a b => ⟨a, b, rfl⟩)) (fun r G1 hr => ?_) (fun E G' hr => by cases hr.2.2)
  obtain ⟨k1, r1, e1⟩ := hr
  cases e1
  have hR1 : RMA T S th G1 := hR.fp (fun j a b => k1 j a)
  have g1 : G1.1 184 = some (OA f) := (k1 184 (by decide)).trans g184
  have o1 := hR1.2.2.2
  obtain ⟨hs1, ps1, rs1, o1⟩ := o1
  refine V_istore rfl (by decide) ?_
  refine V_aload_n rfl (by first | rfl | assumption) ?_
  refine V_aload_n rfl (by first | rfl | assumption) ?_
  refine V_iload rfl (by first | rfl | assumption) ?_
  refine V_iconst (v := nI 1) rfl (by decide) ?_
  refine V_iaddN rfl ?_
  refine V_isldJ (j := 4) rfl hx rfl (by omega) (by omega) ?_
  refine V_callV (M' := mX12_set) (mc := 0) (ms := 0) (bc' := bc) (bs' := bs) rfl cw_L_81 iv_X12_set o1 rfl rfl (Nat.le_of_ble_eq_true rfl) ⟨Nat.le_of_ble_eq_true rfl, Nat.le_of_ble_eq_true rfl⟩ ⟨by omega, by omega⟩ (As := [.int (xs (i + 1))]) (c2 G1 (fun o G' => FP PM G1 G' ∧ RMA T A.2.2 (nI A.1) G' ∧ o = .inl none) hR1 (fun G' a b => ⟨a, b, rfl⟩)) (fun r G2 hr => ?_) (fun E G' hr => by cases hr.2.2)
  obtain ⟨F2, hR2, e2⟩ := hr
  cases e2
  have r2 : RC A.2.2 G2 := r1.fp (fun j hj => F2.2 j (fun q => by have := q.1; omega))
  have g2 := (F2.2 184 (by decide)).trans g1
  obtain ⟨hs2, ps2, rs2, o2⟩ := hR2.2.2.2
  refine V_aload_n rfl (by first | rfl | assumption) ?_
  refine V_callV (M' := mX12_thrown) (mc := 0) (ms := 0) (bc' := bc) (bs' := bs) rfl cw_L_82 iv_X12_thrown o2 rfl rfl (Nat.le_of_ble_eq_true rfl) ⟨Nat.le_of_ble_eq_true rfl, Nat.le_of_ble_eq_true rfl⟩ ⟨by omega, by omega⟩ (As := []) (c_mthrown (Q := fun o G' => G' = G2 ∧ o = .inl (some (.int (nI A.1)))) o2 ⟨rfl, rfl⟩) (fun r G3 hr => ?_) (fun E G' hr => by cases hr.2)
  obtain ⟨e3, e4⟩ := hr
  cases e4
  subst e3
  refine V_iload rfl (by first | rfl | assumption) ?_
  refine V_icmp_eq rfl (fun _ => ?_) (fun z => absurd rfl z)
  refine V_goto rfl ?_
  exact hq _ _ ⟨⟨l0, l1, l2, l3, l4⟩, r2, ⟨_, hR2⟩, _, g2⟩
set_option maxRecDepth 100000 in
theorem L_multiply (hx : kSX K 4 = some (L, xs)) (hi : i + 5 ≤ L) (hL : L ≤ 320) (h : LI T S i lc G) (hq : ∀ G' lc', LI T (aMu S).2.2 i lc' G' → V K bc bs mL_law 956 lc' [] G' Q) : V K (bc + 3) (bs + 18) mL_law 221 lc [] G Q := by
  obtain ⟨⟨l0, l1, l2, l3, l4⟩, hC, ⟨th, hR⟩, f, g184⟩ := h
  obtain ⟨tp, sp, g0⟩ := hC.sw
  have c1 : ∀ Q, (∀ G', Kp G G' → RC (aMu S).2.2 G' → Q (.inl (some (.int (nI (aMu S).1)))) G') → CH K 1 6 mL_multiply hL_multiply [.ref 0] G Q := fun Q hq => w_multiply hC hq
  have c2 : ∀ G1 Q, RMA T S th G1 → (∀ G', FP PM G1 G' → RMA T (aMu S).2.2 (nI (aMu S).1) G' → Q (.inl none) G') → C K 0 0 mX12_multiply [.ref 140] G1 Q := fun G1 Q h hq => c_Mmultiply h hq
  generalize aMu S = A at c1 c2 hq
  refine V_aload_n rfl (by first | rfl | assumption) ?_
  refine V_callSH (M' := mL_multiply) (hh := hL_multiply) (mc := 1) (ms := 6) (bc' := bc) (bs' := bs) rfl cl_L_86 is_L_multiply rfl (Nat.le_of_ble_eq_true rfl) ⟨Nat.le_of_ble_eq_true rfl, Nat.le_of_ble_eq_true rfl⟩ ⟨by omega, by omega⟩ (As := [.ref 0]) (c1 (fun o G' => Kp G G' ∧ RC A.2.2 G' ∧ o = .inl (some (.int (nI A.1)))) (fun G' a b => ⟨a, b, rfl⟩)) (fun r G1 hr => ?_) (fun E G' hr => by cases hr.2.2)
  obtain ⟨k1, r1, e1⟩ := hr
  cases e1
  have hR1 : RMA T S th G1 := hR.fp (fun j a b => k1 j a)
  have g1 : G1.1 184 = some (OA f) := (k1 184 (by decide)).trans g184
  have o1 := hR1.2.2.2
  obtain ⟨hs1, ps1, rs1, o1⟩ := o1
  refine V_istore rfl (by decide) ?_
  refine V_aload_n rfl (by first | rfl | assumption) ?_
  refine V_callV (M' := mX12_multiply) (mc := 0) (ms := 0) (bc' := bc) (bs' := bs) rfl cw_L_89 iv_X12_multiply o1 rfl rfl (Nat.le_of_ble_eq_true rfl) ⟨Nat.le_of_ble_eq_true rfl, Nat.le_of_ble_eq_true rfl⟩ ⟨by omega, by omega⟩ (As := []) (c2 G1 (fun o G' => FP PM G1 G' ∧ RMA T A.2.2 (nI A.1) G' ∧ o = .inl none) hR1 (fun G' a b => ⟨a, b, rfl⟩)) (fun r G2 hr => ?_) (fun E G' hr => by cases hr.2.2)
  obtain ⟨F2, hR2, e2⟩ := hr
  cases e2
  have r2 : RC A.2.2 G2 := r1.fp (fun j hj => F2.2 j (fun q => by have := q.1; omega))
  have g2 := (F2.2 184 (by decide)).trans g1
  obtain ⟨hs2, ps2, rs2, o2⟩ := hR2.2.2.2
  refine V_aload_n rfl (by first | rfl | assumption) ?_
  refine V_callV (M' := mX12_thrown) (mc := 0) (ms := 0) (bc' := bc) (bs' := bs) rfl cw_L_82 iv_X12_thrown o2 rfl rfl (Nat.le_of_ble_eq_true rfl) ⟨Nat.le_of_ble_eq_true rfl, Nat.le_of_ble_eq_true rfl⟩ ⟨by omega, by omega⟩ (As := []) (c_mthrown (Q := fun o G' => G' = G2 ∧ o = .inl (some (.int (nI A.1)))) o2 ⟨rfl, rfl⟩) (fun r G3 hr => ?_) (fun E G' hr => by cases hr.2)
  obtain ⟨e3, e4⟩ := hr
  cases e4
  subst e3
  refine V_iload rfl (by first | rfl | assumption) ?_
  refine V_icmp_eq rfl (fun _ => ?_) (fun z => absurd rfl z)
  refine V_goto rfl ?_
  exact hq _ _ ⟨⟨l0, l1, l2, l3, l4⟩, r2, ⟨_, hR2⟩, _, g2⟩
set_option maxRecDepth 100000 in
theorem L_hash (hT : tbl K T) (hx : kSX K 4 = some (L, xs)) (hi : i + 5 ≤ L) (hL : L ≤ 320) (h : LI T S i lc G) (hq : ∀ G' lc', LI T (aHa T S).2.2 i lc' G' → V K bc bs mL_law 956 lc' [] G' Q) : V K (bc + 3) (bs + 18) mL_law 245 lc [] G Q := by
  obtain ⟨⟨l0, l1, l2, l3, l4⟩, hC, ⟨th, hR⟩, f, g184⟩ := h
  obtain ⟨tp, sp, g0⟩ := hC.sw
  have c1 : ∀ Q, (∀ G', Kp G G' → RC (aHa T S).2.2 G' → Q (.inl none) G') → C K 0 0 mX11_hash [.ref 0] G Q := fun Q hq => c_hash hT hC hq
  have c2 : ∀ G1 Q, RMA T S th G1 → (∀ G', FP PM G1 G' → RMA T (aHa T S).2.2 (nI (aHa T S).1) G' → Q (.inl none) G') → C K 0 0 mX12_hash [.ref 140] G1 Q := fun G1 Q h hq => c_Mhash h hq
  generalize aHa T S = A at c1 c2 hq
  refine V_aload_n rfl (by first | rfl | assumption) ?_
  refine V_callV (M' := mX11_hash) (mc := 0) (ms := 0) (bc' := bc) (bs' := bs) rfl cw_L_90 iv_X11_hash g0 rfl rfl (Nat.le_of_ble_eq_true rfl) ⟨Nat.le_of_ble_eq_true rfl, Nat.le_of_ble_eq_true rfl⟩ ⟨by omega, by omega⟩ (As := []) (c1 (fun o G' => Kp G G' ∧ RC A.2.2 G' ∧ o = .inl none) (fun G' a b => ⟨a, b, rfl⟩)) (fun r G1 hr => ?_) (fun E G' hr => by cases hr.2.2)
  obtain ⟨k1, r1, e1⟩ := hr
  cases e1
  have hR1 : RMA T S th G1 := hR.fp (fun j a b => k1 j a)
  have g1 : G1.1 184 = some (OA f) := (k1 184 (by decide)).trans g184
  have o1 := hR1.2.2.2
  obtain ⟨hs1, ps1, rs1, o1⟩ := o1
  refine V_aload_n rfl (by first | rfl | assumption) ?_
  refine V_callV (M' := mX12_hash) (mc := 0) (ms := 0) (bc' := bc) (bs' := bs) rfl cw_L_93 iv_X12_hash o1 rfl rfl (Nat.le_of_ble_eq_true rfl) ⟨Nat.le_of_ble_eq_true rfl, Nat.le_of_ble_eq_true rfl⟩ ⟨by omega, by omega⟩ (As := []) (c2 G1 (fun o G' => FP PM G1 G' ∧ RMA T A.2.2 (nI A.1) G' ∧ o = .inl none) hR1 (fun G' a b => ⟨a, b, rfl⟩)) (fun r G2 hr => ?_) (fun E G' hr => by cases hr.2.2)
  obtain ⟨F2, hR2, e2⟩ := hr
  cases e2
  have r2 : RC A.2.2 G2 := r1.fp (fun j hj => F2.2 j (fun q => by have := q.1; omega))
  have g2 := (F2.2 184 (by decide)).trans g1
  refine V_goto rfl ?_
  exact hq _ _ ⟨⟨l0, l1, l2, l3, l4⟩, r2, ⟨_, hR2⟩, _, g2⟩
set_option maxRecDepth 100000 in
theorem L_stream (hqt : qtO T.2.2) (hT : tbl K T) (hx : kSX K 4 = some (L, xs)) (hi : i + 5 ≤ L) (hL : L ≤ 320) (h : LI T S i lc G) (hq : ∀ G' lc', LI T (aSr T S (lwd (xs (i + 1)) (xs (i + 2))).toInt (xs (i + 3)).toInt).2.2 i lc' G' → V K bc bs mL_law 956 lc' [] G' Q) : V K (bc + 3) (bs + 18) mL_law 256 lc [] G Q := by
  obtain ⟨⟨l0, l1, l2, l3, l4⟩, hC, ⟨th, hR⟩, f, g184⟩ := h
  obtain ⟨tp, sp, g0⟩ := hC.sw
  have c1 : ∀ Q, (∀ G', Kp G G' → RC (aSr T S (lwd (xs (i + 1)) (xs (i + 2))).toInt (xs (i + 3)).toInt).2.2 G' → Q (.inl (some (.int (nI (aSr T S (lwd (xs (i + 1)) (xs (i + 2))).toInt (xs (i + 3)).toInt).1)))) G') → CH K 1 6 mL_stream hL_stream [.ref 0, .long (lwd (xs (i + 1)) (xs (i + 2))), .int (xs (i + 3))] G Q := fun Q hq => w_stream hT hC hq
  have c2 : ∀ G1 Q, RMA T S th G1 → (∀ G', FP PM G1 G' → RMA T (aSr T S (lwd (xs (i + 1)) (xs (i + 2))).toInt (xs (i + 3)).toInt).2.2 (nI (aSr T S (lwd (xs (i + 1)) (xs (i + 2))).toInt (xs (i + 3)).toInt).1) G' → Q (.inl none) G') → C K 0 0 mX12_stream [.ref 140, .long (lwd (xs (i + 1)) (xs (i + 2))), .int (xs (i + 3))] G1 Q := fun G1 Q h hq => c_Mstream hqt h hq
  generalize aSr T S (lwd (xs (i + 1)) (xs (i + 2))).toInt (xs (i + 3)).toInt = A at c1 c2 hq
  refine V_aload_n rfl (by first | rfl | assumption) ?_
  refine V_aload_n rfl (by first | rfl | assumption) ?_
  refine V_iload rfl (by first | rfl | assumption) ?_
  refine V_iconst (v := nI 1) rfl (by decide) ?_
  refine V_iaddN rfl ?_
  refine V_isldJ (j := 4) rfl hx rfl (by omega) (by omega) ?_
  refine V_i2l rfl ?_
  refine V_bipush (v := 32) rfl (by decide) ?_
  refine V_lshl rfl ?_
  refine V_aload_n rfl (by first | rfl | assumption) ?_
  refine V_iload rfl (by first | rfl | assumption) ?_
  refine V_iconst (v := nI 2) rfl (by decide) ?_
  refine V_iaddN rfl ?_
  refine V_isldJ (j := 4) rfl hx rfl (by omega) (by omega) ?_
  refine V_i2l rfl ?_
  refine V_ldc2 (v := 4294967295) rfl kc_L_69 ?_
  refine V_land rfl ?_
  refine V_lor rfl ?_
  refine V_aload_n rfl (by first | rfl | assumption) ?_
  refine V_iload rfl (by first | rfl | assumption) ?_
  refine V_iconst (v := nI 3) rfl (by decide) ?_
  refine V_iaddN rfl ?_
  refine V_isldJ (j := 4) rfl hx rfl (by omega) (by omega) ?_
  refine V_callSH (M' := mL_stream) (hh := hL_stream) (mc := 1) (ms := 6) (bc' := bc) (bs' := bs) rfl cl_L_94 is_L_stream rfl (Nat.le_of_ble_eq_true rfl) ⟨Nat.le_of_ble_eq_true rfl, Nat.le_of_ble_eq_true rfl⟩ ⟨by omega, by omega⟩ (As := [.ref 0, .long (lwd (xs (i + 1)) (xs (i + 2))), .int (xs (i + 3))]) (c1 (fun o G' => Kp G G' ∧ RC A.2.2 G' ∧ o = .inl (some (.int (nI A.1)))) (fun G' a b => ⟨a, b, rfl⟩)) (fun r G1 hr => ?_) (fun E G' hr => by cases hr.2.2)
  obtain ⟨k1, r1, e1⟩ := hr
  cases e1
  have hR1 : RMA T S th G1 := hR.fp (fun j a b => k1 j a)
  have g1 : G1.1 184 = some (OA f) := (k1 184 (by decide)).trans g184
  have o1 := hR1.2.2.2
  obtain ⟨hs1, ps1, rs1, o1⟩ := o1
  refine V_istore rfl (by decide) ?_
  refine V_aload_n rfl (by first | rfl | assumption) ?_
  refine V_aload_n rfl (by first | rfl | assumption) ?_
  refine V_iload rfl (by first | rfl | assumption) ?_
  refine V_iconst (v := nI 1) rfl (by decide) ?_
  refine V_iaddN rfl ?_
  refine V_isldJ (j := 4) rfl hx rfl (by omega) (by omega) ?_
  refine V_i2l rfl ?_
  refine V_bipush (v := 32) rfl (by decide) ?_
  refine V_lshl rfl ?_
  refine V_aload_n rfl (by first | rfl | assumption) ?_
  refine V_iload rfl (by first | rfl | assumption) ?_
  refine V_iconst (v := nI 2) rfl (by decide) ?_
  refine V_iaddN rfl ?_
  refine V_isldJ (j := 4) rfl hx rfl (by omega) (by omega) ?_
  refine V_i2l rfl ?_
  refine V_ldc2 (v := 4294967295) rfl kc_L_69 ?_
  refine V_land rfl ?_
  refine V_lor rfl ?_
  refine V_aload_n rfl (by first | rfl | assumption) ?_
  refine V_iload rfl (by first | rfl | assumption) ?_
  refine V_iconst (v := nI 3) rfl (by decide) ?_
  refine V_iaddN rfl ?_
  refine V_isldJ (j := 4) rfl hx rfl (by omega) (by omega) ?_
  refine V_callV (M' := mX12_stream) (mc := 0) (ms := 0) (bc' := bc) (bs' := bs) rfl cw_L_97 iv_X12_stream o1 rfl rfl (Nat.le_of_ble_eq_true rfl) ⟨Nat.le_of_ble_eq_true rfl, Nat.le_of_ble_eq_true rfl⟩ ⟨by omega, by omega⟩ (As := [.long (lwd (xs (i + 1)) (xs (i + 2))), .int (xs (i + 3))]) (c2 G1 (fun o G' => FP PM G1 G' ∧ RMA T A.2.2 (nI A.1) G' ∧ o = .inl none) hR1 (fun G' a b => ⟨a, b, rfl⟩)) (fun r G2 hr => ?_) (fun E G' hr => by cases hr.2.2)
  obtain ⟨F2, hR2, e2⟩ := hr
  cases e2
  have r2 : RC A.2.2 G2 := r1.fp (fun j hj => F2.2 j (fun q => by have := q.1; omega))
  have g2 := (F2.2 184 (by decide)).trans g1
  obtain ⟨hs2, ps2, rs2, o2⟩ := hR2.2.2.2
  refine V_aload_n rfl (by first | rfl | assumption) ?_
  refine V_callV (M' := mX12_thrown) (mc := 0) (ms := 0) (bc' := bc) (bs' := bs) rfl cw_L_82 iv_X12_thrown o2 rfl rfl (Nat.le_of_ble_eq_true rfl) ⟨Nat.le_of_ble_eq_true rfl, Nat.le_of_ble_eq_true rfl⟩ ⟨by omega, by omega⟩ (As := []) (c_mthrown (Q := fun o G' => G' = G2 ∧ o = .inl (some (.int (nI A.1)))) o2 ⟨rfl, rfl⟩) (fun r G3 hr => ?_) (fun E G' hr => by cases hr.2)
  obtain ⟨e3, e4⟩ := hr
  cases e4
  subst e3
  refine V_iload rfl (by first | rfl | assumption) ?_
  refine V_icmp_eq rfl (fun _ => ?_) (fun z => absurd rfl z)
  refine V_goto rfl ?_
  exact hq _ _ ⟨⟨l0, l1, l2, l3, l4⟩, r2, ⟨_, hR2⟩, _, g2⟩
set_option maxRecDepth 100000 in
theorem L_tag (hx : kSX K 4 = some (L, xs)) (hi : i + 5 ≤ L) (hL : L ≤ 320) (h : LI T S i lc G) (hq : ∀ G' lc', LI T (aTg S).2.2 i lc' G' → V K bc bs mL_law 956 lc' [] G' Q) : V K (bc + 3) (bs + 18) mL_law 336 lc [] G Q := by
  obtain ⟨⟨l0, l1, l2, l3, l4⟩, hC, ⟨th, hR⟩, f, g184⟩ := h
  obtain ⟨tp, sp, g0⟩ := hC.sw
  have c1 : ∀ Q, (∀ G', Kp G G' → RC (aTg S).2.2 G' → Q (.inl (some (.int (nI (aTg S).1)))) G') → CH K 1 6 mL_tag hL_tag [.ref 0] G Q := fun Q hq => w_tag hC hq
  have c2 : ∀ G1 Q, RMA T S th G1 → (∀ G', FP PM G1 G' → RMA T (aTg S).2.2 (nI (aTg S).1) G' → Q (.inl none) G') → C K 0 0 mX12_tag [.ref 140] G1 Q := fun G1 Q h hq => c_Mtag h hq
  generalize aTg S = A at c1 c2 hq
  refine V_aload_n rfl (by first | rfl | assumption) ?_
  refine V_callSH (M' := mL_tag) (hh := hL_tag) (mc := 1) (ms := 6) (bc' := bc) (bs' := bs) rfl cl_L_98 is_L_tag rfl (Nat.le_of_ble_eq_true rfl) ⟨Nat.le_of_ble_eq_true rfl, Nat.le_of_ble_eq_true rfl⟩ ⟨by omega, by omega⟩ (As := [.ref 0]) (c1 (fun o G' => Kp G G' ∧ RC A.2.2 G' ∧ o = .inl (some (.int (nI A.1)))) (fun G' a b => ⟨a, b, rfl⟩)) (fun r G1 hr => ?_) (fun E G' hr => by cases hr.2.2)
  obtain ⟨k1, r1, e1⟩ := hr
  cases e1
  have hR1 : RMA T S th G1 := hR.fp (fun j a b => k1 j a)
  have g1 : G1.1 184 = some (OA f) := (k1 184 (by decide)).trans g184
  have o1 := hR1.2.2.2
  obtain ⟨hs1, ps1, rs1, o1⟩ := o1
  refine V_istore rfl (by decide) ?_
  refine V_aload_n rfl (by first | rfl | assumption) ?_
  refine V_callV (M' := mX12_tag) (mc := 0) (ms := 0) (bc' := bc) (bs' := bs) rfl cw_L_100 iv_X12_tag o1 rfl rfl (Nat.le_of_ble_eq_true rfl) ⟨Nat.le_of_ble_eq_true rfl, Nat.le_of_ble_eq_true rfl⟩ ⟨by omega, by omega⟩ (As := []) (c2 G1 (fun o G' => FP PM G1 G' ∧ RMA T A.2.2 (nI A.1) G' ∧ o = .inl none) hR1 (fun G' a b => ⟨a, b, rfl⟩)) (fun r G2 hr => ?_) (fun E G' hr => by cases hr.2.2)
  obtain ⟨F2, hR2, e2⟩ := hr
  cases e2
  have r2 : RC A.2.2 G2 := r1.fp (fun j hj => F2.2 j (fun q => by have := q.1; omega))
  have g2 := (F2.2 184 (by decide)).trans g1
  obtain ⟨hs2, ps2, rs2, o2⟩ := hR2.2.2.2
  refine V_aload_n rfl (by first | rfl | assumption) ?_
  refine V_callV (M' := mX12_thrown) (mc := 0) (ms := 0) (bc' := bc) (bs' := bs) rfl cw_L_82 iv_X12_thrown o2 rfl rfl (Nat.le_of_ble_eq_true rfl) ⟨Nat.le_of_ble_eq_true rfl, Nat.le_of_ble_eq_true rfl⟩ ⟨by omega, by omega⟩ (As := []) (c_mthrown (Q := fun o G' => G' = G2 ∧ o = .inl (some (.int (nI A.1)))) o2 ⟨rfl, rfl⟩) (fun r G3 hr => ?_) (fun E G' hr => by cases hr.2)
  obtain ⟨e3, e4⟩ := hr
  cases e4
  subst e3
  refine V_iload rfl (by first | rfl | assumption) ?_
  refine V_icmp_eq rfl (fun _ => ?_) (fun z => absurd rfl z)
  refine V_goto rfl ?_
  exact hq _ _ ⟨⟨l0, l1, l2, l3, l4⟩, r2, ⟨_, hR2⟩, _, g2⟩
set_option maxRecDepth 100000 in
theorem L_out (hx : kSX K 4 = some (L, xs)) (hi : i + 5 ≤ L) (hL : L ≤ 320) (h : LI T S i lc G) (hq : ∀ G' lc', LI T (aOu S (xs (i + 1)).toInt).2.2 i lc' G' → V K bc bs mL_law 956 lc' [] G' Q) : V K (bc + 3) (bs + 18) mL_law 360 lc [] G Q := by
  obtain ⟨⟨l0, l1, l2, l3, l4⟩, hC, ⟨th, hR⟩, f, g184⟩ := h
  obtain ⟨tp, sp, g0⟩ := hC.sw
  have c1 : ∀ Q, (∀ G' f', Kq G G' → RC (aOu S (xs (i + 1)).toInt).2.2 G' → G'.1 184 = some (OA f') → ((aOu S (xs (i + 1)).toInt).1 = 0 → f' 0 = (aOu S (xs (i + 1)).toInt).2.1.toInt64) → Q (.inl (some (.int (nI (aOu S (xs (i + 1)).toInt).1)))) G') → CH K 1 6 mL_out hL_out [.ref 0, .int (xs (i + 1)), .ref 184] G Q := fun Q hq => w_out hC g184 hq
  have c2 : ∀ G1 Q, RMA T S th G1 → (∀ G', FP PM G1 G' → RMA T (aOu S (xs (i + 1)).toInt).2.2 (nI (aOu S (xs (i + 1)).toInt).1) G' → Q (.inl (some (.int (aOu S (xs (i + 1)).toInt).2.1))) G') → C K 0 0 mX12_out [.ref 140, .int (xs (i + 1))] G1 Q := fun G1 Q h hq => c_Mout h hq
  have hc : (aOu S (xs (i + 1)).toInt).1 ≤ 3 := Nat.le_trans cd_out (by decide)
  generalize aOu S (xs (i + 1)).toInt = A at c1 c2 hq hc
  refine V_aload_n rfl (by first | rfl | assumption) ?_
  refine V_aload_n rfl (by first | rfl | assumption) ?_
  refine V_iload rfl (by first | rfl | assumption) ?_
  refine V_iconst (v := nI 1) rfl (by decide) ?_
  refine V_iaddN rfl ?_
  refine V_isldJ (j := 4) rfl hx rfl (by omega) (by omega) ?_
  refine V_aload_n rfl (by first | rfl | assumption) ?_
  refine V_callSH (M' := mL_out) (hh := hL_out) (mc := 1) (ms := 6) (bc' := bc) (bs' := bs) rfl cl_L_101 is_L_out rfl (Nat.le_of_ble_eq_true rfl) ⟨Nat.le_of_ble_eq_true rfl, Nat.le_of_ble_eq_true rfl⟩ ⟨by omega, by omega⟩ (As := [.ref 0, .int (xs (i + 1)), .ref 184]) (c1 (fun o G' => ∃ f', Kq G G' ∧ RC A.2.2 G' ∧ G'.1 184 = some (OA f') ∧ (A.1 = 0 → f' 0 = A.2.1.toInt64) ∧ o = .inl (some (.int (nI A.1)))) (fun G' f' a b c d => ⟨f', a, b, c, d, rfl⟩)) (fun r G1 hr => ?_) (fun E G' hr => by obtain ⟨_, _, _, _, _, q⟩ := hr; cases q)
  obtain ⟨f1, k1, r1, g1, hf, e1⟩ := hr
  cases e1
  have hR1 : RMA T S th G1 := hR.fp (fun j a b => k1 j a (by omega))
  have o1 := hR1.2.2.2
  obtain ⟨hs1, ps1, rs1, o1⟩ := o1
  refine V_istore rfl (by decide) ?_
  refine V_aload_n rfl (by first | rfl | assumption) ?_
  refine V_aload_n rfl (by first | rfl | assumption) ?_
  refine V_iload rfl (by first | rfl | assumption) ?_
  refine V_iconst (v := nI 1) rfl (by decide) ?_
  refine V_iaddN rfl ?_
  refine V_isldJ (j := 4) rfl hx rfl (by omega) (by omega) ?_
  refine V_callV (M' := mX12_out) (mc := 0) (ms := 0) (bc' := bc) (bs' := bs) rfl cw_L_104 iv_X12_out o1 rfl rfl (Nat.le_of_ble_eq_true rfl) ⟨Nat.le_of_ble_eq_true rfl, Nat.le_of_ble_eq_true rfl⟩ ⟨by omega, by omega⟩ (As := [.int (xs (i + 1))]) (c2 G1 (fun o G' => FP PM G1 G' ∧ RMA T A.2.2 (nI A.1) G' ∧ o = .inl (some (.int A.2.1))) hR1 (fun G' a b => ⟨a, b, rfl⟩)) (fun r G2 hr => ?_) (fun E G' hr => by cases hr.2.2)
  obtain ⟨F2, hR2, e2⟩ := hr
  cases e2
  have r2 : RC A.2.2 G2 := r1.fp (fun j hj => F2.2 j (fun q => by have := q.1; omega))
  have g2 := (F2.2 184 (by decide)).trans g1
  refine V_istore rfl (by decide) ?_
  obtain ⟨hs2, ps2, rs2, o2⟩ := hR2.2.2.2
  refine V_aload_n rfl (by first | rfl | assumption) ?_
  refine V_callV (M' := mX12_thrown) (mc := 0) (ms := 0) (bc' := bc) (bs' := bs) rfl cw_L_82 iv_X12_thrown o2 rfl rfl (Nat.le_of_ble_eq_true rfl) ⟨Nat.le_of_ble_eq_true rfl, Nat.le_of_ble_eq_true rfl⟩ ⟨by omega, by omega⟩ (As := []) (c_mthrown (Q := fun o G' => G' = G2 ∧ o = .inl (some (.int (nI A.1)))) o2 ⟨rfl, rfl⟩) (fun r G3 hr => ?_) (fun E G' hr => by cases hr.2)
  obtain ⟨e3, e4⟩ := hr
  cases e4
  subst e3
  refine V_iload rfl (by first | rfl | assumption) ?_
  refine V_icmp_eq rfl (fun _ => ?_) (fun z => absurd rfl z)
  refine V_iload rfl (by first | rfl | assumption) ?_
  refine V_if_neN rfl (by omega) (fun z => ?_) (fun z => ?_)
  · refine V_goto rfl ?_
    exact hq _ _ ⟨⟨l0, l1, l2, l3, l4⟩, r2, ⟨_, hR2⟩, _, g2⟩
  · refine V_aload_n rfl (by first | rfl | assumption) ?_
    refine V_iconst (v := nI 0) rfl (by decide) ?_
    refine V_laldJ rfl g2 rfl (by decide) (by decide) ?_
    refine V_iload rfl (by first | rfl | assumption) ?_
    refine V_i2l rfl ?_
    refine V_lcmp rfl ?_
    refine V_if_eq rfl (fun _ => ?_) (fun y => absurd (lg_cmp0.mpr (hf z)) y)
    refine V_goto rfl ?_
    exact hq _ _ ⟨⟨l0, l1, l2, l3, l4⟩, r2, ⟨_, hR2⟩, _, g2⟩
set_option maxRecDepth 100000 in
theorem L_begin {B : Nat} (hqt : qtO T.2.2) (hT : tbl K T) (hx : kSX K 4 = some (L, xs)) (hi : i + 5 ≤ L) (hL : L ≤ 320) (h : LI T S i lc G) (hB : bnd S B) (hB2 : B < 2 ^ 20) (hq : ∀ G' lc', LI T (aBg T S (xs (i + 1)).toInt).2.2 i lc' G' → V K bc bs mL_law 956 lc' [] G' Q) : V K (bc + 3) (bs + 18) mL_law 416 lc [] G Q := by
  obtain ⟨⟨l0, l1, l2, l3, l4⟩, hC, ⟨th, hR⟩, f, g184⟩ := h
  obtain ⟨tp, sp, g0⟩ := hC.sw
  have c1 : ∀ Q, (∀ G', Kp G G' → RC (aBg T S (xs (i + 1)).toInt).2.2 G' → Q (.inl (some (.int (nI (aBg T S (xs (i + 1)).toInt).1)))) G') → CH K 2 12 mL_begin hL_begin [.ref 0, .int (xs (i + 1))] G Q := fun Q hq => w_begin hT hC hB hB2 hq
  have c2 : ∀ G1 Q, RMA T S th G1 → (∀ G', FP PM G1 G' → RMA T (aBg T S (xs (i + 1)).toInt).2.2 (nI (aBg T S (xs (i + 1)).toInt).1) G' → Q (.inl none) G') → C K 0 0 mX12_begin [.ref 140, .int (xs (i + 1))] G1 Q := fun G1 Q h hq => c_Mbegin hqt h hB (Nat.lt_trans hB2 (by decide)) hq
  generalize aBg T S (xs (i + 1)).toInt = A at c1 c2 hq
  refine V_aload_n rfl (by first | rfl | assumption) ?_
  refine V_aload_n rfl (by first | rfl | assumption) ?_
  refine V_iload rfl (by first | rfl | assumption) ?_
  refine V_iconst (v := nI 1) rfl (by decide) ?_
  refine V_iaddN rfl ?_
  refine V_isldJ (j := 4) rfl hx rfl (by omega) (by omega) ?_
  refine V_callSH (M' := mL_begin) (hh := hL_begin) (mc := 2) (ms := 12) (bc' := bc) (bs' := bs) rfl cl_L_105 is_L_begin rfl (Nat.le_of_ble_eq_true rfl) ⟨Nat.le_of_ble_eq_true rfl, Nat.le_of_ble_eq_true rfl⟩ ⟨by omega, by omega⟩ (As := [.ref 0, .int (xs (i + 1))]) (c1 (fun o G' => Kp G G' ∧ RC A.2.2 G' ∧ o = .inl (some (.int (nI A.1)))) (fun G' a b => ⟨a, b, rfl⟩)) (fun r G1 hr => ?_) (fun E G' hr => by cases hr.2.2)
  obtain ⟨k1, r1, e1⟩ := hr
  cases e1
  have hR1 : RMA T S th G1 := hR.fp (fun j a b => k1 j a)
  have g1 : G1.1 184 = some (OA f) := (k1 184 (by decide)).trans g184
  have o1 := hR1.2.2.2
  obtain ⟨hs1, ps1, rs1, o1⟩ := o1
  refine V_istore rfl (by decide) ?_
  refine V_aload_n rfl (by first | rfl | assumption) ?_
  refine V_aload_n rfl (by first | rfl | assumption) ?_
  refine V_iload rfl (by first | rfl | assumption) ?_
  refine V_iconst (v := nI 1) rfl (by decide) ?_
  refine V_iaddN rfl ?_
  refine V_isldJ (j := 4) rfl hx rfl (by omega) (by omega) ?_
  refine V_callV (M' := mX12_begin) (mc := 0) (ms := 0) (bc' := bc) (bs' := bs) rfl cw_L_107 iv_X12_begin o1 rfl rfl (Nat.le_of_ble_eq_true rfl) ⟨Nat.le_of_ble_eq_true rfl, Nat.le_of_ble_eq_true rfl⟩ ⟨by omega, by omega⟩ (As := [.int (xs (i + 1))]) (c2 G1 (fun o G' => FP PM G1 G' ∧ RMA T A.2.2 (nI A.1) G' ∧ o = .inl none) hR1 (fun G' a b => ⟨a, b, rfl⟩)) (fun r G2 hr => ?_) (fun E G' hr => by cases hr.2.2)
  obtain ⟨F2, hR2, e2⟩ := hr
  cases e2
  have r2 : RC A.2.2 G2 := r1.fp (fun j hj => F2.2 j (fun q => by have := q.1; omega))
  have g2 := (F2.2 184 (by decide)).trans g1
  obtain ⟨hs2, ps2, rs2, o2⟩ := hR2.2.2.2
  refine V_aload_n rfl (by first | rfl | assumption) ?_
  refine V_callV (M' := mX12_thrown) (mc := 0) (ms := 0) (bc' := bc) (bs' := bs) rfl cw_L_82 iv_X12_thrown o2 rfl rfl (Nat.le_of_ble_eq_true rfl) ⟨Nat.le_of_ble_eq_true rfl, Nat.le_of_ble_eq_true rfl⟩ ⟨by omega, by omega⟩ (As := []) (c_mthrown (Q := fun o G' => G' = G2 ∧ o = .inl (some (.int (nI A.1)))) o2 ⟨rfl, rfl⟩) (fun r G3 hr => ?_) (fun E G' hr => by cases hr.2)
  obtain ⟨e3, e4⟩ := hr
  cases e4
  subst e3
  refine V_iload rfl (by first | rfl | assumption) ?_
  refine V_icmp_eq rfl (fun _ => ?_) (fun z => absurd rfl z)
  refine V_goto rfl ?_
  exact hq _ _ ⟨⟨l0, l1, l2, l3, l4⟩, r2, ⟨_, hR2⟩, _, g2⟩
set_option maxRecDepth 100000 in
theorem L_send {B : Nat} (hqt : qtO T.2.2) (hT : tbl K T) (hx : kSX K 4 = some (L, xs)) (hi : i + 5 ≤ L) (hL : L ≤ 320) (h : LI T S i lc G) (hB : bnd S B) (hB2 : B < 2 ^ 20) (hq : ∀ G' lc', LI T (aSd T S (xs (i + 1)).toInt).2.2 i lc' G' → V K bc bs mL_law 956 lc' [] G' Q) : V K (bc + 3) (bs + 18) mL_law 452 lc [] G Q := by
  obtain ⟨⟨l0, l1, l2, l3, l4⟩, hC, ⟨th, hR⟩, f, g184⟩ := h
  obtain ⟨tp, sp, g0⟩ := hC.sw
  have c1 : ∀ Q, (∀ G', Kp G G' → RC (aSd T S (xs (i + 1)).toInt).2.2 G' → Q (.inl (some (.int (nI (aSd T S (xs (i + 1)).toInt).1)))) G') → CH K 2 12 mL_send hL_send [.ref 0, .int (xs (i + 1))] G Q := fun Q hq => w_send hT hC hB hB2 hq
  have c2 : ∀ G1 Q, RMA T S th G1 → (∀ G', FP PM G1 G' → RMA T (aSd T S (xs (i + 1)).toInt).2.2 (nI (aSd T S (xs (i + 1)).toInt).1) G' → Q (.inl none) G') → C K 0 0 mX12_send [.ref 140, .int (xs (i + 1))] G1 Q := fun G1 Q h hq => c_Msend hqt h hB (Nat.lt_trans hB2 (by decide)) hq
  generalize aSd T S (xs (i + 1)).toInt = A at c1 c2 hq
  refine V_aload_n rfl (by first | rfl | assumption) ?_
  refine V_aload_n rfl (by first | rfl | assumption) ?_
  refine V_iload rfl (by first | rfl | assumption) ?_
  refine V_iconst (v := nI 1) rfl (by decide) ?_
  refine V_iaddN rfl ?_
  refine V_isldJ (j := 4) rfl hx rfl (by omega) (by omega) ?_
  refine V_callSH (M' := mL_send) (hh := hL_send) (mc := 2) (ms := 12) (bc' := bc) (bs' := bs) rfl cl_L_108 is_L_send rfl (Nat.le_of_ble_eq_true rfl) ⟨Nat.le_of_ble_eq_true rfl, Nat.le_of_ble_eq_true rfl⟩ ⟨by omega, by omega⟩ (As := [.ref 0, .int (xs (i + 1))]) (c1 (fun o G' => Kp G G' ∧ RC A.2.2 G' ∧ o = .inl (some (.int (nI A.1)))) (fun G' a b => ⟨a, b, rfl⟩)) (fun r G1 hr => ?_) (fun E G' hr => by cases hr.2.2)
  obtain ⟨k1, r1, e1⟩ := hr
  cases e1
  have hR1 : RMA T S th G1 := hR.fp (fun j a b => k1 j a)
  have g1 : G1.1 184 = some (OA f) := (k1 184 (by decide)).trans g184
  have o1 := hR1.2.2.2
  obtain ⟨hs1, ps1, rs1, o1⟩ := o1
  refine V_istore rfl (by decide) ?_
  refine V_aload_n rfl (by first | rfl | assumption) ?_
  refine V_aload_n rfl (by first | rfl | assumption) ?_
  refine V_iload rfl (by first | rfl | assumption) ?_
  refine V_iconst (v := nI 1) rfl (by decide) ?_
  refine V_iaddN rfl ?_
  refine V_isldJ (j := 4) rfl hx rfl (by omega) (by omega) ?_
  refine V_callV (M' := mX12_send) (mc := 0) (ms := 0) (bc' := bc) (bs' := bs) rfl cw_L_110 iv_X12_send o1 rfl rfl (Nat.le_of_ble_eq_true rfl) ⟨Nat.le_of_ble_eq_true rfl, Nat.le_of_ble_eq_true rfl⟩ ⟨by omega, by omega⟩ (As := [.int (xs (i + 1))]) (c2 G1 (fun o G' => FP PM G1 G' ∧ RMA T A.2.2 (nI A.1) G' ∧ o = .inl none) hR1 (fun G' a b => ⟨a, b, rfl⟩)) (fun r G2 hr => ?_) (fun E G' hr => by cases hr.2.2)
  obtain ⟨F2, hR2, e2⟩ := hr
  cases e2
  have r2 : RC A.2.2 G2 := r1.fp (fun j hj => F2.2 j (fun q => by have := q.1; omega))
  have g2 := (F2.2 184 (by decide)).trans g1
  obtain ⟨hs2, ps2, rs2, o2⟩ := hR2.2.2.2
  refine V_aload_n rfl (by first | rfl | assumption) ?_
  refine V_callV (M' := mX12_thrown) (mc := 0) (ms := 0) (bc' := bc) (bs' := bs) rfl cw_L_82 iv_X12_thrown o2 rfl rfl (Nat.le_of_ble_eq_true rfl) ⟨Nat.le_of_ble_eq_true rfl, Nat.le_of_ble_eq_true rfl⟩ ⟨by omega, by omega⟩ (As := []) (c_mthrown (Q := fun o G' => G' = G2 ∧ o = .inl (some (.int (nI A.1)))) o2 ⟨rfl, rfl⟩) (fun r G3 hr => ?_) (fun E G' hr => by cases hr.2)
  obtain ⟨e3, e4⟩ := hr
  cases e4
  subst e3
  refine V_iload rfl (by first | rfl | assumption) ?_
  refine V_icmp_eq rfl (fun _ => ?_) (fun z => absurd rfl z)
  refine V_goto rfl ?_
  exact hq _ _ ⟨⟨l0, l1, l2, l3, l4⟩, r2, ⟨_, hR2⟩, _, g2⟩
set_option maxRecDepth 100000 in
theorem L_come {B : Nat} (hqt : qtO T.2.2) (hT : tbl K T) (hx : kSX K 4 = some (L, xs)) (hi : i + 5 ≤ L) (hL : L ≤ 320) (h : LI T S i lc G) (hB : bnd S B) (hB2 : B < 2 ^ 20) (hI : ivE S) (hq : ∀ G' lc', LI T (aCm T S (xs (i + 1)).toInt).2.2 i lc' G' → V K bc bs mL_law 956 lc' [] G' Q) : V K (bc + 3) (bs + 18) mL_law 488 lc [] G Q := by
  obtain ⟨⟨l0, l1, l2, l3, l4⟩, hC, ⟨th, hR⟩, f, g184⟩ := h
  obtain ⟨tp, sp, g0⟩ := hC.sw
  have c1 : ∀ Q, (∀ G' f', Kq G G' → RC (aCm T S (xs (i + 1)).toInt).2.2 G' → G'.1 184 = some (OA f') → ((aCm T S (xs (i + 1)).toInt).1 = 0 → f' 0 = (aCm T S (xs (i + 1)).toInt).2.1.toInt64) → Q (.inl (some (.int (nI (aCm T S (xs (i + 1)).toInt).1)))) G') → CH K 1 6 mL_come hL_come [.ref 0, .int (xs (i + 1)), .ref 184] G Q := fun Q hq => w_come hT hC hB hB2 g184 hq
  have c2 : ∀ G1 Q, RMA T S th G1 → (∀ G', FP PM G1 G' → RMA T (aCm T S (xs (i + 1)).toInt).2.2 (nI (aCm T S (xs (i + 1)).toInt).1) G' → Q (.inl (some (.int (aCm T S (xs (i + 1)).toInt).2.1))) G') → C K 0 0 mX12_come [.ref 140, .int (xs (i + 1))] G1 Q := fun G1 Q h hq => c_Mcome hqt h hB (Nat.lt_trans hB2 (by decide)) hI hq
  have hc : (aCm T S (xs (i + 1)).toInt).1 ≤ 3 := Nat.le_trans cd_come (by decide)
  generalize aCm T S (xs (i + 1)).toInt = A at c1 c2 hq hc
  refine V_aload_n rfl (by first | rfl | assumption) ?_
  refine V_aload_n rfl (by first | rfl | assumption) ?_
  refine V_iload rfl (by first | rfl | assumption) ?_
  refine V_iconst (v := nI 1) rfl (by decide) ?_
  refine V_iaddN rfl ?_
  refine V_isldJ (j := 4) rfl hx rfl (by omega) (by omega) ?_
  refine V_aload_n rfl (by first | rfl | assumption) ?_
  refine V_callSH (M' := mL_come) (hh := hL_come) (mc := 1) (ms := 6) (bc' := bc) (bs' := bs) rfl cl_L_111 is_L_come rfl (Nat.le_of_ble_eq_true rfl) ⟨Nat.le_of_ble_eq_true rfl, Nat.le_of_ble_eq_true rfl⟩ ⟨by omega, by omega⟩ (As := [.ref 0, .int (xs (i + 1)), .ref 184]) (c1 (fun o G' => ∃ f', Kq G G' ∧ RC A.2.2 G' ∧ G'.1 184 = some (OA f') ∧ (A.1 = 0 → f' 0 = A.2.1.toInt64) ∧ o = .inl (some (.int (nI A.1)))) (fun G' f' a b c d => ⟨f', a, b, c, d, rfl⟩)) (fun r G1 hr => ?_) (fun E G' hr => by obtain ⟨_, _, _, _, _, q⟩ := hr; cases q)
  obtain ⟨f1, k1, r1, g1, hf, e1⟩ := hr
  cases e1
  have hR1 : RMA T S th G1 := hR.fp (fun j a b => k1 j a (by omega))
  have o1 := hR1.2.2.2
  obtain ⟨hs1, ps1, rs1, o1⟩ := o1
  refine V_istore rfl (by decide) ?_
  refine V_aload_n rfl (by first | rfl | assumption) ?_
  refine V_aload_n rfl (by first | rfl | assumption) ?_
  refine V_iload rfl (by first | rfl | assumption) ?_
  refine V_iconst (v := nI 1) rfl (by decide) ?_
  refine V_iaddN rfl ?_
  refine V_isldJ (j := 4) rfl hx rfl (by omega) (by omega) ?_
  refine V_callV (M' := mX12_come) (mc := 0) (ms := 0) (bc' := bc) (bs' := bs) rfl cw_L_113 iv_X12_come o1 rfl rfl (Nat.le_of_ble_eq_true rfl) ⟨Nat.le_of_ble_eq_true rfl, Nat.le_of_ble_eq_true rfl⟩ ⟨by omega, by omega⟩ (As := [.int (xs (i + 1))]) (c2 G1 (fun o G' => FP PM G1 G' ∧ RMA T A.2.2 (nI A.1) G' ∧ o = .inl (some (.int A.2.1))) hR1 (fun G' a b => ⟨a, b, rfl⟩)) (fun r G2 hr => ?_) (fun E G' hr => by cases hr.2.2)
  obtain ⟨F2, hR2, e2⟩ := hr
  cases e2
  have r2 : RC A.2.2 G2 := r1.fp (fun j hj => F2.2 j (fun q => by have := q.1; omega))
  have g2 := (F2.2 184 (by decide)).trans g1
  refine V_istore rfl (by decide) ?_
  obtain ⟨hs2, ps2, rs2, o2⟩ := hR2.2.2.2
  refine V_aload_n rfl (by first | rfl | assumption) ?_
  refine V_callV (M' := mX12_thrown) (mc := 0) (ms := 0) (bc' := bc) (bs' := bs) rfl cw_L_82 iv_X12_thrown o2 rfl rfl (Nat.le_of_ble_eq_true rfl) ⟨Nat.le_of_ble_eq_true rfl, Nat.le_of_ble_eq_true rfl⟩ ⟨by omega, by omega⟩ (As := []) (c_mthrown (Q := fun o G' => G' = G2 ∧ o = .inl (some (.int (nI A.1)))) o2 ⟨rfl, rfl⟩) (fun r G3 hr => ?_) (fun E G' hr => by cases hr.2)
  obtain ⟨e3, e4⟩ := hr
  cases e4
  subst e3
  refine V_iload rfl (by first | rfl | assumption) ?_
  refine V_icmp_eq rfl (fun _ => ?_) (fun z => absurd rfl z)
  refine V_iload rfl (by first | rfl | assumption) ?_
  refine V_if_neN rfl (by omega) (fun z => ?_) (fun z => ?_)
  · refine V_goto rfl ?_
    exact hq _ _ ⟨⟨l0, l1, l2, l3, l4⟩, r2, ⟨_, hR2⟩, _, g2⟩
  · refine V_aload_n rfl (by first | rfl | assumption) ?_
    refine V_iconst (v := nI 0) rfl (by decide) ?_
    refine V_laldJ rfl g2 rfl (by decide) (by decide) ?_
    refine V_iload rfl (by first | rfl | assumption) ?_
    refine V_i2l rfl ?_
    refine V_lcmp rfl ?_
    refine V_if_eq rfl (fun _ => ?_) (fun y => absurd (lg_cmp0.mpr (hf z)) y)
    refine V_goto rfl ?_
    exact hq _ _ ⟨⟨l0, l1, l2, l3, l4⟩, r2, ⟨_, hR2⟩, _, g2⟩
set_option maxRecDepth 100000 in
theorem L_run {B : Nat} (hqt : qtO T.2.2) (hT : tbl K T) (hx : kSX K 4 = some (L, xs)) (hi : i + 5 ≤ L) (hL : L ≤ 320) (h : LI T S i lc G) (hB : bnd S B) (hB2 : B < 2 ^ 20) (hI : ivE S) (hq : ∀ G' lc', LI T (aRn T S (xs (i + 1)).toInt).2.2 i lc' G' → V K bc bs mL_law 956 lc' [] G' Q) : V K (bc + 3) (bs + 18) mL_law 544 lc [] G Q := by
  obtain ⟨⟨l0, l1, l2, l3, l4⟩, hC, ⟨th, hR⟩, f, g184⟩ := h
  obtain ⟨tp, sp, g0⟩ := hC.sw
  have c1 : ∀ Q, (∀ G' f', Kq G G' → RC (aRn T S (xs (i + 1)).toInt).2.2 G' → G'.1 184 = some (OA f') → ((aRn T S (xs (i + 1)).toInt).1 = 0 → f' 0 = (aRn T S (xs (i + 1)).toInt).2.1.toInt64) → Q (.inl (some (.int (nI (aRn T S (xs (i + 1)).toInt).1)))) G') → CH K 1 6 mL_run hL_run [.ref 0, .int (xs (i + 1)), .ref 184] G Q := fun Q hq => w_run hT hC hB hB2 g184 hq
  have c2 : ∀ G1 Q, RMA T S th G1 → (∀ G', FP PM G1 G' → RMA T (aRn T S (xs (i + 1)).toInt).2.2 (nI (aRn T S (xs (i + 1)).toInt).1) G' → Q (.inl (some (.int (aRn T S (xs (i + 1)).toInt).2.1))) G') → C K 0 0 mX12_run [.ref 140, .int (xs (i + 1))] G1 Q := fun G1 Q h hq => c_Mrun hqt h hB (Nat.lt_trans hB2 (by decide)) hI hq
  have hc : (aRn T S (xs (i + 1)).toInt).1 ≤ 3 := Nat.le_trans cd_run (by decide)
  generalize aRn T S (xs (i + 1)).toInt = A at c1 c2 hq hc
  refine V_aload_n rfl (by first | rfl | assumption) ?_
  refine V_aload_n rfl (by first | rfl | assumption) ?_
  refine V_iload rfl (by first | rfl | assumption) ?_
  refine V_iconst (v := nI 1) rfl (by decide) ?_
  refine V_iaddN rfl ?_
  refine V_isldJ (j := 4) rfl hx rfl (by omega) (by omega) ?_
  refine V_aload_n rfl (by first | rfl | assumption) ?_
  refine V_callSH (M' := mL_run) (hh := hL_run) (mc := 1) (ms := 6) (bc' := bc) (bs' := bs) rfl cl_L_114 is_L_run rfl (Nat.le_of_ble_eq_true rfl) ⟨Nat.le_of_ble_eq_true rfl, Nat.le_of_ble_eq_true rfl⟩ ⟨by omega, by omega⟩ (As := [.ref 0, .int (xs (i + 1)), .ref 184]) (c1 (fun o G' => ∃ f', Kq G G' ∧ RC A.2.2 G' ∧ G'.1 184 = some (OA f') ∧ (A.1 = 0 → f' 0 = A.2.1.toInt64) ∧ o = .inl (some (.int (nI A.1)))) (fun G' f' a b c d => ⟨f', a, b, c, d, rfl⟩)) (fun r G1 hr => ?_) (fun E G' hr => by obtain ⟨_, _, _, _, _, q⟩ := hr; cases q)
  obtain ⟨f1, k1, r1, g1, hf, e1⟩ := hr
  cases e1
  have hR1 : RMA T S th G1 := hR.fp (fun j a b => k1 j a (by omega))
  have o1 := hR1.2.2.2
  obtain ⟨hs1, ps1, rs1, o1⟩ := o1
  refine V_istore rfl (by decide) ?_
  refine V_aload_n rfl (by first | rfl | assumption) ?_
  refine V_aload_n rfl (by first | rfl | assumption) ?_
  refine V_iload rfl (by first | rfl | assumption) ?_
  refine V_iconst (v := nI 1) rfl (by decide) ?_
  refine V_iaddN rfl ?_
  refine V_isldJ (j := 4) rfl hx rfl (by omega) (by omega) ?_
  refine V_callV (M' := mX12_run) (mc := 0) (ms := 0) (bc' := bc) (bs' := bs) rfl cw_L_116 iv_X12_run o1 rfl rfl (Nat.le_of_ble_eq_true rfl) ⟨Nat.le_of_ble_eq_true rfl, Nat.le_of_ble_eq_true rfl⟩ ⟨by omega, by omega⟩ (As := [.int (xs (i + 1))]) (c2 G1 (fun o G' => FP PM G1 G' ∧ RMA T A.2.2 (nI A.1) G' ∧ o = .inl (some (.int A.2.1))) hR1 (fun G' a b => ⟨a, b, rfl⟩)) (fun r G2 hr => ?_) (fun E G' hr => by cases hr.2.2)
  obtain ⟨F2, hR2, e2⟩ := hr
  cases e2
  have r2 : RC A.2.2 G2 := r1.fp (fun j hj => F2.2 j (fun q => by have := q.1; omega))
  have g2 := (F2.2 184 (by decide)).trans g1
  refine V_istore rfl (by decide) ?_
  obtain ⟨hs2, ps2, rs2, o2⟩ := hR2.2.2.2
  refine V_aload_n rfl (by first | rfl | assumption) ?_
  refine V_callV (M' := mX12_thrown) (mc := 0) (ms := 0) (bc' := bc) (bs' := bs) rfl cw_L_82 iv_X12_thrown o2 rfl rfl (Nat.le_of_ble_eq_true rfl) ⟨Nat.le_of_ble_eq_true rfl, Nat.le_of_ble_eq_true rfl⟩ ⟨by omega, by omega⟩ (As := []) (c_mthrown (Q := fun o G' => G' = G2 ∧ o = .inl (some (.int (nI A.1)))) o2 ⟨rfl, rfl⟩) (fun r G3 hr => ?_) (fun E G' hr => by cases hr.2)
  obtain ⟨e3, e4⟩ := hr
  cases e4
  subst e3
  refine V_iload rfl (by first | rfl | assumption) ?_
  refine V_icmp_eq rfl (fun _ => ?_) (fun z => absurd rfl z)
  refine V_iload rfl (by first | rfl | assumption) ?_
  refine V_if_neN rfl (by omega) (fun z => ?_) (fun z => ?_)
  · refine V_goto rfl ?_
    exact hq _ _ ⟨⟨l0, l1, l2, l3, l4⟩, r2, ⟨_, hR2⟩, _, g2⟩
  · refine V_aload_n rfl (by first | rfl | assumption) ?_
    refine V_iconst (v := nI 0) rfl (by decide) ?_
    refine V_laldJ rfl g2 rfl (by decide) (by decide) ?_
    refine V_iload rfl (by first | rfl | assumption) ?_
    refine V_i2l rfl ?_
    refine V_lcmp rfl ?_
    refine V_if_eq rfl (fun _ => ?_) (fun y => absurd (lg_cmp0.mpr (hf z)) y)
    refine V_goto rfl ?_
    exact hq _ _ ⟨⟨l0, l1, l2, l3, l4⟩, r2, ⟨_, hR2⟩, _, g2⟩
set_option maxRecDepth 100000 in
theorem L_packet (hx : kSX K 4 = some (L, xs)) (hi : i + 5 ≤ L) (hL : L ≤ 320) (h : LI T S i lc G) (hq : ∀ G' lc', LI T (aPk S (xs (i + 1)).toInt (xs (i + 2)).toInt (xs (i + 3)).toInt).2.2 i lc' G' → V K bc bs mL_law 956 lc' [] G' Q) : V K (bc + 3) (bs + 18) mL_law 600 lc [] G Q := by
  obtain ⟨⟨l0, l1, l2, l3, l4⟩, hC, ⟨th, hR⟩, f, g184⟩ := h
  obtain ⟨tp, sp, g0⟩ := hC.sw
  have c1 : ∀ Q, (∀ G' f', Kq G G' → RC (aPk S (xs (i + 1)).toInt (xs (i + 2)).toInt (xs (i + 3)).toInt).2.2 G' → G'.1 184 = some (OA f') → ((aPk S (xs (i + 1)).toInt (xs (i + 2)).toInt (xs (i + 3)).toInt).1 = 0 → f' 0 = (aPk S (xs (i + 1)).toInt (xs (i + 2)).toInt (xs (i + 3)).toInt).2.1.toInt64) → Q (.inl (some (.int (nI (aPk S (xs (i + 1)).toInt (xs (i + 2)).toInt (xs (i + 3)).toInt).1)))) G') → CH K 3 18 mL_packet hL_packet [.ref 0, .int (xs (i + 1)), .int (xs (i + 2)), .int (xs (i + 3)), .ref 184] G Q := fun Q hq => w_packet hC g184 hq
  have c2 : ∀ G1 Q, RMA T S th G1 → (∀ G', FP PM G1 G' → RMA T (aPk S (xs (i + 1)).toInt (xs (i + 2)).toInt (xs (i + 3)).toInt).2.2 (nI (aPk S (xs (i + 1)).toInt (xs (i + 2)).toInt (xs (i + 3)).toInt).1) G' → Q (.inl (some (.int (aPk S (xs (i + 1)).toInt (xs (i + 2)).toInt (xs (i + 3)).toInt).2.1))) G') → C K 0 0 mX12_packet [.ref 140, .int (xs (i + 1)), .int (xs (i + 2)), .int (xs (i + 3))] G1 Q := fun G1 Q h hq => c_Mpacket h hq
  have hc : (aPk S (xs (i + 1)).toInt (xs (i + 2)).toInt (xs (i + 3)).toInt).1 ≤ 3 := Nat.le_trans cd_packet (by decide)
  generalize aPk S (xs (i + 1)).toInt (xs (i + 2)).toInt (xs (i + 3)).toInt = A at c1 c2 hq hc
  refine V_aload_n rfl (by first | rfl | assumption) ?_
  refine V_aload_n rfl (by first | rfl | assumption) ?_
  refine V_iload rfl (by first | rfl | assumption) ?_
  refine V_iconst (v := nI 1) rfl (by decide) ?_
  refine V_iaddN rfl ?_
  refine V_isldJ (j := 4) rfl hx rfl (by omega) (by omega) ?_
  refine V_aload_n rfl (by first | rfl | assumption) ?_
  refine V_iload rfl (by first | rfl | assumption) ?_
  refine V_iconst (v := nI 2) rfl (by decide) ?_
  refine V_iaddN rfl ?_
  refine V_isldJ (j := 4) rfl hx rfl (by omega) (by omega) ?_
  refine V_aload_n rfl (by first | rfl | assumption) ?_
  refine V_iload rfl (by first | rfl | assumption) ?_
  refine V_iconst (v := nI 3) rfl (by decide) ?_
  refine V_iaddN rfl ?_
  refine V_isldJ (j := 4) rfl hx rfl (by omega) (by omega) ?_
  refine V_aload_n rfl (by first | rfl | assumption) ?_
  refine V_callSH (M' := mL_packet) (hh := hL_packet) (mc := 3) (ms := 18) (bc' := bc) (bs' := bs) rfl cl_L_117 is_L_packet rfl (Nat.le_of_ble_eq_true rfl) ⟨Nat.le_of_ble_eq_true rfl, Nat.le_of_ble_eq_true rfl⟩ ⟨by omega, by omega⟩ (As := [.ref 0, .int (xs (i + 1)), .int (xs (i + 2)), .int (xs (i + 3)), .ref 184]) (c1 (fun o G' => ∃ f', Kq G G' ∧ RC A.2.2 G' ∧ G'.1 184 = some (OA f') ∧ (A.1 = 0 → f' 0 = A.2.1.toInt64) ∧ o = .inl (some (.int (nI A.1)))) (fun G' f' a b c d => ⟨f', a, b, c, d, rfl⟩)) (fun r G1 hr => ?_) (fun E G' hr => by obtain ⟨_, _, _, _, _, q⟩ := hr; cases q)
  obtain ⟨f1, k1, r1, g1, hf, e1⟩ := hr
  cases e1
  have hR1 : RMA T S th G1 := hR.fp (fun j a b => k1 j a (by omega))
  have o1 := hR1.2.2.2
  obtain ⟨hs1, ps1, rs1, o1⟩ := o1
  refine V_istore rfl (by decide) ?_
  refine V_aload_n rfl (by first | rfl | assumption) ?_
  refine V_aload_n rfl (by first | rfl | assumption) ?_
  refine V_iload rfl (by first | rfl | assumption) ?_
  refine V_iconst (v := nI 1) rfl (by decide) ?_
  refine V_iaddN rfl ?_
  refine V_isldJ (j := 4) rfl hx rfl (by omega) (by omega) ?_
  refine V_aload_n rfl (by first | rfl | assumption) ?_
  refine V_iload rfl (by first | rfl | assumption) ?_
  refine V_iconst (v := nI 2) rfl (by decide) ?_
  refine V_iaddN rfl ?_
  refine V_isldJ (j := 4) rfl hx rfl (by omega) (by omega) ?_
  refine V_aload_n rfl (by first | rfl | assumption) ?_
  refine V_iload rfl (by first | rfl | assumption) ?_
  refine V_iconst (v := nI 3) rfl (by decide) ?_
  refine V_iaddN rfl ?_
  refine V_isldJ (j := 4) rfl hx rfl (by omega) (by omega) ?_
  refine V_callV (M' := mX12_packet) (mc := 0) (ms := 0) (bc' := bc) (bs' := bs) rfl cw_L_120 iv_X12_packet o1 rfl rfl (Nat.le_of_ble_eq_true rfl) ⟨Nat.le_of_ble_eq_true rfl, Nat.le_of_ble_eq_true rfl⟩ ⟨by omega, by omega⟩ (As := [.int (xs (i + 1)), .int (xs (i + 2)), .int (xs (i + 3))]) (c2 G1 (fun o G' => FP PM G1 G' ∧ RMA T A.2.2 (nI A.1) G' ∧ o = .inl (some (.int A.2.1))) hR1 (fun G' a b => ⟨a, b, rfl⟩)) (fun r G2 hr => ?_) (fun E G' hr => by cases hr.2.2)
  obtain ⟨F2, hR2, e2⟩ := hr
  cases e2
  have r2 : RC A.2.2 G2 := r1.fp (fun j hj => F2.2 j (fun q => by have := q.1; omega))
  have g2 := (F2.2 184 (by decide)).trans g1
  refine V_istore rfl (by decide) ?_
  obtain ⟨hs2, ps2, rs2, o2⟩ := hR2.2.2.2
  refine V_aload_n rfl (by first | rfl | assumption) ?_
  refine V_callV (M' := mX12_thrown) (mc := 0) (ms := 0) (bc' := bc) (bs' := bs) rfl cw_L_82 iv_X12_thrown o2 rfl rfl (Nat.le_of_ble_eq_true rfl) ⟨Nat.le_of_ble_eq_true rfl, Nat.le_of_ble_eq_true rfl⟩ ⟨by omega, by omega⟩ (As := []) (c_mthrown (Q := fun o G' => G' = G2 ∧ o = .inl (some (.int (nI A.1)))) o2 ⟨rfl, rfl⟩) (fun r G3 hr => ?_) (fun E G' hr => by cases hr.2)
  obtain ⟨e3, e4⟩ := hr
  cases e4
  subst e3
  refine V_iload rfl (by first | rfl | assumption) ?_
  refine V_icmp_eq rfl (fun _ => ?_) (fun z => absurd rfl z)
  refine V_iload rfl (by first | rfl | assumption) ?_
  refine V_if_neN rfl (by omega) (fun z => ?_) (fun z => ?_)
  · refine V_goto rfl ?_
    exact hq _ _ ⟨⟨l0, l1, l2, l3, l4⟩, r2, ⟨_, hR2⟩, _, g2⟩
  · refine V_aload_n rfl (by first | rfl | assumption) ?_
    refine V_iconst (v := nI 0) rfl (by decide) ?_
    refine V_laldJ rfl g2 rfl (by decide) (by decide) ?_
    refine V_iload rfl (by first | rfl | assumption) ?_
    refine V_i2l rfl ?_
    refine V_lcmp rfl ?_
    refine V_if_eq rfl (fun _ => ?_) (fun y => absurd (lg_cmp0.mpr (hf z)) y)
    refine V_goto rfl ?_
    exact hq _ _ ⟨⟨l0, l1, l2, l3, l4⟩, r2, ⟨_, hR2⟩, _, g2⟩
set_option maxRecDepth 100000 in
theorem L_damage (hx : kSX K 4 = some (L, xs)) (hi : i + 5 ≤ L) (hL : L ≤ 320) (h : LI T S i lc G) (hq : ∀ G' lc', LI T (aDm S (xs (i + 1)).toInt (xs (i + 2)).toInt (xs (i + 3)).toInt (xs (i + 4)).toInt).2.2 i lc' G' → V K bc bs mL_law 956 lc' [] G' Q) : V K (bc + 3) (bs + 18) mL_law 680 lc [] G Q := by
  obtain ⟨⟨l0, l1, l2, l3, l4⟩, hC, ⟨th, hR⟩, f, g184⟩ := h
  obtain ⟨tp, sp, g0⟩ := hC.sw
  have c1 : ∀ Q, (∀ G', Kp G G' → RC (aDm S (xs (i + 1)).toInt (xs (i + 2)).toInt (xs (i + 3)).toInt (xs (i + 4)).toInt).2.2 G' → Q (.inl (some (.int (nI (aDm S (xs (i + 1)).toInt (xs (i + 2)).toInt (xs (i + 3)).toInt (xs (i + 4)).toInt).1)))) G') → CH K 3 18 mL_damage hL_damage [.ref 0, .int (xs (i + 1)), .int (xs (i + 2)), .int (xs (i + 3)), .int (xs (i + 4))] G Q := fun Q hq => w_damage hC hq
  have c2 : ∀ G1 Q, RMA T S th G1 → (∀ G', FP PM G1 G' → RMA T (aDm S (xs (i + 1)).toInt (xs (i + 2)).toInt (xs (i + 3)).toInt (xs (i + 4)).toInt).2.2 (nI (aDm S (xs (i + 1)).toInt (xs (i + 2)).toInt (xs (i + 3)).toInt (xs (i + 4)).toInt).1) G' → Q (.inl none) G') → C K 0 0 mX12_damage [.ref 140, .int (xs (i + 1)), .int (xs (i + 2)), .int (xs (i + 3)), .int (xs (i + 4))] G1 Q := fun G1 Q h hq => c_Mdamage h hq
  generalize aDm S (xs (i + 1)).toInt (xs (i + 2)).toInt (xs (i + 3)).toInt (xs (i + 4)).toInt = A at c1 c2 hq
  refine V_aload_n rfl (by first | rfl | assumption) ?_
  refine V_aload_n rfl (by first | rfl | assumption) ?_
  refine V_iload rfl (by first | rfl | assumption) ?_
  refine V_iconst (v := nI 1) rfl (by decide) ?_
  refine V_iaddN rfl ?_
  refine V_isldJ (j := 4) rfl hx rfl (by omega) (by omega) ?_
  refine V_aload_n rfl (by first | rfl | assumption) ?_
  refine V_iload rfl (by first | rfl | assumption) ?_
  refine V_iconst (v := nI 2) rfl (by decide) ?_
  refine V_iaddN rfl ?_
  refine V_isldJ (j := 4) rfl hx rfl (by omega) (by omega) ?_
  refine V_aload_n rfl (by first | rfl | assumption) ?_
  refine V_iload rfl (by first | rfl | assumption) ?_
  refine V_iconst (v := nI 3) rfl (by decide) ?_
  refine V_iaddN rfl ?_
  refine V_isldJ (j := 4) rfl hx rfl (by omega) (by omega) ?_
  refine V_aload_n rfl (by first | rfl | assumption) ?_
  refine V_iload rfl (by first | rfl | assumption) ?_
  refine V_iconst (v := nI 4) rfl (by decide) ?_
  refine V_iaddN rfl ?_
  refine V_isldJ (j := 4) rfl hx rfl (by omega) (by omega) ?_
  refine V_callSH (M' := mL_damage) (hh := hL_damage) (mc := 3) (ms := 18) (bc' := bc) (bs' := bs) rfl cl_L_121 is_L_damage rfl (Nat.le_of_ble_eq_true rfl) ⟨Nat.le_of_ble_eq_true rfl, Nat.le_of_ble_eq_true rfl⟩ ⟨by omega, by omega⟩ (As := [.ref 0, .int (xs (i + 1)), .int (xs (i + 2)), .int (xs (i + 3)), .int (xs (i + 4))]) (c1 (fun o G' => Kp G G' ∧ RC A.2.2 G' ∧ o = .inl (some (.int (nI A.1)))) (fun G' a b => ⟨a, b, rfl⟩)) (fun r G1 hr => ?_) (fun E G' hr => by cases hr.2.2)
  obtain ⟨k1, r1, e1⟩ := hr
  cases e1
  have hR1 : RMA T S th G1 := hR.fp (fun j a b => k1 j a)
  have g1 : G1.1 184 = some (OA f) := (k1 184 (by decide)).trans g184
  have o1 := hR1.2.2.2
  obtain ⟨hs1, ps1, rs1, o1⟩ := o1
  refine V_istore rfl (by decide) ?_
  refine V_aload_n rfl (by first | rfl | assumption) ?_
  refine V_aload_n rfl (by first | rfl | assumption) ?_
  refine V_iload rfl (by first | rfl | assumption) ?_
  refine V_iconst (v := nI 1) rfl (by decide) ?_
  refine V_iaddN rfl ?_
  refine V_isldJ (j := 4) rfl hx rfl (by omega) (by omega) ?_
  refine V_aload_n rfl (by first | rfl | assumption) ?_
  refine V_iload rfl (by first | rfl | assumption) ?_
  refine V_iconst (v := nI 2) rfl (by decide) ?_
  refine V_iaddN rfl ?_
  refine V_isldJ (j := 4) rfl hx rfl (by omega) (by omega) ?_
  refine V_aload_n rfl (by first | rfl | assumption) ?_
  refine V_iload rfl (by first | rfl | assumption) ?_
  refine V_iconst (v := nI 3) rfl (by decide) ?_
  refine V_iaddN rfl ?_
  refine V_isldJ (j := 4) rfl hx rfl (by omega) (by omega) ?_
  refine V_aload_n rfl (by first | rfl | assumption) ?_
  refine V_iload rfl (by first | rfl | assumption) ?_
  refine V_iconst (v := nI 4) rfl (by decide) ?_
  refine V_iaddN rfl ?_
  refine V_isldJ (j := 4) rfl hx rfl (by omega) (by omega) ?_
  refine V_callV (M' := mX12_damage) (mc := 0) (ms := 0) (bc' := bc) (bs' := bs) rfl cw_L_124 iv_X12_damage o1 rfl rfl (Nat.le_of_ble_eq_true rfl) ⟨Nat.le_of_ble_eq_true rfl, Nat.le_of_ble_eq_true rfl⟩ ⟨by omega, by omega⟩ (As := [.int (xs (i + 1)), .int (xs (i + 2)), .int (xs (i + 3)), .int (xs (i + 4))]) (c2 G1 (fun o G' => FP PM G1 G' ∧ RMA T A.2.2 (nI A.1) G' ∧ o = .inl none) hR1 (fun G' a b => ⟨a, b, rfl⟩)) (fun r G2 hr => ?_) (fun E G' hr => by cases hr.2.2)
  obtain ⟨F2, hR2, e2⟩ := hr
  cases e2
  have r2 : RC A.2.2 G2 := r1.fp (fun j hj => F2.2 j (fun q => by have := q.1; omega))
  have g2 := (F2.2 184 (by decide)).trans g1
  obtain ⟨hs2, ps2, rs2, o2⟩ := hR2.2.2.2
  refine V_aload_n rfl (by first | rfl | assumption) ?_
  refine V_callV (M' := mX12_thrown) (mc := 0) (ms := 0) (bc' := bc) (bs' := bs) rfl cw_L_82 iv_X12_thrown o2 rfl rfl (Nat.le_of_ble_eq_true rfl) ⟨Nat.le_of_ble_eq_true rfl, Nat.le_of_ble_eq_true rfl⟩ ⟨by omega, by omega⟩ (As := []) (c_mthrown (Q := fun o G' => G' = G2 ∧ o = .inl (some (.int (nI A.1)))) o2 ⟨rfl, rfl⟩) (fun r G3 hr => ?_) (fun E G' hr => by cases hr.2)
  obtain ⟨e3, e4⟩ := hr
  cases e4
  subst e3
  refine V_iload rfl (by first | rfl | assumption) ?_
  refine V_icmp_eq rfl (fun _ => ?_) (fun z => absurd rfl z)
  refine V_goto rfl ?_
  exact hq _ _ ⟨⟨l0, l1, l2, l3, l4⟩, r2, ⟨_, hR2⟩, _, g2⟩
set_option maxRecDepth 100000 in
theorem L_got (hx : kSX K 4 = some (L, xs)) (hi : i + 5 ≤ L) (hL : L ≤ 320) (h : LI T S i lc G) (hq : ∀ G' lc', LI T (aGt S (xs (i + 1)).toInt (xs (i + 2)).toInt).2.2 i lc' G' → V K bc bs mL_law 956 lc' [] G' Q) : V K (bc + 3) (bs + 18) mL_law 752 lc [] G Q := by
  obtain ⟨⟨l0, l1, l2, l3, l4⟩, hC, ⟨th, hR⟩, f, g184⟩ := h
  obtain ⟨tp, sp, g0⟩ := hC.sw
  have c1 : ∀ Q, (∀ G' f', Kq G G' → RC (aGt S (xs (i + 1)).toInt (xs (i + 2)).toInt).2.2 G' → G'.1 184 = some (OA f') → ((aGt S (xs (i + 1)).toInt (xs (i + 2)).toInt).1 = 0 → f' 0 = (aGt S (xs (i + 1)).toInt (xs (i + 2)).toInt).2.1.toInt64) → Q (.inl (some (.int (nI (aGt S (xs (i + 1)).toInt (xs (i + 2)).toInt).1)))) G') → CH K 2 12 mL_got hL_got [.ref 0, .int (xs (i + 1)), .int (xs (i + 2)), .ref 184] G Q := fun Q hq => w_got hC g184 hq
  have c2 : ∀ G1 Q, RMA T S th G1 → (∀ G', FP PM G1 G' → RMA T (aGt S (xs (i + 1)).toInt (xs (i + 2)).toInt).2.2 (nI (aGt S (xs (i + 1)).toInt (xs (i + 2)).toInt).1) G' → Q (.inl (some (.int (aGt S (xs (i + 1)).toInt (xs (i + 2)).toInt).2.1))) G') → C K 0 0 mX12_got [.ref 140, .int (xs (i + 1)), .int (xs (i + 2))] G1 Q := fun G1 Q h hq => c_Mgot h hq
  have hc : (aGt S (xs (i + 1)).toInt (xs (i + 2)).toInt).1 ≤ 3 := Nat.le_trans cd_got (by decide)
  generalize aGt S (xs (i + 1)).toInt (xs (i + 2)).toInt = A at c1 c2 hq hc
  refine V_aload_n rfl (by first | rfl | assumption) ?_
  refine V_aload_n rfl (by first | rfl | assumption) ?_
  refine V_iload rfl (by first | rfl | assumption) ?_
  refine V_iconst (v := nI 1) rfl (by decide) ?_
  refine V_iaddN rfl ?_
  refine V_isldJ (j := 4) rfl hx rfl (by omega) (by omega) ?_
  refine V_aload_n rfl (by first | rfl | assumption) ?_
  refine V_iload rfl (by first | rfl | assumption) ?_
  refine V_iconst (v := nI 2) rfl (by decide) ?_
  refine V_iaddN rfl ?_
  refine V_isldJ (j := 4) rfl hx rfl (by omega) (by omega) ?_
  refine V_aload_n rfl (by first | rfl | assumption) ?_
  refine V_callSH (M' := mL_got) (hh := hL_got) (mc := 2) (ms := 12) (bc' := bc) (bs' := bs) rfl cl_L_125 is_L_got rfl (Nat.le_of_ble_eq_true rfl) ⟨Nat.le_of_ble_eq_true rfl, Nat.le_of_ble_eq_true rfl⟩ ⟨by omega, by omega⟩ (As := [.ref 0, .int (xs (i + 1)), .int (xs (i + 2)), .ref 184]) (c1 (fun o G' => ∃ f', Kq G G' ∧ RC A.2.2 G' ∧ G'.1 184 = some (OA f') ∧ (A.1 = 0 → f' 0 = A.2.1.toInt64) ∧ o = .inl (some (.int (nI A.1)))) (fun G' f' a b c d => ⟨f', a, b, c, d, rfl⟩)) (fun r G1 hr => ?_) (fun E G' hr => by obtain ⟨_, _, _, _, _, q⟩ := hr; cases q)
  obtain ⟨f1, k1, r1, g1, hf, e1⟩ := hr
  cases e1
  have hR1 : RMA T S th G1 := hR.fp (fun j a b => k1 j a (by omega))
  have o1 := hR1.2.2.2
  obtain ⟨hs1, ps1, rs1, o1⟩ := o1
  refine V_istore rfl (by decide) ?_
  refine V_aload_n rfl (by first | rfl | assumption) ?_
  refine V_aload_n rfl (by first | rfl | assumption) ?_
  refine V_iload rfl (by first | rfl | assumption) ?_
  refine V_iconst (v := nI 1) rfl (by decide) ?_
  refine V_iaddN rfl ?_
  refine V_isldJ (j := 4) rfl hx rfl (by omega) (by omega) ?_
  refine V_aload_n rfl (by first | rfl | assumption) ?_
  refine V_iload rfl (by first | rfl | assumption) ?_
  refine V_iconst (v := nI 2) rfl (by decide) ?_
  refine V_iaddN rfl ?_
  refine V_isldJ (j := 4) rfl hx rfl (by omega) (by omega) ?_
  refine V_callV (M' := mX12_got) (mc := 0) (ms := 0) (bc' := bc) (bs' := bs) rfl cw_L_128 iv_X12_got o1 rfl rfl (Nat.le_of_ble_eq_true rfl) ⟨Nat.le_of_ble_eq_true rfl, Nat.le_of_ble_eq_true rfl⟩ ⟨by omega, by omega⟩ (As := [.int (xs (i + 1)), .int (xs (i + 2))]) (c2 G1 (fun o G' => FP PM G1 G' ∧ RMA T A.2.2 (nI A.1) G' ∧ o = .inl (some (.int A.2.1))) hR1 (fun G' a b => ⟨a, b, rfl⟩)) (fun r G2 hr => ?_) (fun E G' hr => by cases hr.2.2)
  obtain ⟨F2, hR2, e2⟩ := hr
  cases e2
  have r2 : RC A.2.2 G2 := r1.fp (fun j hj => F2.2 j (fun q => by have := q.1; omega))
  have g2 := (F2.2 184 (by decide)).trans g1
  refine V_istore rfl (by decide) ?_
  obtain ⟨hs2, ps2, rs2, o2⟩ := hR2.2.2.2
  refine V_aload_n rfl (by first | rfl | assumption) ?_
  refine V_callV (M' := mX12_thrown) (mc := 0) (ms := 0) (bc' := bc) (bs' := bs) rfl cw_L_82 iv_X12_thrown o2 rfl rfl (Nat.le_of_ble_eq_true rfl) ⟨Nat.le_of_ble_eq_true rfl, Nat.le_of_ble_eq_true rfl⟩ ⟨by omega, by omega⟩ (As := []) (c_mthrown (Q := fun o G' => G' = G2 ∧ o = .inl (some (.int (nI A.1)))) o2 ⟨rfl, rfl⟩) (fun r G3 hr => ?_) (fun E G' hr => by cases hr.2)
  obtain ⟨e3, e4⟩ := hr
  cases e4
  subst e3
  refine V_iload rfl (by first | rfl | assumption) ?_
  refine V_icmp_eq rfl (fun _ => ?_) (fun z => absurd rfl z)
  refine V_iload rfl (by first | rfl | assumption) ?_
  refine V_if_neN rfl (by omega) (fun z => ?_) (fun z => ?_)
  · refine V_goto rfl ?_
    exact hq _ _ ⟨⟨l0, l1, l2, l3, l4⟩, r2, ⟨_, hR2⟩, _, g2⟩
  · refine V_aload_n rfl (by first | rfl | assumption) ?_
    refine V_iconst (v := nI 0) rfl (by decide) ?_
    refine V_laldJ rfl g2 rfl (by decide) (by decide) ?_
    refine V_iload rfl (by first | rfl | assumption) ?_
    refine V_i2l rfl ?_
    refine V_lcmp rfl ?_
    refine V_if_eq rfl (fun _ => ?_) (fun y => absurd (lg_cmp0.mpr (hf z)) y)
    refine V_goto rfl ?_
    exact hq _ _ ⟨⟨l0, l1, l2, l3, l4⟩, r2, ⟨_, hR2⟩, _, g2⟩
set_option maxRecDepth 100000 in
theorem L_about (hx : kSX K 4 = some (L, xs)) (hi : i + 5 ≤ L) (hL : L ≤ 320) (h : LI T S i lc G) (hq : ∀ G' lc', LI T (aAb S (xs (i + 1)).toInt (xs (i + 2)).toInt).2.2 i lc' G' → V K bc bs mL_law 956 lc' [] G' Q) : V K (bc + 3) (bs + 18) mL_law 820 lc [] G Q := by
  obtain ⟨⟨l0, l1, l2, l3, l4⟩, hC, ⟨th, hR⟩, f, g184⟩ := h
  obtain ⟨tp, sp, g0⟩ := hC.sw
  have c1 : ∀ Q, (∀ G' f', Kq G G' → RC (aAb S (xs (i + 1)).toInt (xs (i + 2)).toInt).2.2 G' → G'.1 184 = some (OA f') → ((aAb S (xs (i + 1)).toInt (xs (i + 2)).toInt).1 = 0 → f' 0 = (aAb S (xs (i + 1)).toInt (xs (i + 2)).toInt).2.1.toInt64) → Q (.inl (some (.int (nI (aAb S (xs (i + 1)).toInt (xs (i + 2)).toInt).1)))) G') → CH K 2 12 mL_about hL_about [.ref 0, .int (xs (i + 1)), .int (xs (i + 2)), .ref 184] G Q := fun Q hq => w_about hC g184 hq
  have c2 : ∀ G1 Q, RMA T S th G1 → (∀ G', FP PM G1 G' → RMA T (aAb S (xs (i + 1)).toInt (xs (i + 2)).toInt).2.2 (nI (aAb S (xs (i + 1)).toInt (xs (i + 2)).toInt).1) G' → Q (.inl (some (.int (aAb S (xs (i + 1)).toInt (xs (i + 2)).toInt).2.1))) G') → C K 0 0 mX12_about [.ref 140, .int (xs (i + 1)), .int (xs (i + 2))] G1 Q := fun G1 Q h hq => c_Mabout h hq
  have hc : (aAb S (xs (i + 1)).toInt (xs (i + 2)).toInt).1 ≤ 3 := Nat.le_trans cd_about (by decide)
  generalize aAb S (xs (i + 1)).toInt (xs (i + 2)).toInt = A at c1 c2 hq hc
  refine V_aload_n rfl (by first | rfl | assumption) ?_
  refine V_aload_n rfl (by first | rfl | assumption) ?_
  refine V_iload rfl (by first | rfl | assumption) ?_
  refine V_iconst (v := nI 1) rfl (by decide) ?_
  refine V_iaddN rfl ?_
  refine V_isldJ (j := 4) rfl hx rfl (by omega) (by omega) ?_
  refine V_aload_n rfl (by first | rfl | assumption) ?_
  refine V_iload rfl (by first | rfl | assumption) ?_
  refine V_iconst (v := nI 2) rfl (by decide) ?_
  refine V_iaddN rfl ?_
  refine V_isldJ (j := 4) rfl hx rfl (by omega) (by omega) ?_
  refine V_aload_n rfl (by first | rfl | assumption) ?_
  refine V_callSH (M' := mL_about) (hh := hL_about) (mc := 2) (ms := 12) (bc' := bc) (bs' := bs) rfl cl_L_129 is_L_about rfl (Nat.le_of_ble_eq_true rfl) ⟨Nat.le_of_ble_eq_true rfl, Nat.le_of_ble_eq_true rfl⟩ ⟨by omega, by omega⟩ (As := [.ref 0, .int (xs (i + 1)), .int (xs (i + 2)), .ref 184]) (c1 (fun o G' => ∃ f', Kq G G' ∧ RC A.2.2 G' ∧ G'.1 184 = some (OA f') ∧ (A.1 = 0 → f' 0 = A.2.1.toInt64) ∧ o = .inl (some (.int (nI A.1)))) (fun G' f' a b c d => ⟨f', a, b, c, d, rfl⟩)) (fun r G1 hr => ?_) (fun E G' hr => by obtain ⟨_, _, _, _, _, q⟩ := hr; cases q)
  obtain ⟨f1, k1, r1, g1, hf, e1⟩ := hr
  cases e1
  have hR1 : RMA T S th G1 := hR.fp (fun j a b => k1 j a (by omega))
  have o1 := hR1.2.2.2
  obtain ⟨hs1, ps1, rs1, o1⟩ := o1
  refine V_istore rfl (by decide) ?_
  refine V_aload_n rfl (by first | rfl | assumption) ?_
  refine V_aload_n rfl (by first | rfl | assumption) ?_
  refine V_iload rfl (by first | rfl | assumption) ?_
  refine V_iconst (v := nI 1) rfl (by decide) ?_
  refine V_iaddN rfl ?_
  refine V_isldJ (j := 4) rfl hx rfl (by omega) (by omega) ?_
  refine V_aload_n rfl (by first | rfl | assumption) ?_
  refine V_iload rfl (by first | rfl | assumption) ?_
  refine V_iconst (v := nI 2) rfl (by decide) ?_
  refine V_iaddN rfl ?_
  refine V_isldJ (j := 4) rfl hx rfl (by omega) (by omega) ?_
  refine V_callV (M' := mX12_about) (mc := 0) (ms := 0) (bc' := bc) (bs' := bs) rfl cw_L_131 iv_X12_about o1 rfl rfl (Nat.le_of_ble_eq_true rfl) ⟨Nat.le_of_ble_eq_true rfl, Nat.le_of_ble_eq_true rfl⟩ ⟨by omega, by omega⟩ (As := [.int (xs (i + 1)), .int (xs (i + 2))]) (c2 G1 (fun o G' => FP PM G1 G' ∧ RMA T A.2.2 (nI A.1) G' ∧ o = .inl (some (.int A.2.1))) hR1 (fun G' a b => ⟨a, b, rfl⟩)) (fun r G2 hr => ?_) (fun E G' hr => by cases hr.2.2)
  obtain ⟨F2, hR2, e2⟩ := hr
  cases e2
  have r2 : RC A.2.2 G2 := r1.fp (fun j hj => F2.2 j (fun q => by have := q.1; omega))
  have g2 := (F2.2 184 (by decide)).trans g1
  refine V_istore rfl (by decide) ?_
  obtain ⟨hs2, ps2, rs2, o2⟩ := hR2.2.2.2
  refine V_aload_n rfl (by first | rfl | assumption) ?_
  refine V_callV (M' := mX12_thrown) (mc := 0) (ms := 0) (bc' := bc) (bs' := bs) rfl cw_L_82 iv_X12_thrown o2 rfl rfl (Nat.le_of_ble_eq_true rfl) ⟨Nat.le_of_ble_eq_true rfl, Nat.le_of_ble_eq_true rfl⟩ ⟨by omega, by omega⟩ (As := []) (c_mthrown (Q := fun o G' => G' = G2 ∧ o = .inl (some (.int (nI A.1)))) o2 ⟨rfl, rfl⟩) (fun r G3 hr => ?_) (fun E G' hr => by cases hr.2)
  obtain ⟨e3, e4⟩ := hr
  cases e4
  subst e3
  refine V_iload rfl (by first | rfl | assumption) ?_
  refine V_icmp_eq rfl (fun _ => ?_) (fun z => absurd rfl z)
  refine V_iload rfl (by first | rfl | assumption) ?_
  refine V_if_neN rfl (by omega) (fun z => ?_) (fun z => ?_)
  · refine V_goto rfl ?_
    exact hq _ _ ⟨⟨l0, l1, l2, l3, l4⟩, r2, ⟨_, hR2⟩, _, g2⟩
  · refine V_aload_n rfl (by first | rfl | assumption) ?_
    refine V_iconst (v := nI 0) rfl (by decide) ?_
    refine V_laldJ rfl g2 rfl (by decide) (by decide) ?_
    refine V_iload rfl (by first | rfl | assumption) ?_
    refine V_i2l rfl ?_
    refine V_lcmp rfl ?_
    refine V_if_eq rfl (fun _ => ?_) (fun y => absurd (lg_cmp0.mpr (hf z)) y)
    refine V_goto rfl ?_
    exact hq _ _ ⟨⟨l0, l1, l2, l3, l4⟩, r2, ⟨_, hR2⟩, _, g2⟩
set_option maxRecDepth 100000 in
theorem L_session (hx : kSX K 4 = some (L, xs)) (hi : i + 5 ≤ L) (hL : L ≤ 320) (h : LI T S i lc G) (hq : ∀ G' lc', LI T (aSs S (xs (i + 1)).toInt (xs (i + 2)).toInt).2.2 i lc' G' → V K bc bs mL_law 956 lc' [] G' Q) : V K (bc + 3) (bs + 18) mL_law 888 lc [] G Q := by
  obtain ⟨⟨l0, l1, l2, l3, l4⟩, hC, ⟨th, hR⟩, f, g184⟩ := h
  obtain ⟨tp, sp, g0⟩ := hC.sw
  have c1 : ∀ Q, (∀ G' f', Kq G G' → RC (aSs S (xs (i + 1)).toInt (xs (i + 2)).toInt).2.2 G' → G'.1 184 = some (OA f') → ((aSs S (xs (i + 1)).toInt (xs (i + 2)).toInt).1 = 0 → f' 0 = (aSs S (xs (i + 1)).toInt (xs (i + 2)).toInt).2.1.toInt64) → Q (.inl (some (.int (nI (aSs S (xs (i + 1)).toInt (xs (i + 2)).toInt).1)))) G') → CH K 2 12 mL_session hL_session [.ref 0, .int (xs (i + 1)), .int (xs (i + 2)), .ref 184] G Q := fun Q hq => w_session hC g184 hq
  have c2 : ∀ G1 Q, RMA T S th G1 → (∀ G', FP PM G1 G' → RMA T (aSs S (xs (i + 1)).toInt (xs (i + 2)).toInt).2.2 (nI (aSs S (xs (i + 1)).toInt (xs (i + 2)).toInt).1) G' → Q (.inl (some (.int (aSs S (xs (i + 1)).toInt (xs (i + 2)).toInt).2.1))) G') → C K 0 0 mX12_session [.ref 140, .int (xs (i + 1)), .int (xs (i + 2))] G1 Q := fun G1 Q h hq => c_Msession h hq
  have hc : (aSs S (xs (i + 1)).toInt (xs (i + 2)).toInt).1 ≤ 3 := Nat.le_trans cd_session (by decide)
  generalize aSs S (xs (i + 1)).toInt (xs (i + 2)).toInt = A at c1 c2 hq hc
  refine V_aload_n rfl (by first | rfl | assumption) ?_
  refine V_aload_n rfl (by first | rfl | assumption) ?_
  refine V_iload rfl (by first | rfl | assumption) ?_
  refine V_iconst (v := nI 1) rfl (by decide) ?_
  refine V_iaddN rfl ?_
  refine V_isldJ (j := 4) rfl hx rfl (by omega) (by omega) ?_
  refine V_aload_n rfl (by first | rfl | assumption) ?_
  refine V_iload rfl (by first | rfl | assumption) ?_
  refine V_iconst (v := nI 2) rfl (by decide) ?_
  refine V_iaddN rfl ?_
  refine V_isldJ (j := 4) rfl hx rfl (by omega) (by omega) ?_
  refine V_aload_n rfl (by first | rfl | assumption) ?_
  refine V_callSH (M' := mL_session) (hh := hL_session) (mc := 2) (ms := 12) (bc' := bc) (bs' := bs) rfl cl_L_132 is_L_session rfl (Nat.le_of_ble_eq_true rfl) ⟨Nat.le_of_ble_eq_true rfl, Nat.le_of_ble_eq_true rfl⟩ ⟨by omega, by omega⟩ (As := [.ref 0, .int (xs (i + 1)), .int (xs (i + 2)), .ref 184]) (c1 (fun o G' => ∃ f', Kq G G' ∧ RC A.2.2 G' ∧ G'.1 184 = some (OA f') ∧ (A.1 = 0 → f' 0 = A.2.1.toInt64) ∧ o = .inl (some (.int (nI A.1)))) (fun G' f' a b c d => ⟨f', a, b, c, d, rfl⟩)) (fun r G1 hr => ?_) (fun E G' hr => by obtain ⟨_, _, _, _, _, q⟩ := hr; cases q)
  obtain ⟨f1, k1, r1, g1, hf, e1⟩ := hr
  cases e1
  have hR1 : RMA T S th G1 := hR.fp (fun j a b => k1 j a (by omega))
  have o1 := hR1.2.2.2
  obtain ⟨hs1, ps1, rs1, o1⟩ := o1
  refine V_istore rfl (by decide) ?_
  refine V_aload_n rfl (by first | rfl | assumption) ?_
  refine V_aload_n rfl (by first | rfl | assumption) ?_
  refine V_iload rfl (by first | rfl | assumption) ?_
  refine V_iconst (v := nI 1) rfl (by decide) ?_
  refine V_iaddN rfl ?_
  refine V_isldJ (j := 4) rfl hx rfl (by omega) (by omega) ?_
  refine V_aload_n rfl (by first | rfl | assumption) ?_
  refine V_iload rfl (by first | rfl | assumption) ?_
  refine V_iconst (v := nI 2) rfl (by decide) ?_
  refine V_iaddN rfl ?_
  refine V_isldJ (j := 4) rfl hx rfl (by omega) (by omega) ?_
  refine V_callV (M' := mX12_session) (mc := 0) (ms := 0) (bc' := bc) (bs' := bs) rfl cw_L_134 iv_X12_session o1 rfl rfl (Nat.le_of_ble_eq_true rfl) ⟨Nat.le_of_ble_eq_true rfl, Nat.le_of_ble_eq_true rfl⟩ ⟨by omega, by omega⟩ (As := [.int (xs (i + 1)), .int (xs (i + 2))]) (c2 G1 (fun o G' => FP PM G1 G' ∧ RMA T A.2.2 (nI A.1) G' ∧ o = .inl (some (.int A.2.1))) hR1 (fun G' a b => ⟨a, b, rfl⟩)) (fun r G2 hr => ?_) (fun E G' hr => by cases hr.2.2)
  obtain ⟨F2, hR2, e2⟩ := hr
  cases e2
  have r2 : RC A.2.2 G2 := r1.fp (fun j hj => F2.2 j (fun q => by have := q.1; omega))
  have g2 := (F2.2 184 (by decide)).trans g1
  refine V_istore rfl (by decide) ?_
  obtain ⟨hs2, ps2, rs2, o2⟩ := hR2.2.2.2
  refine V_aload_n rfl (by first | rfl | assumption) ?_
  refine V_callV (M' := mX12_thrown) (mc := 0) (ms := 0) (bc' := bc) (bs' := bs) rfl cw_L_82 iv_X12_thrown o2 rfl rfl (Nat.le_of_ble_eq_true rfl) ⟨Nat.le_of_ble_eq_true rfl, Nat.le_of_ble_eq_true rfl⟩ ⟨by omega, by omega⟩ (As := []) (c_mthrown (Q := fun o G' => G' = G2 ∧ o = .inl (some (.int (nI A.1)))) o2 ⟨rfl, rfl⟩) (fun r G3 hr => ?_) (fun E G' hr => by cases hr.2)
  obtain ⟨e3, e4⟩ := hr
  cases e4
  subst e3
  refine V_iload rfl (by first | rfl | assumption) ?_
  refine V_icmp_eq rfl (fun _ => ?_) (fun z => absurd rfl z)
  refine V_iload rfl (by first | rfl | assumption) ?_
  refine V_if_neN rfl (by omega) (fun z => ?_) (fun z => ?_)
  · refine V_goto rfl ?_
    exact hq _ _ ⟨⟨l0, l1, l2, l3, l4⟩, r2, ⟨_, hR2⟩, _, g2⟩
  · refine V_aload_n rfl (by first | rfl | assumption) ?_
    refine V_iconst (v := nI 0) rfl (by decide) ?_
    refine V_laldJ rfl g2 rfl (by decide) (by decide) ?_
    refine V_iload rfl (by first | rfl | assumption) ?_
    refine V_i2l rfl ?_
    refine V_lcmp rfl ?_
    refine V_if_eq rfl (fun _ => ?_) (fun y => absurd (lg_cmp0.mpr (hf z)) y)
    refine V_goto rfl ?_
    exact hq _ _ ⟨⟨l0, l1, l2, l3, l4⟩, r2, ⟨_, hR2⟩, _, g2⟩
end LCase
