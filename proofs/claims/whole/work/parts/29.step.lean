section CStep
variable {K : kK} {G : kG} {Q : kO → kG → Prop}
def addP (a b : Nat) : Nat := (a + b) % PP
def subP (a b : Nat) : Nat := (a + (PP - b % PP)) % PP
theorem addP_of {x a b A B : Nat} (h : x = a + b) (ha : a % PP = A) (hb : b % PP = B) : x % PP = addP A B := by
  rw [h, Nat.add_mod, ha, hb]
  rfl
theorem subP_of {x a b A B : Nat} (h : x + b = a + 2 * PP) (ha : a % PP = A) (hb : b % PP = B) : x % PP = subP A B := by
  unfold subP
  have hB : B < PP := by rw [← hb]; exact Nat.mod_lt _ (by decide)
  rw [Nat.mod_eq_of_lt hB]
  have e1 : (x + b + (PP - B)) % PP = x % PP := by
    have : x + b + (PP - B) = x + (b / PP + 1) * PP := by
      have := Nat.div_add_mod b PP
      rw [hb, Nat.mul_comm] at this
      rw [Nat.add_mul]
      omega
    rw [this, Nat.add_mul_mod_self_right]
  rw [← e1, h]
  have : a + 2 * PP + (PP - B) = (a + (PP - B)) + 2 * PP := by omega
  rw [this, Nat.add_mul_mod_self_right, ← ha, Nat.mod_add_mod]
theorem c_sumV {r p q : Nat} {x y z : Nat → Nat} (hr : G.1 r = some (LA 10 z)) (hp : G.1 p = some (LA 10 x)) (hqq : G.1 q = some (LA 10 y)) (hx : fA x) (hy : fA y) (hq : ∀ z', fB z' → v10 z' = v10 x + v10 y → Q (.inl none) (hup G r (LA 10 z'))) : C K 0 0 mX0_sum [.ref r, .ref p, .ref q] G Q := by
  refine c_sum hr hp hqq (hq _ ⟨fun j hj => ?_, ?_⟩ ?_)
  · simp only [show j < 10 by omega, if_true]
    have := hx.1 j hj
    have := hy.1 j hj
    omega
  · have := hx.2
    have := hy.2
    simp only [show (9 : Nat) < 10 by decide, if_true]
    omega
  · rw [← vs_add]
    exact vs_congr (fun j hj => by simp [hj])
theorem tP_val : v10 tP = 2 * PP := by decide
theorem c_diffV {r p q : Nat} {x y z : Nat → Nat} (hr : G.1 r = some (LA 10 z)) (hp : G.1 p = some (LA 10 x)) (hqq : G.1 q = some (LA 10 y)) (hx : fA x) (hy : fA y) (hq : ∀ z', fB z' → v10 z' + v10 y = v10 x + 2 * PP → Q (.inl none) (hup G r (LA 10 z'))) : C K 0 0 mX0_difference [.ref r, .ref p, .ref q] G Q := by
  have hle : ∀ j, j < 10 → y j ≤ tP j := fun j hj => by
    unfold tP
    rcases Nat.lt_or_ge j 9 with q | q
    · have := hy.1 j q
      split <;> (try rw [if_pos q]) <;> omega
    · have : j = 9 := by omega
      subst this
      have := hy.2
      simp
      omega
  refine c_difference hr hp hqq (fun j hj => by have := hle j hj; omega) (hq _ ⟨fun j hj => ?_, ?_⟩ ?_)
  · simp only [show j < 10 by omega, if_true]
    have := hx.1 j hj
    have : tP j ≤ 134217726 := by unfold tP; split <;> (try rw [if_pos hj]) <;> omega
    omega
  · have := hx.2
    simp only [show (9 : Nat) < 10 by decide, if_true, tP]
    simp
    omega
  · rw [← tP_val]
    show vs (2 ^ 26) _ 10 + vs (2 ^ 26) y 10 = vs (2 ^ 26) x 10 + vs (2 ^ 26) tP 10
    rw [← vs_add, ← vs_add]
    exact vs_congr (fun j hj => by have := hle j hj; simp only [hj, if_true]; omega)
/-- nothing changed but these rows -/
def FR (S : List Nat) (G G' : kG) : Prop := G'.2 = G.2 ∧ ∀ j, j ∉ S → G'.1 j = G.1 j
/-- a row of limbs of a product with such a number -/
def LAr (G : kG) (r A : Nat) : Prop := ∃ z, G.1 r = some (LA 10 z) ∧ fA z ∧ v10 z % PP = A
/-! the ladder's step, modulo P -/
def stX2 (x2 z2 : Nat) : Nat := mulP (mulP (addP x2 z2) (addP x2 z2)) (mulP (subP x2 z2) (subP x2 z2))
def stE (x2 z2 : Nat) : Nat := subP (mulP (addP x2 z2) (addP x2 z2)) (mulP (subP x2 z2) (subP x2 z2))
def stZ2 (x2 z2 : Nat) : Nat := mulP (stE x2 z2) (addP (mulP (addP x2 z2) (addP x2 z2)) (mulP 121665 (stE x2 z2)))
def stX3 (x2 z2 x3 z3 : Nat) : Nat := mulP (addP (mulP (subP x3 z3) (addP x2 z2)) (mulP (addP x3 z3) (subP x2 z2))) (addP (mulP (subP x3 z3) (addP x2 z2)) (mulP (addP x3 z3) (subP x2 z2)))
def stZ3 (u x2 z2 x3 z3 : Nat) : Nat := mulP u (mulP (subP (mulP (subP x3 z3) (addP x2 z2)) (mulP (addP x3 z3) (subP x2 z2))) (subP (mulP (subP x3 z3) (addP x2 z2)) (mulP (addP x3 z3) (subP x2 z2))))
set_option maxHeartbeats 40000000 in
set_option maxRecDepth 20000 in
theorem c_step0 {u y4 y5 y6 y7 a b c d e w : Nat → Nat} {UU A4 A5 A6 A7 : Nat} (g1 : G.1 1 = some (.inr (0, [.ref 2, .ref 3, .ref 4, .ref 5, .ref 6, .ref 7, .ref 8, .ref 9, .ref 10, .ref 11, .ref 12, .ref 13]))) (g3 : G.1 3 = some (LA 10 u)) (g4 : G.1 4 = some (LA 10 y4)) (g5 : G.1 5 = some (LA 10 y5)) (g6 : G.1 6 = some (LA 10 y6)) (g7 : G.1 7 = some (LA 10 y7)) (g8 : G.1 8 = some (LA 10 a)) (g9 : G.1 9 = some (LA 10 b)) (g10 : G.1 10 = some (LA 10 c)) (g11 : G.1 11 = some (LA 10 d)) (g12 : G.1 12 = some (LA 10 e)) (g13 : G.1 13 = some (LA 20 w))
    (hu : fA u) (Ru : v10 u % PP = UU) (hdX : fA y4) (RdX : v10 y4 % PP = A4) (hdZ : fA y5) (RdZ : v10 y5 % PP = A5) (haX : fA y6) (RaX : v10 y6 % PP = A6) (haZ : fA y7) (RaZ : v10 y7 % PP = A7)
    (hq : ∀ G', FR [4, 5, 6, 7, 8, 9, 10, 11, 12, 13] G G' → LAr G' 4 (stX2 A4 A5) → LAr G' 5 (stZ2 A4 A5) → LAr G' 6 (stX3 A4 A5 A6 A7) → LAr G' 7 (stZ3 UU A4 A5 A6 A7) → (∃ z, G'.1 8 = some (LA 10 z)) → (∃ z, G'.1 9 = some (LA 10 z)) → (∃ z, G'.1 10 = some (LA 10 z)) → (∃ z, G'.1 11 = some (LA 10 z)) → (∃ z, G'.1 12 = some (LA 10 z)) → (∃ z, G'.1 13 = some (LA 20 z)) → Q (.inl none) G') : C K 0 0 mX0_step [.ref 1, .ref 4, .ref 5, .ref 6, .ref 7] G Q := by
  refine C_of okX0_step (Nat.le_of_ble_eq_true rfl) ?_
  refine V_aload_n rfl (by first | rfl | assumption) ?_
  refine V_getf rfl rfl rfl (by repeat (first | exact hup_eq | assumption | refine Eq.trans (hup_ne (by first | assumption | exact Ne.symm (by assumption) | decide)) ?_)) (by first | rfl | assumption) ?_
  refine V_aload_n rfl (by first | rfl | assumption) ?_
  refine V_aload_n rfl (by first | rfl | assumption) ?_
  refine V_callS (M' := mX0_sum) (mc := 0) (ms := 0) (bc' := 0) (bs' := 0) rfl cw_X0_92 is_X0_sum rfl (Nat.le_of_ble_eq_true rfl) ⟨Nat.le_of_ble_eq_true rfl, Nat.le_of_ble_eq_true rfl⟩ ⟨Nat.le_of_ble_eq_true rfl, Nat.le_of_ble_eq_true rfl⟩ (As := [.ref 8, .ref 4, .ref 5]) (c_sumV (Q := fun o G' => o = .inl none ∧ ∃ z', fB z' ∧ v10 z' % PP = addP _ _ ∧ G' = hup _ 8 (LA 10 z')) (by first | rfl | exact g8) (by first | rfl | exact g4) (by first | rfl | exact g5) hdX hdZ (fun z' q1 q2 => ⟨rfl, z', q1, addP_of q2 RdX RdZ, rfl⟩)) (fun o G' h => ?_) (fun E G' h => by cases h.1)
  obtain ⟨h, z0, ha_0, Ra_0, rfl⟩ := h
  cases h
  refine V_aload_n rfl (by first | rfl | assumption) ?_
  refine V_getf rfl rfl rfl (by repeat (first | exact hup_eq | assumption | refine Eq.trans (hup_ne (by first | assumption | exact Ne.symm (by assumption) | decide)) ?_)) (by first | rfl | assumption) ?_
  refine V_aload_n rfl (by first | rfl | assumption) ?_
  refine V_aload_n rfl (by first | rfl | assumption) ?_
  refine V_callS (M' := mX0_difference) (mc := 0) (ms := 0) (bc' := 0) (bs' := 0) rfl cw_X0_95 is_X0_difference rfl (Nat.le_of_ble_eq_true rfl) ⟨Nat.le_of_ble_eq_true rfl, Nat.le_of_ble_eq_true rfl⟩ ⟨Nat.le_of_ble_eq_true rfl, Nat.le_of_ble_eq_true rfl⟩ (As := [.ref 9, .ref 4, .ref 5]) (c_diffV (Q := fun o G' => o = .inl none ∧ ∃ z', fB z' ∧ v10 z' % PP = subP _ _ ∧ G' = hup _ 9 (LA 10 z')) (by first | rfl | exact g9) (by first | rfl | exact g4) (by first | rfl | exact g5) hdX hdZ (fun z' q1 q2 => ⟨rfl, z', q1, subP_of q2 RdX RdZ, rfl⟩)) (fun o G' h => ?_) (fun E G' h => by cases h.1)
  obtain ⟨h, z1, hb_1, Rb_1, rfl⟩ := h
  cases h
  refine V_aload_n rfl (by first | rfl | assumption) ?_
  refine V_getf rfl rfl rfl (by repeat (first | exact hup_eq | assumption | refine Eq.trans (hup_ne (by first | assumption | exact Ne.symm (by assumption) | decide)) ?_)) (by first | rfl | assumption) ?_
  refine V_aload_n rfl (by first | rfl | assumption) ?_
  refine V_aload rfl (by first | rfl | assumption) ?_
  refine V_callS (M' := mX0_sum) (mc := 0) (ms := 0) (bc' := 0) (bs' := 0) rfl cw_X0_92 is_X0_sum rfl (Nat.le_of_ble_eq_true rfl) ⟨Nat.le_of_ble_eq_true rfl, Nat.le_of_ble_eq_true rfl⟩ ⟨Nat.le_of_ble_eq_true rfl, Nat.le_of_ble_eq_true rfl⟩ (As := [.ref 10, .ref 6, .ref 7]) (c_sumV (Q := fun o G' => o = .inl none ∧ ∃ z', fB z' ∧ v10 z' % PP = addP _ _ ∧ G' = hup _ 10 (LA 10 z')) (by first | rfl | exact g10) (by first | rfl | exact g6) (by first | rfl | exact g7) haX haZ (fun z' q1 q2 => ⟨rfl, z', q1, addP_of q2 RaX RaZ, rfl⟩)) (fun o G' h => ?_) (fun E G' h => by cases h.1)
  obtain ⟨h, z2, hc_2, Rc_2, rfl⟩ := h
  cases h
  refine V_aload_n rfl (by first | rfl | assumption) ?_
  refine V_getf rfl rfl rfl (by repeat (first | exact hup_eq | assumption | refine Eq.trans (hup_ne (by first | assumption | exact Ne.symm (by assumption) | decide)) ?_)) (by first | rfl | assumption) ?_
  refine V_aload_n rfl (by first | rfl | assumption) ?_
  refine V_aload rfl (by first | rfl | assumption) ?_
  refine V_callS (M' := mX0_difference) (mc := 0) (ms := 0) (bc' := 0) (bs' := 0) rfl cw_X0_95 is_X0_difference rfl (Nat.le_of_ble_eq_true rfl) ⟨Nat.le_of_ble_eq_true rfl, Nat.le_of_ble_eq_true rfl⟩ ⟨Nat.le_of_ble_eq_true rfl, Nat.le_of_ble_eq_true rfl⟩ (As := [.ref 11, .ref 6, .ref 7]) (c_diffV (Q := fun o G' => o = .inl none ∧ ∃ z', fB z' ∧ v10 z' % PP = subP _ _ ∧ G' = hup _ 11 (LA 10 z')) (by first | rfl | exact g11) (by first | rfl | exact g6) (by first | rfl | exact g7) haX haZ (fun z' q1 q2 => ⟨rfl, z', q1, subP_of q2 RaX RaZ, rfl⟩)) (fun o G' h => ?_) (fun E G' h => by cases h.1)
  obtain ⟨h, z3, hd_3, Rd_3, rfl⟩ := h
  cases h
  refine V_aload_n rfl (by first | rfl | assumption) ?_
  refine V_aload_n rfl (by first | rfl | assumption) ?_
  refine V_getf rfl rfl rfl (by repeat (first | exact hup_eq | assumption | refine Eq.trans (hup_ne (by first | assumption | exact Ne.symm (by assumption) | decide)) ?_)) (by first | rfl | assumption) ?_
  refine V_aload_n rfl (by first | rfl | assumption) ?_
  refine V_getf rfl rfl rfl (by repeat (first | exact hup_eq | assumption | refine Eq.trans (hup_ne (by first | assumption | exact Ne.symm (by assumption) | decide)) ?_)) (by first | rfl | assumption) ?_
  refine V_aload_n rfl (by first | rfl | assumption) ?_
  refine V_getf rfl rfl rfl (by repeat (first | exact hup_eq | assumption | refine Eq.trans (hup_ne (by first | assumption | exact Ne.symm (by assumption) | decide)) ?_)) (by first | rfl | assumption) ?_
  refine V_callV (M' := mX0_product) (mc := 0) (ms := 0) (bc' := 0) (bs' := 0) rfl cw_X0_75 iv_X0_product (by repeat (first | exact hup_eq | assumption | refine Eq.trans (hup_ne (by first | assumption | exact Ne.symm (by assumption) | decide)) ?_)) rfl rfl (Nat.le_of_ble_eq_true rfl) ⟨Nat.le_of_ble_eq_true rfl, Nat.le_of_ble_eq_true rfl⟩ ⟨Nat.le_of_ble_eq_true rfl, Nat.le_of_ble_eq_true rfl⟩ (As := [.ref 11, .ref 11, .ref 8]) (c_product (Q := fun o G' => o = .inl none ∧ ∃ w' z', fA z' ∧ v10 z' % PP = mulP _ _ ∧ G' = hup (hup _ 13 (LA 20 w')) 11 (LA 10 z')) (by first | rfl | exact g1) rfl (by first | rfl | exact g13) (by first | rfl | exact g11) (by first | rfl | exact g11) (by first | rfl | exact g8) (by decide) hd_3 ha_0 (fun w' z' q1 q2 => ⟨rfl, w', z', q1, mulP_of q2 Rd_3 Ra_0, rfl⟩)) (fun o G' h => ?_) (fun E G' h => by cases h.1)
  obtain ⟨h, w4, z4, hd_4, Rd_4, rfl⟩ := h
  cases h
  refine V_aload_n rfl (by first | rfl | assumption) ?_
  refine V_aload_n rfl (by first | rfl | assumption) ?_
  refine V_getf rfl rfl rfl (by repeat (first | exact hup_eq | assumption | refine Eq.trans (hup_ne (by first | assumption | exact Ne.symm (by assumption) | decide)) ?_)) (by first | rfl | assumption) ?_
  refine V_aload_n rfl (by first | rfl | assumption) ?_
  refine V_getf rfl rfl rfl (by repeat (first | exact hup_eq | assumption | refine Eq.trans (hup_ne (by first | assumption | exact Ne.symm (by assumption) | decide)) ?_)) (by first | rfl | assumption) ?_
  refine V_aload_n rfl (by first | rfl | assumption) ?_
  refine V_getf rfl rfl rfl (by repeat (first | exact hup_eq | assumption | refine Eq.trans (hup_ne (by first | assumption | exact Ne.symm (by assumption) | decide)) ?_)) (by first | rfl | assumption) ?_
  refine V_callV (M' := mX0_product) (mc := 0) (ms := 0) (bc' := 0) (bs' := 0) rfl cw_X0_75 iv_X0_product (by repeat (first | exact hup_eq | assumption | refine Eq.trans (hup_ne (by first | assumption | exact Ne.symm (by assumption) | decide)) ?_)) rfl rfl (Nat.le_of_ble_eq_true rfl) ⟨Nat.le_of_ble_eq_true rfl, Nat.le_of_ble_eq_true rfl⟩ ⟨Nat.le_of_ble_eq_true rfl, Nat.le_of_ble_eq_true rfl⟩ (As := [.ref 10, .ref 10, .ref 9]) (c_product (Q := fun o G' => o = .inl none ∧ ∃ w' z', fA z' ∧ v10 z' % PP = mulP _ _ ∧ G' = hup (hup _ 13 (LA 20 w')) 10 (LA 10 z')) (by first | rfl | exact g1) rfl (by first | rfl | exact g13) (by first | rfl | exact g10) (by first | rfl | exact g10) (by first | rfl | exact g9) (by decide) hc_2 hb_1 (fun w' z' q1 q2 => ⟨rfl, w', z', q1, mulP_of q2 Rc_2 Rb_1, rfl⟩)) (fun o G' h => ?_) (fun E G' h => by cases h.1)
  obtain ⟨h, w5, z5, hc_5, Rc_5, rfl⟩ := h
  cases h
  refine V_aload_n rfl (by first | rfl | assumption) ?_
  refine V_aload_n rfl (by first | rfl | assumption) ?_
  refine V_getf rfl rfl rfl (by repeat (first | exact hup_eq | assumption | refine Eq.trans (hup_ne (by first | assumption | exact Ne.symm (by assumption) | decide)) ?_)) (by first | rfl | assumption) ?_
  refine V_aload_n rfl (by first | rfl | assumption) ?_
  refine V_getf rfl rfl rfl (by repeat (first | exact hup_eq | assumption | refine Eq.trans (hup_ne (by first | assumption | exact Ne.symm (by assumption) | decide)) ?_)) (by first | rfl | assumption) ?_
  refine V_callV (M' := mX0_square) (mc := 0) (ms := 0) (bc' := 0) (bs' := 0) rfl cw_X0_98 iv_X0_square (by repeat (first | exact hup_eq | assumption | refine Eq.trans (hup_ne (by first | assumption | exact Ne.symm (by assumption) | decide)) ?_)) rfl rfl (Nat.le_of_ble_eq_true rfl) ⟨Nat.le_of_ble_eq_true rfl, Nat.le_of_ble_eq_true rfl⟩ ⟨Nat.le_of_ble_eq_true rfl, Nat.le_of_ble_eq_true rfl⟩ (As := [.ref 8, .ref 8]) (c_square (Q := fun o G' => o = .inl none ∧ ∃ w' z', fA z' ∧ v10 z' % PP = mulP _ _ ∧ G' = hup (hup _ 13 (LA 20 w')) 8 (LA 10 z')) (by first | rfl | exact g1) rfl (by first | rfl | exact g13) (by first | rfl | exact g8) (by first | rfl | exact g8) (by decide) ha_0 (fun w' z' q1 q2 => ⟨rfl, w', z', q1, mulP_of q2 Ra_0 Ra_0, rfl⟩)) (fun o G' h => ?_) (fun E G' h => by cases h.1)
  obtain ⟨h, w6, z6, ha_6, Ra_6, rfl⟩ := h
  cases h
  refine V_aload_n rfl (by first | rfl | assumption) ?_
  refine V_aload_n rfl (by first | rfl | assumption) ?_
  refine V_getf rfl rfl rfl (by repeat (first | exact hup_eq | assumption | refine Eq.trans (hup_ne (by first | assumption | exact Ne.symm (by assumption) | decide)) ?_)) (by first | rfl | assumption) ?_
  refine V_aload_n rfl (by first | rfl | assumption) ?_
  refine V_getf rfl rfl rfl (by repeat (first | exact hup_eq | assumption | refine Eq.trans (hup_ne (by first | assumption | exact Ne.symm (by assumption) | decide)) ?_)) (by first | rfl | assumption) ?_
  refine V_callV (M' := mX0_square) (mc := 0) (ms := 0) (bc' := 0) (bs' := 0) rfl cw_X0_98 iv_X0_square (by repeat (first | exact hup_eq | assumption | refine Eq.trans (hup_ne (by first | assumption | exact Ne.symm (by assumption) | decide)) ?_)) rfl rfl (Nat.le_of_ble_eq_true rfl) ⟨Nat.le_of_ble_eq_true rfl, Nat.le_of_ble_eq_true rfl⟩ ⟨Nat.le_of_ble_eq_true rfl, Nat.le_of_ble_eq_true rfl⟩ (As := [.ref 9, .ref 9]) (c_square (Q := fun o G' => o = .inl none ∧ ∃ w' z', fA z' ∧ v10 z' % PP = mulP _ _ ∧ G' = hup (hup _ 13 (LA 20 w')) 9 (LA 10 z')) (by first | rfl | exact g1) rfl (by first | rfl | exact g13) (by first | rfl | exact g9) (by first | rfl | exact g9) (by decide) hb_1 (fun w' z' q1 q2 => ⟨rfl, w', z', q1, mulP_of q2 Rb_1 Rb_1, rfl⟩)) (fun o G' h => ?_) (fun E G' h => by cases h.1)
  obtain ⟨h, w7, z7, hb_7, Rb_7, rfl⟩ := h
  cases h
  refine V_aload_n rfl (by first | rfl | assumption) ?_
  refine V_getf rfl rfl rfl (by repeat (first | exact hup_eq | assumption | refine Eq.trans (hup_ne (by first | assumption | exact Ne.symm (by assumption) | decide)) ?_)) (by first | rfl | assumption) ?_
  refine V_aload_n rfl (by first | rfl | assumption) ?_
  refine V_getf rfl rfl rfl (by repeat (first | exact hup_eq | assumption | refine Eq.trans (hup_ne (by first | assumption | exact Ne.symm (by assumption) | decide)) ?_)) (by first | rfl | assumption) ?_
  refine V_aload_n rfl (by first | rfl | assumption) ?_
  refine V_getf rfl rfl rfl (by repeat (first | exact hup_eq | assumption | refine Eq.trans (hup_ne (by first | assumption | exact Ne.symm (by assumption) | decide)) ?_)) (by first | rfl | assumption) ?_
  refine V_callS (M' := mX0_sum) (mc := 0) (ms := 0) (bc' := 0) (bs' := 0) rfl cw_X0_92 is_X0_sum rfl (Nat.le_of_ble_eq_true rfl) ⟨Nat.le_of_ble_eq_true rfl, Nat.le_of_ble_eq_true rfl⟩ ⟨Nat.le_of_ble_eq_true rfl, Nat.le_of_ble_eq_true rfl⟩ (As := [.ref 12, .ref 11, .ref 10]) (c_sumV (Q := fun o G' => o = .inl none ∧ ∃ z', fB z' ∧ v10 z' % PP = addP _ _ ∧ G' = hup _ 12 (LA 10 z')) (by first | rfl | exact g12) (by first | rfl | exact g11) (by first | rfl | exact g10) hd_4 hc_5 (fun z' q1 q2 => ⟨rfl, z', q1, addP_of q2 Rd_4 Rc_5, rfl⟩)) (fun o G' h => ?_) (fun E G' h => by cases h.1)
  obtain ⟨h, z8, he_8, Re_8, rfl⟩ := h
  cases h
  refine V_aload_n rfl (by first | rfl | assumption) ?_
  refine V_aload_n rfl (by first | rfl | assumption) ?_
  refine V_aload_n rfl (by first | rfl | assumption) ?_
  refine V_getf rfl rfl rfl (by repeat (first | exact hup_eq | assumption | refine Eq.trans (hup_ne (by first | assumption | exact Ne.symm (by assumption) | decide)) ?_)) (by first | rfl | assumption) ?_
  refine V_callV (M' := mX0_square) (mc := 0) (ms := 0) (bc' := 0) (bs' := 0) rfl cw_X0_98 iv_X0_square (by repeat (first | exact hup_eq | assumption | refine Eq.trans (hup_ne (by first | assumption | exact Ne.symm (by assumption) | decide)) ?_)) rfl rfl (Nat.le_of_ble_eq_true rfl) ⟨Nat.le_of_ble_eq_true rfl, Nat.le_of_ble_eq_true rfl⟩ ⟨Nat.le_of_ble_eq_true rfl, Nat.le_of_ble_eq_true rfl⟩ (As := [.ref 6, .ref 12]) (c_square (Q := fun o G' => o = .inl none ∧ ∃ w' z', fA z' ∧ v10 z' % PP = mulP _ _ ∧ G' = hup (hup _ 13 (LA 20 w')) 6 (LA 10 z')) (by first | rfl | exact g1) rfl (by first | rfl | exact g13) (by first | rfl | exact g6) (by first | rfl | exact g12) (by decide) he_8 (fun w' z' q1 q2 => ⟨rfl, w', z', q1, mulP_of q2 Re_8 Re_8, rfl⟩)) (fun o G' h => ?_) (fun E G' h => by cases h.1)
  obtain ⟨h, w9, z9, haX_9, RaX_9, rfl⟩ := h
  cases h
  refine V_aload_n rfl (by first | rfl | assumption) ?_
  refine V_getf rfl rfl rfl (by repeat (first | exact hup_eq | assumption | refine Eq.trans (hup_ne (by first | assumption | exact Ne.symm (by assumption) | decide)) ?_)) (by first | rfl | assumption) ?_
  refine V_aload_n rfl (by first | rfl | assumption) ?_
  refine V_getf rfl rfl rfl (by repeat (first | exact hup_eq | assumption | refine Eq.trans (hup_ne (by first | assumption | exact Ne.symm (by assumption) | decide)) ?_)) (by first | rfl | assumption) ?_
  refine V_aload_n rfl (by first | rfl | assumption) ?_
  refine V_getf rfl rfl rfl (by repeat (first | exact hup_eq | assumption | refine Eq.trans (hup_ne (by first | assumption | exact Ne.symm (by assumption) | decide)) ?_)) (by first | rfl | assumption) ?_
  refine V_callS (M' := mX0_difference) (mc := 0) (ms := 0) (bc' := 0) (bs' := 0) rfl cw_X0_95 is_X0_difference rfl (Nat.le_of_ble_eq_true rfl) ⟨Nat.le_of_ble_eq_true rfl, Nat.le_of_ble_eq_true rfl⟩ ⟨Nat.le_of_ble_eq_true rfl, Nat.le_of_ble_eq_true rfl⟩ (As := [.ref 12, .ref 11, .ref 10]) (c_diffV (Q := fun o G' => o = .inl none ∧ ∃ z', fB z' ∧ v10 z' % PP = subP _ _ ∧ G' = hup _ 12 (LA 10 z')) (by first | rfl | exact g12) (by first | rfl | exact g11) (by first | rfl | exact g10) hd_4 hc_5 (fun z' q1 q2 => ⟨rfl, z', q1, subP_of q2 Rd_4 Rc_5, rfl⟩)) (fun o G' h => ?_) (fun E G' h => by cases h.1)
  obtain ⟨h, z10, he_10, Re_10, rfl⟩ := h
  cases h
  refine V_aload_n rfl (by first | rfl | assumption) ?_
  refine V_aload_n rfl (by first | rfl | assumption) ?_
  refine V_getf rfl rfl rfl (by repeat (first | exact hup_eq | assumption | refine Eq.trans (hup_ne (by first | assumption | exact Ne.symm (by assumption) | decide)) ?_)) (by first | rfl | assumption) ?_
  refine V_aload_n rfl (by first | rfl | assumption) ?_
  refine V_getf rfl rfl rfl (by repeat (first | exact hup_eq | assumption | refine Eq.trans (hup_ne (by first | assumption | exact Ne.symm (by assumption) | decide)) ?_)) (by first | rfl | assumption) ?_
  refine V_callV (M' := mX0_square) (mc := 0) (ms := 0) (bc' := 0) (bs' := 0) rfl cw_X0_98 iv_X0_square (by repeat (first | exact hup_eq | assumption | refine Eq.trans (hup_ne (by first | assumption | exact Ne.symm (by assumption) | decide)) ?_)) rfl rfl (Nat.le_of_ble_eq_true rfl) ⟨Nat.le_of_ble_eq_true rfl, Nat.le_of_ble_eq_true rfl⟩ ⟨Nat.le_of_ble_eq_true rfl, Nat.le_of_ble_eq_true rfl⟩ (As := [.ref 12, .ref 12]) (c_square (Q := fun o G' => o = .inl none ∧ ∃ w' z', fA z' ∧ v10 z' % PP = mulP _ _ ∧ G' = hup (hup _ 13 (LA 20 w')) 12 (LA 10 z')) (by first | rfl | exact g1) rfl (by first | rfl | exact g13) (by first | rfl | exact g12) (by first | rfl | exact g12) (by decide) he_10 (fun w' z' q1 q2 => ⟨rfl, w', z', q1, mulP_of q2 Re_10 Re_10, rfl⟩)) (fun o G' h => ?_) (fun E G' h => by cases h.1)
  obtain ⟨h, w11, z11, he_11, Re_11, rfl⟩ := h
  cases h
  refine V_aload_n rfl (by first | rfl | assumption) ?_
  refine V_aload rfl (by first | rfl | assumption) ?_
  refine V_aload_n rfl (by first | rfl | assumption) ?_
  refine V_getf rfl rfl rfl (by repeat (first | exact hup_eq | assumption | refine Eq.trans (hup_ne (by first | assumption | exact Ne.symm (by assumption) | decide)) ?_)) (by first | rfl | assumption) ?_
  refine V_aload_n rfl (by first | rfl | assumption) ?_
  refine V_getf rfl rfl rfl (by repeat (first | exact hup_eq | assumption | refine Eq.trans (hup_ne (by first | assumption | exact Ne.symm (by assumption) | decide)) ?_)) (by first | rfl | assumption) ?_
  refine V_callV (M' := mX0_product) (mc := 0) (ms := 0) (bc' := 0) (bs' := 0) rfl cw_X0_75 iv_X0_product (by repeat (first | exact hup_eq | assumption | refine Eq.trans (hup_ne (by first | assumption | exact Ne.symm (by assumption) | decide)) ?_)) rfl rfl (Nat.le_of_ble_eq_true rfl) ⟨Nat.le_of_ble_eq_true rfl, Nat.le_of_ble_eq_true rfl⟩ ⟨Nat.le_of_ble_eq_true rfl, Nat.le_of_ble_eq_true rfl⟩ (As := [.ref 7, .ref 3, .ref 12]) (c_product (Q := fun o G' => o = .inl none ∧ ∃ w' z', fA z' ∧ v10 z' % PP = mulP _ _ ∧ G' = hup (hup _ 13 (LA 20 w')) 7 (LA 10 z')) (by first | rfl | exact g1) rfl (by first | rfl | exact g13) (by first | rfl | exact g7) (by first | rfl | exact g3) (by first | rfl | exact g12) (by decide) hu.B he_11.B (fun w' z' q1 q2 => ⟨rfl, w', z', q1, mulP_of q2 Ru Re_11, rfl⟩)) (fun o G' h => ?_) (fun E G' h => by cases h.1)
  obtain ⟨h, w12, z12, haZ_12, RaZ_12, rfl⟩ := h
  cases h
  refine V_aload_n rfl (by first | rfl | assumption) ?_
  refine V_aload_n rfl (by first | rfl | assumption) ?_
  refine V_aload_n rfl (by first | rfl | assumption) ?_
  refine V_getf rfl rfl rfl (by repeat (first | exact hup_eq | assumption | refine Eq.trans (hup_ne (by first | assumption | exact Ne.symm (by assumption) | decide)) ?_)) (by first | rfl | assumption) ?_
  refine V_aload_n rfl (by first | rfl | assumption) ?_
  refine V_getf rfl rfl rfl (by repeat (first | exact hup_eq | assumption | refine Eq.trans (hup_ne (by first | assumption | exact Ne.symm (by assumption) | decide)) ?_)) (by first | rfl | assumption) ?_
  refine V_callV (M' := mX0_product) (mc := 0) (ms := 0) (bc' := 0) (bs' := 0) rfl cw_X0_75 iv_X0_product (by repeat (first | exact hup_eq | assumption | refine Eq.trans (hup_ne (by first | assumption | exact Ne.symm (by assumption) | decide)) ?_)) rfl rfl (Nat.le_of_ble_eq_true rfl) ⟨Nat.le_of_ble_eq_true rfl, Nat.le_of_ble_eq_true rfl⟩ ⟨Nat.le_of_ble_eq_true rfl, Nat.le_of_ble_eq_true rfl⟩ (As := [.ref 4, .ref 8, .ref 9]) (c_product (Q := fun o G' => o = .inl none ∧ ∃ w' z', fA z' ∧ v10 z' % PP = mulP _ _ ∧ G' = hup (hup _ 13 (LA 20 w')) 4 (LA 10 z')) (by first | rfl | exact g1) rfl (by first | rfl | exact g13) (by first | rfl | exact g4) (by first | rfl | exact g8) (by first | rfl | exact g9) (by decide) ha_6.B hb_7.B (fun w' z' q1 q2 => ⟨rfl, w', z', q1, mulP_of q2 Ra_6 Rb_7, rfl⟩)) (fun o G' h => ?_) (fun E G' h => by cases h.1)
  obtain ⟨h, w13, z13, hdX_13, RdX_13, rfl⟩ := h
  cases h
  refine V_aload_n rfl (by first | rfl | assumption) ?_
  refine V_getf rfl rfl rfl (by repeat (first | exact hup_eq | assumption | refine Eq.trans (hup_ne (by first | assumption | exact Ne.symm (by assumption) | decide)) ?_)) (by first | rfl | assumption) ?_
  refine V_aload_n rfl (by first | rfl | assumption) ?_
  refine V_getf rfl rfl rfl (by repeat (first | exact hup_eq | assumption | refine Eq.trans (hup_ne (by first | assumption | exact Ne.symm (by assumption) | decide)) ?_)) (by first | rfl | assumption) ?_
  refine V_aload_n rfl (by first | rfl | assumption) ?_
  refine V_getf rfl rfl rfl (by repeat (first | exact hup_eq | assumption | refine Eq.trans (hup_ne (by first | assumption | exact Ne.symm (by assumption) | decide)) ?_)) (by first | rfl | assumption) ?_
  refine V_callS (M' := mX0_difference) (mc := 0) (ms := 0) (bc' := 0) (bs' := 0) rfl cw_X0_95 is_X0_difference rfl (Nat.le_of_ble_eq_true rfl) ⟨Nat.le_of_ble_eq_true rfl, Nat.le_of_ble_eq_true rfl⟩ ⟨Nat.le_of_ble_eq_true rfl, Nat.le_of_ble_eq_true rfl⟩ (As := [.ref 12, .ref 8, .ref 9]) (c_diffV (Q := fun o G' => o = .inl none ∧ ∃ z', fB z' ∧ v10 z' % PP = subP _ _ ∧ G' = hup _ 12 (LA 10 z')) (by first | rfl | exact g12) (by first | rfl | exact g8) (by first | rfl | exact g9) ha_6 hb_7 (fun z' q1 q2 => ⟨rfl, z', q1, subP_of q2 Ra_6 Rb_7, rfl⟩)) (fun o G' h => ?_) (fun E G' h => by cases h.1)
  obtain ⟨h, z14, he_14, Re_14, rfl⟩ := h
  cases h
  refine V_aload_n rfl (by first | rfl | assumption) ?_
  refine V_aload_n rfl (by first | rfl | assumption) ?_
  refine V_getf rfl rfl rfl (by repeat (first | exact hup_eq | assumption | refine Eq.trans (hup_ne (by first | assumption | exact Ne.symm (by assumption) | decide)) ?_)) (by first | rfl | assumption) ?_
  refine V_aload_n rfl (by first | rfl | assumption) ?_
  refine V_getf rfl rfl rfl (by repeat (first | exact hup_eq | assumption | refine Eq.trans (hup_ne (by first | assumption | exact Ne.symm (by assumption) | decide)) ?_)) (by first | rfl | assumption) ?_
  refine V_callV (M' := mX0_scale) (mc := 0) (ms := 0) (bc' := 0) (bs' := 0) rfl cw_X0_101 iv_X0_scale (by repeat (first | exact hup_eq | assumption | refine Eq.trans (hup_ne (by first | assumption | exact Ne.symm (by assumption) | decide)) ?_)) rfl rfl (Nat.le_of_ble_eq_true rfl) ⟨Nat.le_of_ble_eq_true rfl, Nat.le_of_ble_eq_true rfl⟩ ⟨Nat.le_of_ble_eq_true rfl, Nat.le_of_ble_eq_true rfl⟩ (As := [.ref 9, .ref 12]) (c_scale (Q := fun o G' => o = .inl none ∧ ∃ w' z', fA z' ∧ v10 z' % PP = mulP 121665 _ ∧ G' = hup (hup _ 13 (LA 20 w')) 9 (LA 10 z')) (by first | rfl | exact g1) rfl (by first | rfl | exact g13) (by first | rfl | exact g9) (by first | rfl | exact g12) (by decide) (by decide) he_14 (fun w' z' q1 q2 => ⟨rfl, w', z', q1, mulP_of q2 rfl Re_14, rfl⟩)) (fun o G' h => ?_) (fun E G' h => by cases h.1)
  obtain ⟨h, w15, z15, hb_15, Rb_15, rfl⟩ := h
  cases h
  refine V_aload_n rfl (by first | rfl | assumption) ?_
  refine V_getf rfl rfl rfl (by repeat (first | exact hup_eq | assumption | refine Eq.trans (hup_ne (by first | assumption | exact Ne.symm (by assumption) | decide)) ?_)) (by first | rfl | assumption) ?_
  refine V_aload_n rfl (by first | rfl | assumption) ?_
  refine V_getf rfl rfl rfl (by repeat (first | exact hup_eq | assumption | refine Eq.trans (hup_ne (by first | assumption | exact Ne.symm (by assumption) | decide)) ?_)) (by first | rfl | assumption) ?_
  refine V_aload_n rfl (by first | rfl | assumption) ?_
  refine V_getf rfl rfl rfl (by repeat (first | exact hup_eq | assumption | refine Eq.trans (hup_ne (by first | assumption | exact Ne.symm (by assumption) | decide)) ?_)) (by first | rfl | assumption) ?_
  refine V_callS (M' := mX0_sum) (mc := 0) (ms := 0) (bc' := 0) (bs' := 0) rfl cw_X0_92 is_X0_sum rfl (Nat.le_of_ble_eq_true rfl) ⟨Nat.le_of_ble_eq_true rfl, Nat.le_of_ble_eq_true rfl⟩ ⟨Nat.le_of_ble_eq_true rfl, Nat.le_of_ble_eq_true rfl⟩ (As := [.ref 9, .ref 8, .ref 9]) (c_sumV (Q := fun o G' => o = .inl none ∧ ∃ z', fB z' ∧ v10 z' % PP = addP _ _ ∧ G' = hup _ 9 (LA 10 z')) (by first | rfl | exact g9) (by first | rfl | exact g8) (by first | rfl | exact g9) ha_6 hb_15 (fun z' q1 q2 => ⟨rfl, z', q1, addP_of q2 Ra_6 Rb_15, rfl⟩)) (fun o G' h => ?_) (fun E G' h => by cases h.1)
  obtain ⟨h, z16, hb_16, Rb_16, rfl⟩ := h
  cases h
  refine V_aload_n rfl (by first | rfl | assumption) ?_
  refine V_aload_n rfl (by first | rfl | assumption) ?_
  refine V_aload_n rfl (by first | rfl | assumption) ?_
  refine V_getf rfl rfl rfl (by repeat (first | exact hup_eq | assumption | refine Eq.trans (hup_ne (by first | assumption | exact Ne.symm (by assumption) | decide)) ?_)) (by first | rfl | assumption) ?_
  refine V_aload_n rfl (by first | rfl | assumption) ?_
  refine V_getf rfl rfl rfl (by repeat (first | exact hup_eq | assumption | refine Eq.trans (hup_ne (by first | assumption | exact Ne.symm (by assumption) | decide)) ?_)) (by first | rfl | assumption) ?_
  refine V_callV (M' := mX0_product) (mc := 0) (ms := 0) (bc' := 0) (bs' := 0) rfl cw_X0_75 iv_X0_product (by repeat (first | exact hup_eq | assumption | refine Eq.trans (hup_ne (by first | assumption | exact Ne.symm (by assumption) | decide)) ?_)) rfl rfl (Nat.le_of_ble_eq_true rfl) ⟨Nat.le_of_ble_eq_true rfl, Nat.le_of_ble_eq_true rfl⟩ ⟨Nat.le_of_ble_eq_true rfl, Nat.le_of_ble_eq_true rfl⟩ (As := [.ref 5, .ref 12, .ref 9]) (c_product (Q := fun o G' => o = .inl none ∧ ∃ w' z', fA z' ∧ v10 z' % PP = mulP _ _ ∧ G' = hup (hup _ 13 (LA 20 w')) 5 (LA 10 z')) (by first | rfl | exact g1) rfl (by first | rfl | exact g13) (by first | rfl | exact g5) (by first | rfl | exact g12) (by first | rfl | exact g9) (by decide) he_14 hb_16 (fun w' z' q1 q2 => ⟨rfl, w', z', q1, mulP_of q2 Re_14 Rb_16, rfl⟩)) (fun o G' h => ?_) (fun E G' h => by cases h.1)
  obtain ⟨h, w17, z17, hdZ_17, RdZ_17, rfl⟩ := h
  cases h
  refine V_vret rfl rfl (hq _ ⟨rfl, fun j hj => ?_⟩ ⟨_, rfl, hdX_13, RdX_13⟩ ⟨_, rfl, hdZ_17, RdZ_17⟩ ⟨_, rfl, haX_9, RaX_9⟩ ⟨_, rfl, haZ_12, RaZ_12⟩ ⟨_, rfl⟩ ⟨_, rfl⟩ ⟨_, rfl⟩ ⟨_, rfl⟩ ⟨_, rfl⟩ ⟨_, rfl⟩)
  simp only [hup]
  simp only [List.mem_cons, not_or] at hj
  simp [hj]
set_option maxHeartbeats 40000000 in
set_option maxRecDepth 20000 in
theorem c_step1 {u y4 y5 y6 y7 a b c d e w : Nat → Nat} {UU A4 A5 A6 A7 : Nat} (g1 : G.1 1 = some (.inr (0, [.ref 2, .ref 3, .ref 4, .ref 5, .ref 6, .ref 7, .ref 8, .ref 9, .ref 10, .ref 11, .ref 12, .ref 13]))) (g3 : G.1 3 = some (LA 10 u)) (g4 : G.1 4 = some (LA 10 y4)) (g5 : G.1 5 = some (LA 10 y5)) (g6 : G.1 6 = some (LA 10 y6)) (g7 : G.1 7 = some (LA 10 y7)) (g8 : G.1 8 = some (LA 10 a)) (g9 : G.1 9 = some (LA 10 b)) (g10 : G.1 10 = some (LA 10 c)) (g11 : G.1 11 = some (LA 10 d)) (g12 : G.1 12 = some (LA 10 e)) (g13 : G.1 13 = some (LA 20 w))
    (hu : fA u) (Ru : v10 u % PP = UU) (hdX : fA y6) (RdX : v10 y6 % PP = A6) (hdZ : fA y7) (RdZ : v10 y7 % PP = A7) (haX : fA y4) (RaX : v10 y4 % PP = A4) (haZ : fA y5) (RaZ : v10 y5 % PP = A5)
    (hq : ∀ G', FR [4, 5, 6, 7, 8, 9, 10, 11, 12, 13] G G' → LAr G' 6 (stX2 A6 A7) → LAr G' 7 (stZ2 A6 A7) → LAr G' 4 (stX3 A6 A7 A4 A5) → LAr G' 5 (stZ3 UU A6 A7 A4 A5) → (∃ z, G'.1 8 = some (LA 10 z)) → (∃ z, G'.1 9 = some (LA 10 z)) → (∃ z, G'.1 10 = some (LA 10 z)) → (∃ z, G'.1 11 = some (LA 10 z)) → (∃ z, G'.1 12 = some (LA 10 z)) → (∃ z, G'.1 13 = some (LA 20 z)) → Q (.inl none) G') : C K 0 0 mX0_step [.ref 1, .ref 6, .ref 7, .ref 4, .ref 5] G Q := by
  refine C_of okX0_step (Nat.le_of_ble_eq_true rfl) ?_
  refine V_aload_n rfl (by first | rfl | assumption) ?_
  refine V_getf rfl rfl rfl (by repeat (first | exact hup_eq | assumption | refine Eq.trans (hup_ne (by first | assumption | exact Ne.symm (by assumption) | decide)) ?_)) (by first | rfl | assumption) ?_
  refine V_aload_n rfl (by first | rfl | assumption) ?_
  refine V_aload_n rfl (by first | rfl | assumption) ?_
  refine V_callS (M' := mX0_sum) (mc := 0) (ms := 0) (bc' := 0) (bs' := 0) rfl cw_X0_92 is_X0_sum rfl (Nat.le_of_ble_eq_true rfl) ⟨Nat.le_of_ble_eq_true rfl, Nat.le_of_ble_eq_true rfl⟩ ⟨Nat.le_of_ble_eq_true rfl, Nat.le_of_ble_eq_true rfl⟩ (As := [.ref 8, .ref 6, .ref 7]) (c_sumV (Q := fun o G' => o = .inl none ∧ ∃ z', fB z' ∧ v10 z' % PP = addP _ _ ∧ G' = hup _ 8 (LA 10 z')) (by first | rfl | exact g8) (by first | rfl | exact g6) (by first | rfl | exact g7) hdX hdZ (fun z' q1 q2 => ⟨rfl, z', q1, addP_of q2 RdX RdZ, rfl⟩)) (fun o G' h => ?_) (fun E G' h => by cases h.1)
  obtain ⟨h, z0, ha_0, Ra_0, rfl⟩ := h
  cases h
  refine V_aload_n rfl (by first | rfl | assumption) ?_
  refine V_getf rfl rfl rfl (by repeat (first | exact hup_eq | assumption | refine Eq.trans (hup_ne (by first | assumption | exact Ne.symm (by assumption) | decide)) ?_)) (by first | rfl | assumption) ?_
  refine V_aload_n rfl (by first | rfl | assumption) ?_
  refine V_aload_n rfl (by first | rfl | assumption) ?_
  refine V_callS (M' := mX0_difference) (mc := 0) (ms := 0) (bc' := 0) (bs' := 0) rfl cw_X0_95 is_X0_difference rfl (Nat.le_of_ble_eq_true rfl) ⟨Nat.le_of_ble_eq_true rfl, Nat.le_of_ble_eq_true rfl⟩ ⟨Nat.le_of_ble_eq_true rfl, Nat.le_of_ble_eq_true rfl⟩ (As := [.ref 9, .ref 6, .ref 7]) (c_diffV (Q := fun o G' => o = .inl none ∧ ∃ z', fB z' ∧ v10 z' % PP = subP _ _ ∧ G' = hup _ 9 (LA 10 z')) (by first | rfl | exact g9) (by first | rfl | exact g6) (by first | rfl | exact g7) hdX hdZ (fun z' q1 q2 => ⟨rfl, z', q1, subP_of q2 RdX RdZ, rfl⟩)) (fun o G' h => ?_) (fun E G' h => by cases h.1)
  obtain ⟨h, z1, hb_1, Rb_1, rfl⟩ := h
  cases h
  refine V_aload_n rfl (by first | rfl | assumption) ?_
  refine V_getf rfl rfl rfl (by repeat (first | exact hup_eq | assumption | refine Eq.trans (hup_ne (by first | assumption | exact Ne.symm (by assumption) | decide)) ?_)) (by first | rfl | assumption) ?_
  refine V_aload_n rfl (by first | rfl | assumption) ?_
  refine V_aload rfl (by first | rfl | assumption) ?_
  refine V_callS (M' := mX0_sum) (mc := 0) (ms := 0) (bc' := 0) (bs' := 0) rfl cw_X0_92 is_X0_sum rfl (Nat.le_of_ble_eq_true rfl) ⟨Nat.le_of_ble_eq_true rfl, Nat.le_of_ble_eq_true rfl⟩ ⟨Nat.le_of_ble_eq_true rfl, Nat.le_of_ble_eq_true rfl⟩ (As := [.ref 10, .ref 4, .ref 5]) (c_sumV (Q := fun o G' => o = .inl none ∧ ∃ z', fB z' ∧ v10 z' % PP = addP _ _ ∧ G' = hup _ 10 (LA 10 z')) (by first | rfl | exact g10) (by first | rfl | exact g4) (by first | rfl | exact g5) haX haZ (fun z' q1 q2 => ⟨rfl, z', q1, addP_of q2 RaX RaZ, rfl⟩)) (fun o G' h => ?_) (fun E G' h => by cases h.1)
  obtain ⟨h, z2, hc_2, Rc_2, rfl⟩ := h
  cases h
  refine V_aload_n rfl (by first | rfl | assumption) ?_
  refine V_getf rfl rfl rfl (by repeat (first | exact hup_eq | assumption | refine Eq.trans (hup_ne (by first | assumption | exact Ne.symm (by assumption) | decide)) ?_)) (by first | rfl | assumption) ?_
  refine V_aload_n rfl (by first | rfl | assumption) ?_
  refine V_aload rfl (by first | rfl | assumption) ?_
  refine V_callS (M' := mX0_difference) (mc := 0) (ms := 0) (bc' := 0) (bs' := 0) rfl cw_X0_95 is_X0_difference rfl (Nat.le_of_ble_eq_true rfl) ⟨Nat.le_of_ble_eq_true rfl, Nat.le_of_ble_eq_true rfl⟩ ⟨Nat.le_of_ble_eq_true rfl, Nat.le_of_ble_eq_true rfl⟩ (As := [.ref 11, .ref 4, .ref 5]) (c_diffV (Q := fun o G' => o = .inl none ∧ ∃ z', fB z' ∧ v10 z' % PP = subP _ _ ∧ G' = hup _ 11 (LA 10 z')) (by first | rfl | exact g11) (by first | rfl | exact g4) (by first | rfl | exact g5) haX haZ (fun z' q1 q2 => ⟨rfl, z', q1, subP_of q2 RaX RaZ, rfl⟩)) (fun o G' h => ?_) (fun E G' h => by cases h.1)
  obtain ⟨h, z3, hd_3, Rd_3, rfl⟩ := h
  cases h
  refine V_aload_n rfl (by first | rfl | assumption) ?_
  refine V_aload_n rfl (by first | rfl | assumption) ?_
  refine V_getf rfl rfl rfl (by repeat (first | exact hup_eq | assumption | refine Eq.trans (hup_ne (by first | assumption | exact Ne.symm (by assumption) | decide)) ?_)) (by first | rfl | assumption) ?_
  refine V_aload_n rfl (by first | rfl | assumption) ?_
  refine V_getf rfl rfl rfl (by repeat (first | exact hup_eq | assumption | refine Eq.trans (hup_ne (by first | assumption | exact Ne.symm (by assumption) | decide)) ?_)) (by first | rfl | assumption) ?_
  refine V_aload_n rfl (by first | rfl | assumption) ?_
  refine V_getf rfl rfl rfl (by repeat (first | exact hup_eq | assumption | refine Eq.trans (hup_ne (by first | assumption | exact Ne.symm (by assumption) | decide)) ?_)) (by first | rfl | assumption) ?_
  refine V_callV (M' := mX0_product) (mc := 0) (ms := 0) (bc' := 0) (bs' := 0) rfl cw_X0_75 iv_X0_product (by repeat (first | exact hup_eq | assumption | refine Eq.trans (hup_ne (by first | assumption | exact Ne.symm (by assumption) | decide)) ?_)) rfl rfl (Nat.le_of_ble_eq_true rfl) ⟨Nat.le_of_ble_eq_true rfl, Nat.le_of_ble_eq_true rfl⟩ ⟨Nat.le_of_ble_eq_true rfl, Nat.le_of_ble_eq_true rfl⟩ (As := [.ref 11, .ref 11, .ref 8]) (c_product (Q := fun o G' => o = .inl none ∧ ∃ w' z', fA z' ∧ v10 z' % PP = mulP _ _ ∧ G' = hup (hup _ 13 (LA 20 w')) 11 (LA 10 z')) (by first | rfl | exact g1) rfl (by first | rfl | exact g13) (by first | rfl | exact g11) (by first | rfl | exact g11) (by first | rfl | exact g8) (by decide) hd_3 ha_0 (fun w' z' q1 q2 => ⟨rfl, w', z', q1, mulP_of q2 Rd_3 Ra_0, rfl⟩)) (fun o G' h => ?_) (fun E G' h => by cases h.1)
  obtain ⟨h, w4, z4, hd_4, Rd_4, rfl⟩ := h
  cases h
  refine V_aload_n rfl (by first | rfl | assumption) ?_
  refine V_aload_n rfl (by first | rfl | assumption) ?_
  refine V_getf rfl rfl rfl (by repeat (first | exact hup_eq | assumption | refine Eq.trans (hup_ne (by first | assumption | exact Ne.symm (by assumption) | decide)) ?_)) (by first | rfl | assumption) ?_
  refine V_aload_n rfl (by first | rfl | assumption) ?_
  refine V_getf rfl rfl rfl (by repeat (first | exact hup_eq | assumption | refine Eq.trans (hup_ne (by first | assumption | exact Ne.symm (by assumption) | decide)) ?_)) (by first | rfl | assumption) ?_
  refine V_aload_n rfl (by first | rfl | assumption) ?_
  refine V_getf rfl rfl rfl (by repeat (first | exact hup_eq | assumption | refine Eq.trans (hup_ne (by first | assumption | exact Ne.symm (by assumption) | decide)) ?_)) (by first | rfl | assumption) ?_
  refine V_callV (M' := mX0_product) (mc := 0) (ms := 0) (bc' := 0) (bs' := 0) rfl cw_X0_75 iv_X0_product (by repeat (first | exact hup_eq | assumption | refine Eq.trans (hup_ne (by first | assumption | exact Ne.symm (by assumption) | decide)) ?_)) rfl rfl (Nat.le_of_ble_eq_true rfl) ⟨Nat.le_of_ble_eq_true rfl, Nat.le_of_ble_eq_true rfl⟩ ⟨Nat.le_of_ble_eq_true rfl, Nat.le_of_ble_eq_true rfl⟩ (As := [.ref 10, .ref 10, .ref 9]) (c_product (Q := fun o G' => o = .inl none ∧ ∃ w' z', fA z' ∧ v10 z' % PP = mulP _ _ ∧ G' = hup (hup _ 13 (LA 20 w')) 10 (LA 10 z')) (by first | rfl | exact g1) rfl (by first | rfl | exact g13) (by first | rfl | exact g10) (by first | rfl | exact g10) (by first | rfl | exact g9) (by decide) hc_2 hb_1 (fun w' z' q1 q2 => ⟨rfl, w', z', q1, mulP_of q2 Rc_2 Rb_1, rfl⟩)) (fun o G' h => ?_) (fun E G' h => by cases h.1)
  obtain ⟨h, w5, z5, hc_5, Rc_5, rfl⟩ := h
  cases h
  refine V_aload_n rfl (by first | rfl | assumption) ?_
  refine V_aload_n rfl (by first | rfl | assumption) ?_
  refine V_getf rfl rfl rfl (by repeat (first | exact hup_eq | assumption | refine Eq.trans (hup_ne (by first | assumption | exact Ne.symm (by assumption) | decide)) ?_)) (by first | rfl | assumption) ?_
  refine V_aload_n rfl (by first | rfl | assumption) ?_
  refine V_getf rfl rfl rfl (by repeat (first | exact hup_eq | assumption | refine Eq.trans (hup_ne (by first | assumption | exact Ne.symm (by assumption) | decide)) ?_)) (by first | rfl | assumption) ?_
  refine V_callV (M' := mX0_square) (mc := 0) (ms := 0) (bc' := 0) (bs' := 0) rfl cw_X0_98 iv_X0_square (by repeat (first | exact hup_eq | assumption | refine Eq.trans (hup_ne (by first | assumption | exact Ne.symm (by assumption) | decide)) ?_)) rfl rfl (Nat.le_of_ble_eq_true rfl) ⟨Nat.le_of_ble_eq_true rfl, Nat.le_of_ble_eq_true rfl⟩ ⟨Nat.le_of_ble_eq_true rfl, Nat.le_of_ble_eq_true rfl⟩ (As := [.ref 8, .ref 8]) (c_square (Q := fun o G' => o = .inl none ∧ ∃ w' z', fA z' ∧ v10 z' % PP = mulP _ _ ∧ G' = hup (hup _ 13 (LA 20 w')) 8 (LA 10 z')) (by first | rfl | exact g1) rfl (by first | rfl | exact g13) (by first | rfl | exact g8) (by first | rfl | exact g8) (by decide) ha_0 (fun w' z' q1 q2 => ⟨rfl, w', z', q1, mulP_of q2 Ra_0 Ra_0, rfl⟩)) (fun o G' h => ?_) (fun E G' h => by cases h.1)
  obtain ⟨h, w6, z6, ha_6, Ra_6, rfl⟩ := h
  cases h
  refine V_aload_n rfl (by first | rfl | assumption) ?_
  refine V_aload_n rfl (by first | rfl | assumption) ?_
  refine V_getf rfl rfl rfl (by repeat (first | exact hup_eq | assumption | refine Eq.trans (hup_ne (by first | assumption | exact Ne.symm (by assumption) | decide)) ?_)) (by first | rfl | assumption) ?_
  refine V_aload_n rfl (by first | rfl | assumption) ?_
  refine V_getf rfl rfl rfl (by repeat (first | exact hup_eq | assumption | refine Eq.trans (hup_ne (by first | assumption | exact Ne.symm (by assumption) | decide)) ?_)) (by first | rfl | assumption) ?_
  refine V_callV (M' := mX0_square) (mc := 0) (ms := 0) (bc' := 0) (bs' := 0) rfl cw_X0_98 iv_X0_square (by repeat (first | exact hup_eq | assumption | refine Eq.trans (hup_ne (by first | assumption | exact Ne.symm (by assumption) | decide)) ?_)) rfl rfl (Nat.le_of_ble_eq_true rfl) ⟨Nat.le_of_ble_eq_true rfl, Nat.le_of_ble_eq_true rfl⟩ ⟨Nat.le_of_ble_eq_true rfl, Nat.le_of_ble_eq_true rfl⟩ (As := [.ref 9, .ref 9]) (c_square (Q := fun o G' => o = .inl none ∧ ∃ w' z', fA z' ∧ v10 z' % PP = mulP _ _ ∧ G' = hup (hup _ 13 (LA 20 w')) 9 (LA 10 z')) (by first | rfl | exact g1) rfl (by first | rfl | exact g13) (by first | rfl | exact g9) (by first | rfl | exact g9) (by decide) hb_1 (fun w' z' q1 q2 => ⟨rfl, w', z', q1, mulP_of q2 Rb_1 Rb_1, rfl⟩)) (fun o G' h => ?_) (fun E G' h => by cases h.1)
  obtain ⟨h, w7, z7, hb_7, Rb_7, rfl⟩ := h
  cases h
  refine V_aload_n rfl (by first | rfl | assumption) ?_
  refine V_getf rfl rfl rfl (by repeat (first | exact hup_eq | assumption | refine Eq.trans (hup_ne (by first | assumption | exact Ne.symm (by assumption) | decide)) ?_)) (by first | rfl | assumption) ?_
  refine V_aload_n rfl (by first | rfl | assumption) ?_
  refine V_getf rfl rfl rfl (by repeat (first | exact hup_eq | assumption | refine Eq.trans (hup_ne (by first | assumption | exact Ne.symm (by assumption) | decide)) ?_)) (by first | rfl | assumption) ?_
  refine V_aload_n rfl (by first | rfl | assumption) ?_
  refine V_getf rfl rfl rfl (by repeat (first | exact hup_eq | assumption | refine Eq.trans (hup_ne (by first | assumption | exact Ne.symm (by assumption) | decide)) ?_)) (by first | rfl | assumption) ?_
  refine V_callS (M' := mX0_sum) (mc := 0) (ms := 0) (bc' := 0) (bs' := 0) rfl cw_X0_92 is_X0_sum rfl (Nat.le_of_ble_eq_true rfl) ⟨Nat.le_of_ble_eq_true rfl, Nat.le_of_ble_eq_true rfl⟩ ⟨Nat.le_of_ble_eq_true rfl, Nat.le_of_ble_eq_true rfl⟩ (As := [.ref 12, .ref 11, .ref 10]) (c_sumV (Q := fun o G' => o = .inl none ∧ ∃ z', fB z' ∧ v10 z' % PP = addP _ _ ∧ G' = hup _ 12 (LA 10 z')) (by first | rfl | exact g12) (by first | rfl | exact g11) (by first | rfl | exact g10) hd_4 hc_5 (fun z' q1 q2 => ⟨rfl, z', q1, addP_of q2 Rd_4 Rc_5, rfl⟩)) (fun o G' h => ?_) (fun E G' h => by cases h.1)
  obtain ⟨h, z8, he_8, Re_8, rfl⟩ := h
  cases h
  refine V_aload_n rfl (by first | rfl | assumption) ?_
  refine V_aload_n rfl (by first | rfl | assumption) ?_
  refine V_aload_n rfl (by first | rfl | assumption) ?_
  refine V_getf rfl rfl rfl (by repeat (first | exact hup_eq | assumption | refine Eq.trans (hup_ne (by first | assumption | exact Ne.symm (by assumption) | decide)) ?_)) (by first | rfl | assumption) ?_
  refine V_callV (M' := mX0_square) (mc := 0) (ms := 0) (bc' := 0) (bs' := 0) rfl cw_X0_98 iv_X0_square (by repeat (first | exact hup_eq | assumption | refine Eq.trans (hup_ne (by first | assumption | exact Ne.symm (by assumption) | decide)) ?_)) rfl rfl (Nat.le_of_ble_eq_true rfl) ⟨Nat.le_of_ble_eq_true rfl, Nat.le_of_ble_eq_true rfl⟩ ⟨Nat.le_of_ble_eq_true rfl, Nat.le_of_ble_eq_true rfl⟩ (As := [.ref 4, .ref 12]) (c_square (Q := fun o G' => o = .inl none ∧ ∃ w' z', fA z' ∧ v10 z' % PP = mulP _ _ ∧ G' = hup (hup _ 13 (LA 20 w')) 4 (LA 10 z')) (by first | rfl | exact g1) rfl (by first | rfl | exact g13) (by first | rfl | exact g4) (by first | rfl | exact g12) (by decide) he_8 (fun w' z' q1 q2 => ⟨rfl, w', z', q1, mulP_of q2 Re_8 Re_8, rfl⟩)) (fun o G' h => ?_) (fun E G' h => by cases h.1)
  obtain ⟨h, w9, z9, haX_9, RaX_9, rfl⟩ := h
  cases h
  refine V_aload_n rfl (by first | rfl | assumption) ?_
  refine V_getf rfl rfl rfl (by repeat (first | exact hup_eq | assumption | refine Eq.trans (hup_ne (by first | assumption | exact Ne.symm (by assumption) | decide)) ?_)) (by first | rfl | assumption) ?_
  refine V_aload_n rfl (by first | rfl | assumption) ?_
  refine V_getf rfl rfl rfl (by repeat (first | exact hup_eq | assumption | refine Eq.trans (hup_ne (by first | assumption | exact Ne.symm (by assumption) | decide)) ?_)) (by first | rfl | assumption) ?_
  refine V_aload_n rfl (by first | rfl | assumption) ?_
  refine V_getf rfl rfl rfl (by repeat (first | exact hup_eq | assumption | refine Eq.trans (hup_ne (by first | assumption | exact Ne.symm (by assumption) | decide)) ?_)) (by first | rfl | assumption) ?_
  refine V_callS (M' := mX0_difference) (mc := 0) (ms := 0) (bc' := 0) (bs' := 0) rfl cw_X0_95 is_X0_difference rfl (Nat.le_of_ble_eq_true rfl) ⟨Nat.le_of_ble_eq_true rfl, Nat.le_of_ble_eq_true rfl⟩ ⟨Nat.le_of_ble_eq_true rfl, Nat.le_of_ble_eq_true rfl⟩ (As := [.ref 12, .ref 11, .ref 10]) (c_diffV (Q := fun o G' => o = .inl none ∧ ∃ z', fB z' ∧ v10 z' % PP = subP _ _ ∧ G' = hup _ 12 (LA 10 z')) (by first | rfl | exact g12) (by first | rfl | exact g11) (by first | rfl | exact g10) hd_4 hc_5 (fun z' q1 q2 => ⟨rfl, z', q1, subP_of q2 Rd_4 Rc_5, rfl⟩)) (fun o G' h => ?_) (fun E G' h => by cases h.1)
  obtain ⟨h, z10, he_10, Re_10, rfl⟩ := h
  cases h
  refine V_aload_n rfl (by first | rfl | assumption) ?_
  refine V_aload_n rfl (by first | rfl | assumption) ?_
  refine V_getf rfl rfl rfl (by repeat (first | exact hup_eq | assumption | refine Eq.trans (hup_ne (by first | assumption | exact Ne.symm (by assumption) | decide)) ?_)) (by first | rfl | assumption) ?_
  refine V_aload_n rfl (by first | rfl | assumption) ?_
  refine V_getf rfl rfl rfl (by repeat (first | exact hup_eq | assumption | refine Eq.trans (hup_ne (by first | assumption | exact Ne.symm (by assumption) | decide)) ?_)) (by first | rfl | assumption) ?_
  refine V_callV (M' := mX0_square) (mc := 0) (ms := 0) (bc' := 0) (bs' := 0) rfl cw_X0_98 iv_X0_square (by repeat (first | exact hup_eq | assumption | refine Eq.trans (hup_ne (by first | assumption | exact Ne.symm (by assumption) | decide)) ?_)) rfl rfl (Nat.le_of_ble_eq_true rfl) ⟨Nat.le_of_ble_eq_true rfl, Nat.le_of_ble_eq_true rfl⟩ ⟨Nat.le_of_ble_eq_true rfl, Nat.le_of_ble_eq_true rfl⟩ (As := [.ref 12, .ref 12]) (c_square (Q := fun o G' => o = .inl none ∧ ∃ w' z', fA z' ∧ v10 z' % PP = mulP _ _ ∧ G' = hup (hup _ 13 (LA 20 w')) 12 (LA 10 z')) (by first | rfl | exact g1) rfl (by first | rfl | exact g13) (by first | rfl | exact g12) (by first | rfl | exact g12) (by decide) he_10 (fun w' z' q1 q2 => ⟨rfl, w', z', q1, mulP_of q2 Re_10 Re_10, rfl⟩)) (fun o G' h => ?_) (fun E G' h => by cases h.1)
  obtain ⟨h, w11, z11, he_11, Re_11, rfl⟩ := h
  cases h
  refine V_aload_n rfl (by first | rfl | assumption) ?_
  refine V_aload rfl (by first | rfl | assumption) ?_
  refine V_aload_n rfl (by first | rfl | assumption) ?_
  refine V_getf rfl rfl rfl (by repeat (first | exact hup_eq | assumption | refine Eq.trans (hup_ne (by first | assumption | exact Ne.symm (by assumption) | decide)) ?_)) (by first | rfl | assumption) ?_
  refine V_aload_n rfl (by first | rfl | assumption) ?_
  refine V_getf rfl rfl rfl (by repeat (first | exact hup_eq | assumption | refine Eq.trans (hup_ne (by first | assumption | exact Ne.symm (by assumption) | decide)) ?_)) (by first | rfl | assumption) ?_
  refine V_callV (M' := mX0_product) (mc := 0) (ms := 0) (bc' := 0) (bs' := 0) rfl cw_X0_75 iv_X0_product (by repeat (first | exact hup_eq | assumption | refine Eq.trans (hup_ne (by first | assumption | exact Ne.symm (by assumption) | decide)) ?_)) rfl rfl (Nat.le_of_ble_eq_true rfl) ⟨Nat.le_of_ble_eq_true rfl, Nat.le_of_ble_eq_true rfl⟩ ⟨Nat.le_of_ble_eq_true rfl, Nat.le_of_ble_eq_true rfl⟩ (As := [.ref 5, .ref 3, .ref 12]) (c_product (Q := fun o G' => o = .inl none ∧ ∃ w' z', fA z' ∧ v10 z' % PP = mulP _ _ ∧ G' = hup (hup _ 13 (LA 20 w')) 5 (LA 10 z')) (by first | rfl | exact g1) rfl (by first | rfl | exact g13) (by first | rfl | exact g5) (by first | rfl | exact g3) (by first | rfl | exact g12) (by decide) hu.B he_11.B (fun w' z' q1 q2 => ⟨rfl, w', z', q1, mulP_of q2 Ru Re_11, rfl⟩)) (fun o G' h => ?_) (fun E G' h => by cases h.1)
  obtain ⟨h, w12, z12, haZ_12, RaZ_12, rfl⟩ := h
  cases h
  refine V_aload_n rfl (by first | rfl | assumption) ?_
  refine V_aload_n rfl (by first | rfl | assumption) ?_
  refine V_aload_n rfl (by first | rfl | assumption) ?_
  refine V_getf rfl rfl rfl (by repeat (first | exact hup_eq | assumption | refine Eq.trans (hup_ne (by first | assumption | exact Ne.symm (by assumption) | decide)) ?_)) (by first | rfl | assumption) ?_
  refine V_aload_n rfl (by first | rfl | assumption) ?_
  refine V_getf rfl rfl rfl (by repeat (first | exact hup_eq | assumption | refine Eq.trans (hup_ne (by first | assumption | exact Ne.symm (by assumption) | decide)) ?_)) (by first | rfl | assumption) ?_
  refine V_callV (M' := mX0_product) (mc := 0) (ms := 0) (bc' := 0) (bs' := 0) rfl cw_X0_75 iv_X0_product (by repeat (first | exact hup_eq | assumption | refine Eq.trans (hup_ne (by first | assumption | exact Ne.symm (by assumption) | decide)) ?_)) rfl rfl (Nat.le_of_ble_eq_true rfl) ⟨Nat.le_of_ble_eq_true rfl, Nat.le_of_ble_eq_true rfl⟩ ⟨Nat.le_of_ble_eq_true rfl, Nat.le_of_ble_eq_true rfl⟩ (As := [.ref 6, .ref 8, .ref 9]) (c_product (Q := fun o G' => o = .inl none ∧ ∃ w' z', fA z' ∧ v10 z' % PP = mulP _ _ ∧ G' = hup (hup _ 13 (LA 20 w')) 6 (LA 10 z')) (by first | rfl | exact g1) rfl (by first | rfl | exact g13) (by first | rfl | exact g6) (by first | rfl | exact g8) (by first | rfl | exact g9) (by decide) ha_6.B hb_7.B (fun w' z' q1 q2 => ⟨rfl, w', z', q1, mulP_of q2 Ra_6 Rb_7, rfl⟩)) (fun o G' h => ?_) (fun E G' h => by cases h.1)
  obtain ⟨h, w13, z13, hdX_13, RdX_13, rfl⟩ := h
  cases h
  refine V_aload_n rfl (by first | rfl | assumption) ?_
  refine V_getf rfl rfl rfl (by repeat (first | exact hup_eq | assumption | refine Eq.trans (hup_ne (by first | assumption | exact Ne.symm (by assumption) | decide)) ?_)) (by first | rfl | assumption) ?_
  refine V_aload_n rfl (by first | rfl | assumption) ?_
  refine V_getf rfl rfl rfl (by repeat (first | exact hup_eq | assumption | refine Eq.trans (hup_ne (by first | assumption | exact Ne.symm (by assumption) | decide)) ?_)) (by first | rfl | assumption) ?_
  refine V_aload_n rfl (by first | rfl | assumption) ?_
  refine V_getf rfl rfl rfl (by repeat (first | exact hup_eq | assumption | refine Eq.trans (hup_ne (by first | assumption | exact Ne.symm (by assumption) | decide)) ?_)) (by first | rfl | assumption) ?_
  refine V_callS (M' := mX0_difference) (mc := 0) (ms := 0) (bc' := 0) (bs' := 0) rfl cw_X0_95 is_X0_difference rfl (Nat.le_of_ble_eq_true rfl) ⟨Nat.le_of_ble_eq_true rfl, Nat.le_of_ble_eq_true rfl⟩ ⟨Nat.le_of_ble_eq_true rfl, Nat.le_of_ble_eq_true rfl⟩ (As := [.ref 12, .ref 8, .ref 9]) (c_diffV (Q := fun o G' => o = .inl none ∧ ∃ z', fB z' ∧ v10 z' % PP = subP _ _ ∧ G' = hup _ 12 (LA 10 z')) (by first | rfl | exact g12) (by first | rfl | exact g8) (by first | rfl | exact g9) ha_6 hb_7 (fun z' q1 q2 => ⟨rfl, z', q1, subP_of q2 Ra_6 Rb_7, rfl⟩)) (fun o G' h => ?_) (fun E G' h => by cases h.1)
  obtain ⟨h, z14, he_14, Re_14, rfl⟩ := h
  cases h
  refine V_aload_n rfl (by first | rfl | assumption) ?_
  refine V_aload_n rfl (by first | rfl | assumption) ?_
  refine V_getf rfl rfl rfl (by repeat (first | exact hup_eq | assumption | refine Eq.trans (hup_ne (by first | assumption | exact Ne.symm (by assumption) | decide)) ?_)) (by first | rfl | assumption) ?_
  refine V_aload_n rfl (by first | rfl | assumption) ?_
  refine V_getf rfl rfl rfl (by repeat (first | exact hup_eq | assumption | refine Eq.trans (hup_ne (by first | assumption | exact Ne.symm (by assumption) | decide)) ?_)) (by first | rfl | assumption) ?_
  refine V_callV (M' := mX0_scale) (mc := 0) (ms := 0) (bc' := 0) (bs' := 0) rfl cw_X0_101 iv_X0_scale (by repeat (first | exact hup_eq | assumption | refine Eq.trans (hup_ne (by first | assumption | exact Ne.symm (by assumption) | decide)) ?_)) rfl rfl (Nat.le_of_ble_eq_true rfl) ⟨Nat.le_of_ble_eq_true rfl, Nat.le_of_ble_eq_true rfl⟩ ⟨Nat.le_of_ble_eq_true rfl, Nat.le_of_ble_eq_true rfl⟩ (As := [.ref 9, .ref 12]) (c_scale (Q := fun o G' => o = .inl none ∧ ∃ w' z', fA z' ∧ v10 z' % PP = mulP 121665 _ ∧ G' = hup (hup _ 13 (LA 20 w')) 9 (LA 10 z')) (by first | rfl | exact g1) rfl (by first | rfl | exact g13) (by first | rfl | exact g9) (by first | rfl | exact g12) (by decide) (by decide) he_14 (fun w' z' q1 q2 => ⟨rfl, w', z', q1, mulP_of q2 rfl Re_14, rfl⟩)) (fun o G' h => ?_) (fun E G' h => by cases h.1)
  obtain ⟨h, w15, z15, hb_15, Rb_15, rfl⟩ := h
  cases h
  refine V_aload_n rfl (by first | rfl | assumption) ?_
  refine V_getf rfl rfl rfl (by repeat (first | exact hup_eq | assumption | refine Eq.trans (hup_ne (by first | assumption | exact Ne.symm (by assumption) | decide)) ?_)) (by first | rfl | assumption) ?_
  refine V_aload_n rfl (by first | rfl | assumption) ?_
  refine V_getf rfl rfl rfl (by repeat (first | exact hup_eq | assumption | refine Eq.trans (hup_ne (by first | assumption | exact Ne.symm (by assumption) | decide)) ?_)) (by first | rfl | assumption) ?_
  refine V_aload_n rfl (by first | rfl | assumption) ?_
  refine V_getf rfl rfl rfl (by repeat (first | exact hup_eq | assumption | refine Eq.trans (hup_ne (by first | assumption | exact Ne.symm (by assumption) | decide)) ?_)) (by first | rfl | assumption) ?_
  refine V_callS (M' := mX0_sum) (mc := 0) (ms := 0) (bc' := 0) (bs' := 0) rfl cw_X0_92 is_X0_sum rfl (Nat.le_of_ble_eq_true rfl) ⟨Nat.le_of_ble_eq_true rfl, Nat.le_of_ble_eq_true rfl⟩ ⟨Nat.le_of_ble_eq_true rfl, Nat.le_of_ble_eq_true rfl⟩ (As := [.ref 9, .ref 8, .ref 9]) (c_sumV (Q := fun o G' => o = .inl none ∧ ∃ z', fB z' ∧ v10 z' % PP = addP _ _ ∧ G' = hup _ 9 (LA 10 z')) (by first | rfl | exact g9) (by first | rfl | exact g8) (by first | rfl | exact g9) ha_6 hb_15 (fun z' q1 q2 => ⟨rfl, z', q1, addP_of q2 Ra_6 Rb_15, rfl⟩)) (fun o G' h => ?_) (fun E G' h => by cases h.1)
  obtain ⟨h, z16, hb_16, Rb_16, rfl⟩ := h
  cases h
  refine V_aload_n rfl (by first | rfl | assumption) ?_
  refine V_aload_n rfl (by first | rfl | assumption) ?_
  refine V_aload_n rfl (by first | rfl | assumption) ?_
  refine V_getf rfl rfl rfl (by repeat (first | exact hup_eq | assumption | refine Eq.trans (hup_ne (by first | assumption | exact Ne.symm (by assumption) | decide)) ?_)) (by first | rfl | assumption) ?_
  refine V_aload_n rfl (by first | rfl | assumption) ?_
  refine V_getf rfl rfl rfl (by repeat (first | exact hup_eq | assumption | refine Eq.trans (hup_ne (by first | assumption | exact Ne.symm (by assumption) | decide)) ?_)) (by first | rfl | assumption) ?_
  refine V_callV (M' := mX0_product) (mc := 0) (ms := 0) (bc' := 0) (bs' := 0) rfl cw_X0_75 iv_X0_product (by repeat (first | exact hup_eq | assumption | refine Eq.trans (hup_ne (by first | assumption | exact Ne.symm (by assumption) | decide)) ?_)) rfl rfl (Nat.le_of_ble_eq_true rfl) ⟨Nat.le_of_ble_eq_true rfl, Nat.le_of_ble_eq_true rfl⟩ ⟨Nat.le_of_ble_eq_true rfl, Nat.le_of_ble_eq_true rfl⟩ (As := [.ref 7, .ref 12, .ref 9]) (c_product (Q := fun o G' => o = .inl none ∧ ∃ w' z', fA z' ∧ v10 z' % PP = mulP _ _ ∧ G' = hup (hup _ 13 (LA 20 w')) 7 (LA 10 z')) (by first | rfl | exact g1) rfl (by first | rfl | exact g13) (by first | rfl | exact g7) (by first | rfl | exact g12) (by first | rfl | exact g9) (by decide) he_14 hb_16 (fun w' z' q1 q2 => ⟨rfl, w', z', q1, mulP_of q2 Re_14 Rb_16, rfl⟩)) (fun o G' h => ?_) (fun E G' h => by cases h.1)
  obtain ⟨h, w17, z17, hdZ_17, RdZ_17, rfl⟩ := h
  cases h
  refine V_vret rfl rfl (hq _ ⟨rfl, fun j hj => ?_⟩ ⟨_, rfl, hdX_13, RdX_13⟩ ⟨_, rfl, hdZ_17, RdZ_17⟩ ⟨_, rfl, haX_9, RaX_9⟩ ⟨_, rfl, haZ_12, RaZ_12⟩ ⟨_, rfl⟩ ⟨_, rfl⟩ ⟨_, rfl⟩ ⟨_, rfl⟩ ⟨_, rfl⟩ ⟨_, rfl⟩)
  simp only [hup]
  simp only [List.mem_cons, not_or] at hj
  simp [hj]
end CStep
