section CTimes
variable {K : kK} {G : kG} {Q : kO → kG → Prop}
/-! MULTIPLY, modulo P -/
def facf (k : Nat → Nat) (j : Nat) : Nat := if j = 0 then k 0 &&& 248 else if j = 31 then (k 31 &&& 127) ||| 64 else k j
def bitf (fac : Nat → Nat) (t : Nat) : Nat := fac (t / 8) / 2 ^ (t % 8) % 2
def uval (u : Nat → Nat) : Nat := vs 256 u 32 % 2 ^ 255
def lad (u : Nat) (fac : Nat → Nat) : Nat → Nat × Nat × Nat × Nat
  | 0 => (1, 0, u, 1)
  | n + 1 =>
    if bitf fac (254 - n) = 1 then
      (stX3 (lad u fac n).2.2.1 (lad u fac n).2.2.2 (lad u fac n).1 (lad u fac n).2.1, stZ3 u (lad u fac n).2.2.1 (lad u fac n).2.2.2 (lad u fac n).1 (lad u fac n).2.1, stX2 (lad u fac n).2.2.1 (lad u fac n).2.2.2, stZ2 (lad u fac n).2.2.1 (lad u fac n).2.2.2)
    else
      (stX2 (lad u fac n).1 (lad u fac n).2.1, stZ2 (lad u fac n).1 (lad u fac n).2.1, stX3 (lad u fac n).1 (lad u fac n).2.1 (lad u fac n).2.2.1 (lad u fac n).2.2.2, stZ3 u (lad u fac n).1 (lad u fac n).2.1 (lad u fac n).2.2.1 (lad u fac n).2.2.2)
theorem lad_s (u : Nat) (fac : Nat → Nat) (n : Nat) : lad u fac (n + 1) = if bitf fac (254 - n) = 1 then
      (stX3 (lad u fac n).2.2.1 (lad u fac n).2.2.2 (lad u fac n).1 (lad u fac n).2.1, stZ3 u (lad u fac n).2.2.1 (lad u fac n).2.2.2 (lad u fac n).1 (lad u fac n).2.1, stX2 (lad u fac n).2.2.1 (lad u fac n).2.2.2, stZ2 (lad u fac n).2.2.1 (lad u fac n).2.2.2)
    else
      (stX2 (lad u fac n).1 (lad u fac n).2.1, stZ2 (lad u fac n).1 (lad u fac n).2.1, stX3 (lad u fac n).1 (lad u fac n).2.1 (lad u fac n).2.2.1 (lad u fac n).2.2.2, stZ3 u (lad u fac n).1 (lad u fac n).2.1 (lad u fac n).2.2.1 (lad u fac n).2.2.2) := rfl
/-- the product of a factor's bytes and a point's bytes: a number below P -/
def MULT (k u : Nat → Nat) : Nat := mulP (lad (uval u % PP) (facf k) 255).1 (ivP (lad (uval u % PP) (facf k) 255).2.1 254)
theorem MULT_lt (k u : Nat → Nat) : MULT k u < PP := Nat.mod_lt _ (by decide)
/-- the rows of the curve's object -/
def crv (G : kG) : Prop := G.1 1 = some (.inr (0, [.ref 2, .ref 3, .ref 4, .ref 5, .ref 6, .ref 7, .ref 8, .ref 9, .ref 10, .ref 11, .ref 12, .ref 13])) ∧ (∃ f, G.1 2 = some (BA 32 f)) ∧ (∀ r, r ∈ [3, 4, 5, 6, 7, 8, 9, 10, 11, 12] → ∃ z, G.1 r = some (LA 10 z)) ∧ ∃ w, G.1 13 = some (LA 20 w)
theorem ivP_mod (z : Nat) : ∀ n, ivP (z % PP) n = ivP z n
  | 0 => by simp [ivP]
  | n + 1 => by
    simp only [ivP]
    rw [ivP_mod z n]
    split
    · rfl
    · unfold mulP
      rw [Nat.mul_mod _ (z % PP), Nat.mod_mod, ← Nat.mul_mod]
theorem dig_uniq {B V : Nat} (hB : 0 < B) {o : Nat → Nat} : ∀ {n : Nat}, (∀ j, j < n → o j < B) → vs B o n = V → ∀ j, j < n → o j = V / B ^ j % B := by
  intro n
  induction n generalizing V with
  | zero => intro _ _ j hj; omega
  | succ n ih =>
    intro ho hv j hj
    have h1 : vs B o n < B ^ n := vs_lt hB (fun j hj => ho j (by omega))
    simp only [vs] at hv
    by_cases hjn : j = n
    · subst hjn
      rw [← hv, Nat.add_mul_div_right _ _ (Nat.pow_pos hB), Nat.div_eq_of_lt h1, Nat.zero_add, Nat.mod_eq_of_lt (ho j (by omega))]
    · have h2 := ih (V := vs B o n) (fun j hj => ho j (by omega)) rfl j (by omega)
      rw [h2, ← hv]
      obtain ⟨e, he⟩ : ∃ e, n = j + (e + 1) := ⟨n - j - 1, by omega⟩
      have hp : o n * B ^ n = o n * B ^ e * B * B ^ j := by
        rw [he, Nat.pow_add, Nat.pow_succ, ← Nat.mul_assoc (o _), Nat.mul_right_comm, ← Nat.mul_assoc]
      rw [hp, Nat.add_mul_div_right _ _ (Nat.pow_pos hB), Nat.add_mul_mod_self_right]
theorem land248 (a : Nat) : nI a &&& 248 = nI (a &&& 248) := by
  apply Int32.toBitVec_inj.mp
  show BitVec.ofNat 32 a &&& BitVec.ofNat 32 248 = BitVec.ofNat 32 (a &&& 248)
  apply BitVec.eq_of_toNat_eq
  simp [BitVec.toNat_and, BitVec.toNat_ofNat, Nat.and_mod_two_pow]
theorem land127 (a : Nat) : nI a &&& 127 = nI (a &&& 127) := by
  apply Int32.toBitVec_inj.mp
  show BitVec.ofNat 32 a &&& BitVec.ofNat 32 127 = BitVec.ofNat 32 (a &&& 127)
  apply BitVec.eq_of_toNat_eq
  simp [BitVec.toNat_and, BitVec.toNat_ofNat, Nat.and_mod_two_pow]
theorem lor64 (a : Nat) : nI a ||| 64 = nI (a ||| 64) := by
  apply Int32.toBitVec_inj.mp
  show BitVec.ofNat 32 a ||| BitVec.ofNat 32 64 = BitVec.ofNat 32 (a ||| 64)
  apply BitVec.eq_of_toNat_eq
  simp [BitVec.toNat_or, BitVec.toNat_ofNat, Nat.or_mod_two_pow]
theorem bitI {F t : Nat} (hF : F < 256) (ht : t < 256) : (nI F >>> ((nI t &&& 7) &&& 31)) &&& 1 = nI (F / 2 ^ (t % 8) % 2) := by
  have e1 : nI t &&& 7 = nI (t % 2 ^ 3) := pk_andN (by omega) 3 (by decide)
  have h8 : t % 2 ^ 3 < 8 := Nat.mod_lt _ (by decide)
  have e2 : ∀ m, m < 8 → ((nI m &&& 31).toBitVec.smod 32).toNat = m := by decide
  rw [e1, pk_shrN (by omega) _ (t % 2 ^ 3) (e2 _ h8), pk_andN (Nat.lt_of_le_of_lt (Nat.div_le_self _ _) (by omega)) 1 (by decide)]
theorem facf_lt {k : Nat → Nat} (h : ∀ j, j < 32 → k j < 256) : ∀ j, j < 32 → facf k j < 256 := by
  intro j hj
  unfold facf
  split
  · exact Nat.lt_of_le_of_lt Nat.and_le_left (h 0 (by decide))
  · split
    · exact Nat.or_lt_two_pow (n := 8) (Nat.lt_of_le_of_lt Nat.and_le_left (h 31 (by decide))) (by decide)
    · exact h j hj
set_option maxHeartbeats 40000000 in
set_option maxRecDepth 20000 in
theorem c_times {k0 k1 res Nr s a0 N : Nat} {k b o : Nat → Nat} (hcr : crv G) (hk : G.1 k0 = some (BA k1 k)) (hk1 : 32 ≤ k1 ∧ k1 < 2 ^ 20) (hk0 : 13 < k0) (hkb : ∀ j, j < 32 → k j < 256) (ha : G.1 a0 = some (BA N b)) (hs : s + 32 ≤ N) (hN : N < 2 ^ 20) (hb : ∀ j, j < 32 → b (s + j) < 256) (ha0 : 13 < a0) (hr : G.1 res = some (BA Nr o)) (hr0 : 13 < res) (hNr : 32 ≤ Nr ∧ Nr < 2 ^ 20)
    (hq : ∀ G', FR [2, 3, 4, 5, 6, 7, 8, 9, 10, 11, 12, 13, res] G G' → crv G' → G'.1 res = some (BA Nr (fun j => if j < 32 then MULT k (fun j => b (s + j)) / 256 ^ j % 256 else o j)) → Q (.inl none) G') : C K 0 0 mX0_times [.ref 1, .ref k0, .ref a0, .int (nI s), .ref res] G Q := by
  obtain ⟨g1, ⟨f2, g2⟩, hrows, ⟨w13, g13⟩⟩ := id hcr
  obtain ⟨y3, g3⟩ := hrows 3 (by decide)
  obtain ⟨y4, g4⟩ := hrows 4 (by decide)
  obtain ⟨y5, g5⟩ := hrows 5 (by decide)
  obtain ⟨y6, g6⟩ := hrows 6 (by decide)
  obtain ⟨y7, g7⟩ := hrows 7 (by decide)
  obtain ⟨y8, g8⟩ := hrows 8 (by decide)
  obtain ⟨y9, g9⟩ := hrows 9 (by decide)
  obtain ⟨y10, g10⟩ := hrows 10 (by decide)
  obtain ⟨y11, g11⟩ := hrows 11 (by decide)
  obtain ⟨y12, g12⟩ := hrows 12 (by decide)
  refine C_of okX0_times (Nat.le_of_ble_eq_true rfl) ?_
  refine V_aload_n rfl (by first | rfl | assumption) ?_
  refine V_iconst (v := 0) rfl (by decide) ?_
  refine V_aload_n rfl (by first | rfl | assumption) ?_
  refine V_getf rfl rfl rfl (by repeat (first | exact hup_eq | assumption | refine Eq.trans (hup_ne (by first | assumption | exact Ne.symm (by assumption) | decide)) ?_)) (by first | rfl | assumption) ?_
  refine V_iconst (v := 0) rfl (by decide) ?_
  refine V_bipush (v := 32) rfl (by decide) ?_
  refine V_copyi (st := []) rfl ⟨kk_X0_49, k_ac⟩ hk g2 (by decide) (by decide) (by decide) (by show 0 + 32 ≤ k1; omega) (by decide) (by decide) (by decide) ?_
  rw [show (0 : Int32).toNatClampNeg = 0 by decide, show (32 : Int32).toNatClampNeg = 32 by decide, cpyB]
  refine V_aload_n rfl (by first | rfl | assumption) ?_
  refine V_getf rfl rfl rfl (by repeat (first | exact hup_eq | assumption | refine Eq.trans (hup_ne (by first | assumption | exact Ne.symm (by assumption) | decide)) ?_)) (by first | rfl | assumption) ?_
  refine V_iconst (v := 0) rfl (by decide) ?_
  refine V_dup2 rfl rfl rfl ?_
  refine V_ialdN (j := 0) rfl hup_eq rfl (by decide) (by decide) ?_
  refine V_sipush (v := 248) rfl (by decide) ?_
  refine V_iand rfl ?_
  rw [land248]
  refine V_iastN (j := 0) rfl hup_eq rfl (by decide) (by decide) ?_
  rw [hup_hup]
  refine V_aload_n rfl (by first | rfl | assumption) ?_
  refine V_getf rfl rfl rfl (by repeat (first | exact hup_eq | assumption | refine Eq.trans (hup_ne (by first | assumption | exact Ne.symm (by assumption) | decide)) ?_)) (by first | rfl | assumption) ?_
  refine V_bipush (v := 31) rfl (by decide) ?_
  refine V_aload_n rfl (by first | rfl | assumption) ?_
  refine V_getf rfl rfl rfl (by repeat (first | exact hup_eq | assumption | refine Eq.trans (hup_ne (by first | assumption | exact Ne.symm (by assumption) | decide)) ?_)) (by first | rfl | assumption) ?_
  refine V_bipush (v := 31) rfl (by decide) ?_
  refine V_ialdN (j := 31) rfl hup_eq rfl (by decide) (by decide) ?_
  refine V_bipush (v := 127) rfl (by decide) ?_
  refine V_iand rfl ?_
  rw [land127]
  refine V_bipush (v := 64) rfl (by decide) ?_
  refine V_ior rfl ?_
  rw [lor64]
  refine V_iastN (j := 31) rfl hup_eq rfl (by decide) (by decide) ?_
  rw [hup_hup]
  generalize hfac : updN _ 31 _ = fac
  have hfc : ∀ j, j < 32 → fac j = facf k j := by
    intro j hj
    rw [← hfac]
    unfold facf
    by_cases h31 : j = 31
    · subst h31
      simp [updN]
    · by_cases h0 : j = 0
      · subst h0
        simp [updN]
      · simp [updN, h31, h0, hj]
  have hfl : ∀ j, j < 32 → fac j < 256 := fun j hj => by rw [hfc j hj]; exact facf_lt hkb j hj
  clear hfac
  refine V_aload_n rfl (by first | rfl | assumption) ?_
  refine V_iload_n rfl (by first | rfl | assumption) ?_
  refine V_bipush (v := 32) rfl (by decide) ?_
  refine V_aload_n rfl (by first | rfl | assumption) ?_
  refine V_getf rfl rfl rfl (by repeat (first | exact hup_eq | assumption | refine Eq.trans (hup_ne (by first | assumption | exact Ne.symm (by assumption) | decide)) ?_)) (by first | rfl | assumption) ?_
  refine V_callS (M' := mX5_read) (mc := 0) (ms := 0) (bc' := 0) (bs' := 0) rfl cw_X0_55 is_X5_read rfl (Nat.le_of_ble_eq_true rfl) ⟨Nat.le_of_ble_eq_true rfl, Nat.le_of_ble_eq_true rfl⟩ ⟨Nat.le_of_ble_eq_true rfl, Nat.le_of_ble_eq_true rfl⟩ (As := [.ref a0, .int (nI s), .int (nI 32), .ref 3]) (c_read (b := b) (Q := fun o G' => o = .inl none ∧ G' = hup _ 3 (LA 10 (rdF (fun j => b (s + j)) 10 y3 32))) (by first | exact ha | exact (hup_ne (by omega)).trans ha) (by exact g3) hs hN (by decide) hb (by decide) ⟨rfl, rfl⟩) (fun o G' h => ?_) (fun E G' h => by cases h.1)
  obtain ⟨h, rfl⟩ := h
  cases h
  generalize hU : rdF (fun j => b (s + j)) 10 y3 32 = U
  have hUv : vs (2 ^ 26) U 10 = vs 256 (fun j => b (s + j)) 32 ∧ (∀ j, j < 9 → U j < 2 ^ 26) ∧ U 9 < 2 ^ 22 := by
    obtain ⟨q1, q2, q3, q4, q5, q6, q7⟩ := rdS_ok (g := y3) (b := fun j => b (s + j)) (L := 10) (c := 32) hb (by decide) 32 (Nat.le_refl _)
    unfold rdF at hU
    have hl9 : (rdS (fun j => b (s + j)) 10 y3 32).2.2.1 = 9 := by omega
    have ht22 : (rdS (fun j => b (s + j)) 10 y3 32).2.1 = 22 := by omega
    rw [hl9] at hU q5 q6
    rw [ht22] at q1
    rw [if_pos (by decide)] at hU
    refine ⟨?_, fun j hj => ?_, ?_⟩
    · rw [← q5, ← hU]
      show vs (2 ^ 26) (updN _ 9 _) 9 + updN _ 9 _ 9 * _ = _
      rw [updN_eq, vs_congr (w' := (rdS (fun j => b (s + j)) 10 y3 32).2.2.2) (fun j hj => updN_ne (by omega))]
    · rw [← hU, updN_ne (by omega)]
      exact q6 j hj
    · rw [← hU, updN_eq]
      exact q1
  clear hU
  refine V_aload_n rfl (by first | rfl | assumption) ?_
  refine V_getf rfl rfl rfl (by repeat (first | exact hup_eq | assumption | refine Eq.trans (hup_ne (by first | assumption | exact Ne.symm (by assumption) | decide)) ?_)) (by first | rfl | assumption) ?_
  refine V_bipush (v := 9) rfl (by decide) ?_
  refine V_dup2 rfl rfl rfl ?_
  refine V_laldN (j := 9) rfl hup_eq rfl (by decide) (by decide) ?_
  refine V_ldc2 (v := lN 2097151) rfl kc_X0_61 ?_
  refine V_landN 21 rfl (by decide) (by decide) (by have := hUv.2.2; omega) ?_
  refine V_lastN (j := 9) rfl hup_eq rfl (by decide) (by decide) ?_
  rw [hup_hup]
  generalize hU2 : updN U 9 (U 9 % 2 ^ 21) = U2
  have hu2 : fA U2 ∧ v10 U2 = uval (fun j => b (s + j)) := by
    refine ⟨⟨fun j hj => ?_, ?_⟩, ?_⟩
    · rw [← hU2, updN_ne (by omega)]
      have := hUv.2.1 j hj
      omega
    · rw [← hU2, updN_eq]; exact Nat.mod_lt _ (by decide)
    · unfold uval
      rw [← hUv.1]
      have e1 : v10 U2 = vs (2 ^ 26) U 9 + U 9 % 2 ^ 21 * (2 ^ 26) ^ 9 := by
        show vs (2 ^ 26) U2 9 + U2 9 * _ = _
        rw [← hU2, updN_eq, vs_congr (w' := U) (fun j hj => updN_ne (by omega))]
      have e2 : vs (2 ^ 26) U 10 = vs (2 ^ 26) U 9 + U 9 * (2 ^ 26) ^ 9 := rfl
      have hlt : vs (2 ^ 26) U 9 < (2 ^ 26) ^ 9 := vs_lt (by decide) hUv.2.1
      rw [e1, e2]
      generalize vs (2 ^ 26) U 9 = A at *
      generalize U 9 = u9 at *
      rw [show ((2 : Nat) ^ 26) ^ 9 = 2 ^ 234 by decide] at *
      omega
  clear hU2
  refine V_aload_n rfl (by first | rfl | assumption) ?_
  refine V_getf rfl rfl rfl (by repeat (first | exact hup_eq | assumption | refine Eq.trans (hup_ne (by first | assumption | exact Ne.symm (by assumption) | decide)) ?_)) (by first | rfl | assumption) ?_
  refine V_lconst (v := lN 1) rfl (by decide) ?_
  refine V_callS (M' := mX0_setSmall) (mc := 0) (ms := 0) (bc' := 0) (bs' := 0) rfl cw_X0_63 is_X0_setSmall rfl (Nat.le_of_ble_eq_true rfl) ⟨Nat.le_of_ble_eq_true rfl, Nat.le_of_ble_eq_true rfl⟩ ⟨Nat.le_of_ble_eq_true rfl, Nat.le_of_ble_eq_true rfl⟩ (As := [.ref 4, .long (lN 1)]) (c_setSmall (v := 1) (Q := fun o G' => o = .inl none ∧ ∃ z', (∀ j, j < 10 → z' j = if j = 0 then 1 else 0) ∧ G' = hup _ 4 (LA 10 z')) (by exact g4) (fun z' h => ⟨rfl, z', h, rfl⟩)) (fun o G' h => ?_) (fun E G' h => by cases h.1)
  obtain ⟨h, X2, hX2, rfl⟩ := h
  cases h
  refine V_aload_n rfl (by first | rfl | assumption) ?_
  refine V_getf rfl rfl rfl (by repeat (first | exact hup_eq | assumption | refine Eq.trans (hup_ne (by first | assumption | exact Ne.symm (by assumption) | decide)) ?_)) (by first | rfl | assumption) ?_
  refine V_lconst (v := lN 0) rfl (by decide) ?_
  refine V_callS (M' := mX0_setSmall) (mc := 0) (ms := 0) (bc' := 0) (bs' := 0) rfl cw_X0_63 is_X0_setSmall rfl (Nat.le_of_ble_eq_true rfl) ⟨Nat.le_of_ble_eq_true rfl, Nat.le_of_ble_eq_true rfl⟩ ⟨Nat.le_of_ble_eq_true rfl, Nat.le_of_ble_eq_true rfl⟩ (As := [.ref 5, .long (lN 0)]) (c_setSmall (v := 0) (Q := fun o G' => o = .inl none ∧ ∃ z', (∀ j, j < 10 → z' j = if j = 0 then 0 else 0) ∧ G' = hup _ 5 (LA 10 z')) (by exact g5) (fun z' h => ⟨rfl, z', h, rfl⟩)) (fun o G' h => ?_) (fun E G' h => by cases h.1)
  obtain ⟨h, Z2, hZ2, rfl⟩ := h
  cases h
  refine V_aload_n rfl (by first | rfl | assumption) ?_
  refine V_getf rfl rfl rfl (by repeat (first | exact hup_eq | assumption | refine Eq.trans (hup_ne (by first | assumption | exact Ne.symm (by assumption) | decide)) ?_)) (by first | rfl | assumption) ?_
  refine V_iconst (v := 0) rfl (by decide) ?_
  refine V_aload_n rfl (by first | rfl | assumption) ?_
  refine V_getf rfl rfl rfl (by repeat (first | exact hup_eq | assumption | refine Eq.trans (hup_ne (by first | assumption | exact Ne.symm (by assumption) | decide)) ?_)) (by first | rfl | assumption) ?_
  refine V_iconst (v := 0) rfl (by decide) ?_
  refine V_bipush (v := 10) rfl (by decide) ?_
  refine V_copyl (st := []) (f := fun j => lN (U2 j)) (g := fun j => lN (y6 j)) rfl ⟨kk_X0_49, k_ac⟩ (by rfl) (by exact g6) (by decide) (by decide) (by decide) (by decide) (by decide) (by decide) (by decide) ?_
  rw [show (0 : Int32).toNatClampNeg = 0 by decide, show (10 : Int32).toNatClampNeg = 10 by decide, cpyL]
  refine V_aload_n rfl (by first | rfl | assumption) ?_
  refine V_getf rfl rfl rfl (by repeat (first | exact hup_eq | assumption | refine Eq.trans (hup_ne (by first | assumption | exact Ne.symm (by assumption) | decide)) ?_)) (by first | rfl | assumption) ?_
  refine V_lconst (v := lN 1) rfl (by decide) ?_
  refine V_callS (M' := mX0_setSmall) (mc := 0) (ms := 0) (bc' := 0) (bs' := 0) rfl cw_X0_63 is_X0_setSmall rfl (Nat.le_of_ble_eq_true rfl) ⟨Nat.le_of_ble_eq_true rfl, Nat.le_of_ble_eq_true rfl⟩ ⟨Nat.le_of_ble_eq_true rfl, Nat.le_of_ble_eq_true rfl⟩ (As := [.ref 7, .long (lN 1)]) (c_setSmall (v := 1) (Q := fun o G' => o = .inl none ∧ ∃ z', (∀ j, j < 10 → z' j = if j = 0 then 1 else 0) ∧ G' = hup _ 7 (LA 10 z')) (by exact g7) (fun z' h => ⟨rfl, z', h, rfl⟩)) (fun o G' h => ?_) (fun E G' h => by cases h.1)
  obtain ⟨h, Z3, hZ3, rfl⟩ := h
  cases h
  obtain ⟨UU, hUU⟩ : ∃ UU, UU = uval (fun j => b (s + j)) % PP := ⟨_, rfl⟩
  have small : ∀ (z : Nat → Nat) (v : Nat), v < 2 → (∀ j, j < 10 → z j = if j = 0 then v else 0) → fA z ∧ v10 z % PP = v := by
    intro z v hv hz
    refine ⟨⟨fun j hj => ?_, ?_⟩, ?_⟩
    · rw [hz j (by omega)]; split <;> omega
    · rw [hz 9 (by decide)]; simp
    · have e : v10 z = v := by
        simp only [v10, vs, hz 0 (by decide), hz 1 (by decide), hz 2 (by decide), hz 3 (by decide), hz 4 (by decide), hz 5 (by decide), hz 6 (by decide), hz 7 (by decide), hz 8 (by decide), hz 9 (by decide)]
        simp
      rw [e]
      exact Nat.mod_eq_of_lt (Nat.lt_trans hv (by decide))
  have sX2 := small X2 1 (by decide) hX2
  have sZ2 := small Z2 0 (by decide) (fun j hj => hZ2 j hj)
  have sZ3 := small Z3 1 (by decide) hZ3
  have sX3 : fA (fun j => if j < 10 then U2 j else y6 j) ∧ v10 (fun j => if j < 10 then U2 j else y6 j) % PP = UU := by
    refine ⟨⟨fun j hj => ?_, ?_⟩, ?_⟩
    · simp only [show j < 10 by omega, if_true]; exact hu2.1.1 j hj
    · simp only [show (9 : Nat) < 10 by decide, if_true]; exact hu2.1.2
    · rw [hUU, ← hu2.2]
      congr 1
  refine V_sipush (v := 254) rfl (by decide) ?_
  refine V_istore rfl (by decide) ?_
  refine V_loop 255 (fun n lc G' => lc 0 = some (.ref 1) ∧ lc 4 = some (.ref res) ∧ lc 5 = some (.int (cnt 254 n)) ∧ FR [2, 3, 4, 5, 6, 7, 8, 9, 10, 11, 12, 13] G G' ∧ G'.1 2 = some (BA 32 fac) ∧ G'.1 3 = some (LA 10 U2) ∧ LAr G' 4 (lad UU (facf k) n).1 ∧ LAr G' 5 (lad UU (facf k) n).2.1 ∧ LAr G' 6 (lad UU (facf k) n).2.2.1 ∧ LAr G' 7 (lad UU (facf k) n).2.2.2 ∧ (∃ z, G'.1 8 = some (LA 10 z)) ∧ (∃ z, G'.1 9 = some (LA 10 z)) ∧ (∃ z, G'.1 10 = some (LA 10 z)) ∧ (∃ z, G'.1 11 = some (LA 10 z)) ∧ (∃ z, G'.1 12 = some (LA 10 z)) ∧ ∃ z, G'.1 13 = some (LA 20 z)) ?_ ?_ 0 _ _ (Nat.zero_le _) ⟨rfl, rfl, rfl, ⟨rfl, fun j hj => ?_⟩, rfl, rfl, ⟨_, rfl, sX2⟩, ⟨_, rfl, sZ2⟩, ⟨_, rfl, sX3⟩, ⟨_, rfl, sZ3⟩, ⟨_, g8⟩, ⟨_, g9⟩, ⟨_, g10⟩, ⟨_, g11⟩, ⟨_, g12⟩, ⟨_, g13⟩⟩
  · rintro n lc G' hn ⟨l0, l4, l5, hFR, i2, i3, ⟨v4, i4, a4, b4⟩, ⟨v5, i5, a5, b5⟩, ⟨v6, i6, a6, b6⟩, ⟨v7, i7, a7, b7⟩, ⟨v8, i8⟩, ⟨v9, i9⟩, ⟨v10', i10⟩, ⟨v11, i11⟩, ⟨v12, i12⟩, ⟨v13, i13⟩⟩ ih
    have i1 : G'.1 1 = some (.inr (0, [.ref 2, .ref 3, .ref 4, .ref 5, .ref 6, .ref 7, .ref 8, .ref 9, .ref 10, .ref 11, .ref 12, .ref 13])) := (hFR.2 1 (by decide)).trans g1
    have hc : cnt 254 n = nI (254 - n) := by unfold cnt; rw [if_pos (by omega)]
    have hstep := lad_s UU (facf k) n
    have hbit : bitf (facf k) (254 - n) = fac ((254 - n) / 8) / 2 ^ ((254 - n) % 8) % 2 := by unfold bitf; rw [hfc _ (by omega)]
    have fin : ∀ (lc : kLo) (G'' : kG), lc 0 = some (.ref 1) → lc 4 = some (.ref res) → lc 5 = some (.int (cnt 254 n)) → FR [4, 5, 6, 7, 8, 9, 10, 11, 12, 13] G' G'' → LAr G'' 4 (lad UU (facf k) (n + 1)).1 → LAr G'' 5 (lad UU (facf k) (n + 1)).2.1 → LAr G'' 6 (lad UU (facf k) (n + 1)).2.2.1 → LAr G'' 7 (lad UU (facf k) (n + 1)).2.2.2 → (∃ z, G''.1 8 = some (LA 10 z)) → (∃ z, G''.1 9 = some (LA 10 z)) → (∃ z, G''.1 10 = some (LA 10 z)) → (∃ z, G''.1 11 = some (LA 10 z)) → (∃ z, G''.1 12 = some (LA 10 z)) → (∃ z, G''.1 13 = some (LA 20 z)) → V K 0 0 mX0_times 181 lc [] G'' Q := by
      intro lc G'' l0 l4 l5 hF e4 e5 e6 e7 e8 e9 e10 e11 e12 e13
      refine V_iinc (v := cnt 254 (n + 1)) rfl (by first | rfl | assumption) (cnt_s (by omega)) (by decide) ?_
      refine V_goto rfl ?_
      refine ih _ _ ⟨l0, l4, rfl, ⟨hF.1.trans hFR.1, fun j hj => (hF.2 j ?_).trans (hFR.2 j hj)⟩, (hF.2 2 (by decide)).trans i2, (hF.2 3 (by decide)).trans i3, e4, e5, e6, e7, e8, e9, e10, e11, e12, e13⟩
      intro q
      exact hj (by simp only [List.mem_cons, List.not_mem_nil, or_false] at q ⊢; omega)
    refine V_iload rfl (by first | rfl | assumption) ?_
    refine V_if_lt rfl (fun h => absurd h (by rw [hc]; exact nI_pos (by omega))) (fun _ => ?_)
    rw [hc] at l5
    refine V_aload_n rfl (by first | rfl | assumption) ?_
    refine V_getf rfl rfl rfl (by repeat (first | exact hup_eq | assumption | refine Eq.trans (hup_ne (by first | assumption | exact Ne.symm (by assumption) | decide)) ?_)) (by first | rfl | assumption) ?_
    refine V_iload rfl (by first | rfl | assumption) ?_
    refine V_iconst (v := 3) rfl (by decide) ?_
    refine V_ishr rfl ?_
    rw [pk_shrN (by omega) _ 3 (by decide), show (2 : Nat) ^ 3 = 8 by decide]
    refine V_ialdN rfl i2 rfl (by omega) (by decide) ?_
    refine V_iload rfl (by first | rfl | assumption) ?_
    refine V_bipush (v := 7) rfl (by decide) ?_
    refine V_iand rfl ?_
    refine V_ishr rfl ?_
    refine V_iconst (v := 1) rfl (by decide) ?_
    refine V_iand rfl ?_
    rw [bitI (hfl _ (by omega)) (by omega), ← hbit]
    refine V_iconst (v := 1) rfl (by decide) ?_
    rw [← hc] at l5
    refine V_icmp_ne rfl (fun h => ?_) (fun h => ?_)
    · have hb0 : ¬ bitf (facf k) (254 - n) = 1 := fun q => h (by rw [q]; rfl)
      rw [if_neg hb0] at hstep
      refine V_aload_n rfl (by first | rfl | assumption) ?_
      refine V_aload_n rfl (by first | rfl | assumption) ?_
      refine V_getf rfl rfl rfl (by repeat (first | exact hup_eq | assumption | refine Eq.trans (hup_ne (by first | assumption | exact Ne.symm (by assumption) | decide)) ?_)) (by first | rfl | assumption) ?_
      refine V_aload_n rfl (by first | rfl | assumption) ?_
      refine V_getf rfl rfl rfl (by repeat (first | exact hup_eq | assumption | refine Eq.trans (hup_ne (by first | assumption | exact Ne.symm (by assumption) | decide)) ?_)) (by first | rfl | assumption) ?_
      refine V_aload_n rfl (by first | rfl | assumption) ?_
      refine V_getf rfl rfl rfl (by repeat (first | exact hup_eq | assumption | refine Eq.trans (hup_ne (by first | assumption | exact Ne.symm (by assumption) | decide)) ?_)) (by first | rfl | assumption) ?_
      refine V_aload_n rfl (by first | rfl | assumption) ?_
      refine V_getf rfl rfl rfl (by repeat (first | exact hup_eq | assumption | refine Eq.trans (hup_ne (by first | assumption | exact Ne.symm (by assumption) | decide)) ?_)) (by first | rfl | assumption) ?_
      refine V_callV (M' := mX0_step) (mc := 0) (ms := 0) (bc' := 0) (bs' := 0) rfl cw_X0_67 iv_X0_step (by repeat (first | exact hup_eq | assumption | refine Eq.trans (hup_ne (by first | assumption | exact Ne.symm (by assumption) | decide)) ?_)) rfl rfl (Nat.le_of_ble_eq_true rfl) ⟨Nat.le_of_ble_eq_true rfl, Nat.le_of_ble_eq_true rfl⟩ ⟨Nat.le_of_ble_eq_true rfl, Nat.le_of_ble_eq_true rfl⟩ (As := [.ref 4, .ref 5, .ref 6, .ref 7]) (c_step0 (Q := fun o G'' => o = .inl none ∧ _) i1 i3 i4 i5 i6 i7 i8 i9 i10 i11 i12 i13 hu2.1 (by rw [hu2.2, ← hUU]) a4 b4 a5 b5 a6 b6 a7 b7 (fun G'' h1 h2 h3 h4 h5 h6 h7 h8 h9 h10 h11 => ⟨rfl, h1, h2, h3, h4, h5, h6, h7, h8, h9, h10, h11⟩)) (fun o G'' h => ?_) (fun E G'' h => by cases h.1)
      obtain ⟨h, h1, h2, h3, h4, h5, h6, h7, h8, h9, h10, h11⟩ := h
      cases h
      exact fin _ _ l0 l4 l5 h1 (by rw [hstep]; exact h2) (by rw [hstep]; exact h3) (by rw [hstep]; exact h4) (by rw [hstep]; exact h5) h6 h7 h8 h9 h10 h11
    · have hb1 : bitf (facf k) (254 - n) = 1 := (nI_eq (b := 1) (by have := Nat.mod_lt (facf k ((254 - n) / 8) / 2 ^ ((254 - n) % 8)) (show 0 < 2 by decide); unfold bitf; omega) (by decide)).mp h
      rw [if_pos hb1] at hstep
      refine V_aload_n rfl (by first | rfl | assumption) ?_
      refine V_aload_n rfl (by first | rfl | assumption) ?_
      refine V_getf rfl rfl rfl (by repeat (first | exact hup_eq | assumption | refine Eq.trans (hup_ne (by first | assumption | exact Ne.symm (by assumption) | decide)) ?_)) (by first | rfl | assumption) ?_
      refine V_aload_n rfl (by first | rfl | assumption) ?_
      refine V_getf rfl rfl rfl (by repeat (first | exact hup_eq | assumption | refine Eq.trans (hup_ne (by first | assumption | exact Ne.symm (by assumption) | decide)) ?_)) (by first | rfl | assumption) ?_
      refine V_aload_n rfl (by first | rfl | assumption) ?_
      refine V_getf rfl rfl rfl (by repeat (first | exact hup_eq | assumption | refine Eq.trans (hup_ne (by first | assumption | exact Ne.symm (by assumption) | decide)) ?_)) (by first | rfl | assumption) ?_
      refine V_aload_n rfl (by first | rfl | assumption) ?_
      refine V_getf rfl rfl rfl (by repeat (first | exact hup_eq | assumption | refine Eq.trans (hup_ne (by first | assumption | exact Ne.symm (by assumption) | decide)) ?_)) (by first | rfl | assumption) ?_
      refine V_callV (M' := mX0_step) (mc := 0) (ms := 0) (bc' := 0) (bs' := 0) rfl cw_X0_67 iv_X0_step (by repeat (first | exact hup_eq | assumption | refine Eq.trans (hup_ne (by first | assumption | exact Ne.symm (by assumption) | decide)) ?_)) rfl rfl (Nat.le_of_ble_eq_true rfl) ⟨Nat.le_of_ble_eq_true rfl, Nat.le_of_ble_eq_true rfl⟩ ⟨Nat.le_of_ble_eq_true rfl, Nat.le_of_ble_eq_true rfl⟩ (As := [.ref 6, .ref 7, .ref 4, .ref 5]) (c_step1 (Q := fun o G'' => o = .inl none ∧ _) i1 i3 i4 i5 i6 i7 i8 i9 i10 i11 i12 i13 hu2.1 (by rw [hu2.2, ← hUU]) a6 b6 a7 b7 a4 b4 a5 b5 (fun G'' h1 h2 h3 h4 h5 h6 h7 h8 h9 h10 h11 => ⟨rfl, h1, h2, h3, h4, h5, h6, h7, h8, h9, h10, h11⟩)) (fun o G'' h => ?_) (fun E G'' h => by cases h.1)
      obtain ⟨h, h1, h2, h3, h4, h5, h6, h7, h8, h9, h10, h11⟩ := h
      cases h
      refine V_goto rfl ?_
      exact fin _ _ l0 l4 l5 h1 (by rw [hstep]; exact h4) (by rw [hstep]; exact h5) (by rw [hstep]; exact h2) (by rw [hstep]; exact h3) h6 h7 h8 h9 h10 h11
  · rintro lc G' ⟨l0, l4, l5, hFR, i2, i3, ⟨v4, i4, a4, b4⟩, ⟨v5, i5, a5, b5⟩, ⟨v6, i6, a6, b6⟩, ⟨v7, i7, a7, b7⟩, ⟨v8, i8⟩, ⟨v9, i9⟩, ⟨v10', i10⟩, ⟨v11, i11⟩, ⟨v12, i12⟩, ⟨v13, i13⟩⟩
    have i1 : G'.1 1 = some (.inr (0, [.ref 2, .ref 3, .ref 4, .ref 5, .ref 6, .ref 7, .ref 8, .ref 9, .ref 10, .ref 11, .ref 12, .ref 13])) := (hFR.2 1 (by decide)).trans g1
    have ires : G'.1 res = some (BA Nr o) := (hFR.2 res (by simp only [List.mem_cons, List.not_mem_nil, or_false]; omega)).trans hr
    have hnr8 : res ≠ 8 := by omega
    have hnr13 : res ≠ 13 := by omega
    refine V_iload rfl (by first | rfl | assumption) ?_
    refine V_if_lt rfl (fun _ => ?_) (fun h => absurd (by decide) h)
    refine V_aload_n rfl (by first | rfl | assumption) ?_
    refine V_aload_n rfl (by first | rfl | assumption) ?_
    refine V_getf rfl rfl rfl (by repeat (first | exact hup_eq | assumption | refine Eq.trans (hup_ne (by first | assumption | exact Ne.symm (by assumption) | decide)) ?_)) (by first | rfl | assumption) ?_
    refine V_aload_n rfl (by first | rfl | assumption) ?_
    refine V_getf rfl rfl rfl (by repeat (first | exact hup_eq | assumption | refine Eq.trans (hup_ne (by first | assumption | exact Ne.symm (by assumption) | decide)) ?_)) (by first | rfl | assumption) ?_
    refine V_callV (M' := mX0_invert) (mc := 0) (ms := 0) (bc' := 0) (bs' := 0) rfl cw_X0_71 iv_X0_invert (by repeat (first | exact hup_eq | assumption | refine Eq.trans (hup_ne (by first | assumption | exact Ne.symm (by assumption) | decide)) ?_)) rfl rfl (Nat.le_of_ble_eq_true rfl) ⟨Nat.le_of_ble_eq_true rfl, Nat.le_of_ble_eq_true rfl⟩ ⟨Nat.le_of_ble_eq_true rfl, Nat.le_of_ble_eq_true rfl⟩ (As := [.ref 5, .ref 8]) (c_invert (Q := fun o G'' => o = .inl none ∧ ∃ w' x, fB x ∧ v10 x % PP = ivP (v10 v5) 254 ∧ G'' = hup (hup G' 13 (LA 20 w')) 8 (LA 10 x)) i1 rfl i5 i8 i13 a5 (fun w' x q1 q2 => ⟨rfl, w', x, q1, q2, rfl⟩)) (fun o G'' h => ?_) (fun E G'' h => by cases h.1)
    obtain ⟨h, w1, x1, hx1, hv1, rfl⟩ := h
    cases h
    refine V_aload_n rfl (by first | rfl | assumption) ?_
    refine V_aload_n rfl (by first | rfl | assumption) ?_
    refine V_getf rfl rfl rfl (by repeat (first | exact hup_eq | assumption | refine Eq.trans (hup_ne (by first | assumption | exact Ne.symm (by assumption) | decide)) ?_)) (by first | rfl | assumption) ?_
    refine V_aload_n rfl (by first | rfl | assumption) ?_
    refine V_getf rfl rfl rfl (by repeat (first | exact hup_eq | assumption | refine Eq.trans (hup_ne (by first | assumption | exact Ne.symm (by assumption) | decide)) ?_)) (by first | rfl | assumption) ?_
    refine V_aload_n rfl (by first | rfl | assumption) ?_
    refine V_getf rfl rfl rfl (by repeat (first | exact hup_eq | assumption | refine Eq.trans (hup_ne (by first | assumption | exact Ne.symm (by assumption) | decide)) ?_)) (by first | rfl | assumption) ?_
    refine V_callV (M' := mX0_product) (mc := 0) (ms := 0) (bc' := 0) (bs' := 0) rfl cw_X0_75 iv_X0_product (by repeat (first | exact hup_eq | assumption | refine Eq.trans (hup_ne (by first | assumption | exact Ne.symm (by assumption) | decide)) ?_)) rfl rfl (Nat.le_of_ble_eq_true rfl) ⟨Nat.le_of_ble_eq_true rfl, Nat.le_of_ble_eq_true rfl⟩ ⟨Nat.le_of_ble_eq_true rfl, Nat.le_of_ble_eq_true rfl⟩ (As := [.ref 8, .ref 4, .ref 8]) (c_product (Q := fun o G'' => o = .inl none ∧ ∃ w' z', fA z' ∧ v10 z' % PP = mulP (lad UU (facf k) 255).1 (ivP (v10 v5) 254) ∧ G'' = hup (hup G' 13 (LA 20 w')) 8 (LA 10 z')) i1 rfl (by rfl) (by rfl) (by exact i4) (by rfl) (by decide) a4.B hx1 (fun w' z' q1 q2 => ⟨rfl, w', z', q1, mulP_of q2 b4 hv1, by rw [hup4 (by decide)]⟩)) (fun o G'' h => ?_) (fun E G'' h => by cases h.1)
    obtain ⟨h, w2, x2, hx2, hv2, rfl⟩ := h
    cases h
    refine V_aload_n rfl (by first | rfl | assumption) ?_
    refine V_getf rfl rfl rfl (by repeat (first | exact hup_eq | assumption | refine Eq.trans (hup_ne (by first | assumption | exact Ne.symm (by assumption) | decide)) ?_)) (by first | rfl | assumption) ?_
    refine V_callS (M' := mX0_settle) (mc := 0) (ms := 0) (bc' := 0) (bs' := 0) rfl cw_X0_79 is_X0_settle rfl (Nat.le_of_ble_eq_true rfl) ⟨Nat.le_of_ble_eq_true rfl, Nat.le_of_ble_eq_true rfl⟩ ⟨Nat.le_of_ble_eq_true rfl, Nat.le_of_ble_eq_true rfl⟩ (As := [.ref 8]) (c_settle (Q := fun o G'' => o = .inl none ∧ G'' = hup (hup G' 13 (LA 20 w2)) 8 (LA 10 (seR x2))) (by rfl) hx2 ⟨rfl, by rw [hup_hup]⟩) (fun o G'' h => ?_) (fun E G'' h => by cases h.1)
    obtain ⟨h, rfl⟩ := h
    cases h
    obtain ⟨-, e1, e2, e3⟩ := seR_ok hx2
    have hlim : ∀ j, j < 10 → seR x2 j < 2 ^ 26 := fun j hj => by
      rcases Nat.lt_or_ge j 9 with q | q
      · exact e2 j q
      · have : j = 9 := by omega
        subst this; omega
    refine V_aload_n rfl (by first | rfl | assumption) ?_
    refine V_getf rfl rfl rfl (by repeat (first | exact hup_eq | assumption | refine Eq.trans (hup_ne (by first | assumption | exact Ne.symm (by assumption) | decide)) ?_)) (by first | rfl | assumption) ?_
    refine V_aload rfl (by first | rfl | assumption) ?_
    refine V_bipush (v := 32) rfl (by decide) ?_
    refine V_callS (M' := mX5_write) (mc := 0) (ms := 0) (bc' := 0) (bs' := 0) rfl cw_X0_83 is_X5_write rfl (Nat.le_of_ble_eq_true rfl) ⟨Nat.le_of_ble_eq_true rfl, Nat.le_of_ble_eq_true rfl⟩ ⟨Nat.le_of_ble_eq_true rfl, Nat.le_of_ble_eq_true rfl⟩ (As := [.ref 8, .ref res, .int (nI 32)]) (c_write (Q := fun o G'' => o = .inl none ∧ G'' = hup (hup (hup G' 13 (LA 20 w2)) 8 (LA 10 (seR x2))) res (BA Nr (wrS (seR x2) 32 o 10).2.2.2)) (by rfl) (by rw [hup_ne hnr8, hup_ne hnr13]; exact ires) hNr.1 hNr.2 (by decide) hlim (by decide) ⟨rfl, rfl⟩) (fun o G'' h => ?_) (fun E G'' h => by cases h.1)
    obtain ⟨h, rfl⟩ := h
    cases h
    obtain ⟨q1, q2, q3, q4, q5, q6, q7⟩ := wrS_ok (o := o) hlim (c := 32) (by decide) 10 (Nat.le_refl _)
    generalize hwo : (wrS (seR x2) 32 o 10).2.2.2 = wo at *
    have ha32 : (wrS (seR x2) 32 o 10).2.2.1 = 32 := by omega
    have ht4 : (wrS (seR x2) 32 o 10).2.1 = 4 := by omega
    rw [ha32] at q5 q6 q7
    rw [ht4] at q1
    have hmul : v10 (seR x2) = MULT k (fun j => b (s + j)) := by
      rw [e1, hv2]
      unfold MULT
      rw [← hUU, ← b5, ivP_mod]
    have hval : vs 256 wo 32 = MULT k (fun j => b (s + j)) := by
      have hm := MULT_lt k (fun j => b (s + j))
      rw [← hmul] at hm ⊢
      have q5' : vs 256 wo 32 + (wrS (seR x2) 32 o 10).1 * 256 ^ 32 = v10 (seR x2) := q5
      have hz : (wrS (seR x2) 32 o 10).1 = 0 := by
        rcases Nat.eq_zero_or_pos (wrS (seR x2) 32 o 10).1 with z | z
        · exact z
        · have : 1 * 256 ^ 32 ≤ (wrS (seR x2) 32 o 10).1 * 256 ^ 32 := Nat.mul_le_mul_right _ z
          simp only [PP] at hm
          omega
      rw [hz, Nat.zero_mul, Nat.add_zero] at q5'
      exact q5'
    have hfin : wo = fun j => if j < 32 then MULT k (fun j => b (s + j)) / 256 ^ j % 256 else o j := by
      funext j
      by_cases hj : j < 32
      · simp only [hj, if_true]
        exact dig_uniq (by decide) q6 hval j hj
      · simp only [hj, if_false]
        exact q7 j hj
    rw [hfin]
    refine V_vret rfl rfl (hq _ ⟨hFR.1, fun j hj => ?_⟩ ⟨?_, ⟨fac, ?_⟩, fun r hr9 => ?_, ⟨w2, ?_⟩⟩ hup_eq)
    · simp only [List.mem_cons, List.not_mem_nil, or_false, not_or] at hj
      rw [hup_ne (by omega), hup_ne (by omega), hup_ne (by omega)]
      exact hFR.2 j (by simp only [List.mem_cons, List.not_mem_nil, or_false]; omega)
    · rw [hup_ne (by omega), hup_ne (by omega), hup_ne (by omega)]; exact i1
    · rw [hup_ne (by omega), hup_ne (by omega), hup_ne (by omega)]; exact i2
    · simp only [List.mem_cons, List.not_mem_nil, or_false] at hr9
      rcases hr9 with rfl | rfl | rfl | rfl | rfl | rfl | rfl | rfl | rfl | rfl
      · exact ⟨_, (hup_ne (by omega)).trans i3⟩
      · exact ⟨_, (hup_ne (by omega)).trans i4⟩
      · exact ⟨_, (hup_ne (by omega)).trans i5⟩
      · exact ⟨_, (hup_ne (by omega)).trans i6⟩
      · exact ⟨_, (hup_ne (by omega)).trans i7⟩
      · exact ⟨_, (hup_ne (by omega)).trans rfl⟩
      · exact ⟨_, (hup_ne (by omega)).trans i9⟩
      · exact ⟨_, (hup_ne (by omega)).trans i10⟩
      · exact ⟨_, (hup_ne (by omega)).trans i11⟩
      · exact ⟨_, (hup_ne (by omega)).trans i12⟩
    · exact (hup_ne (by omega)).trans rfl
  · simp only [List.mem_cons, List.not_mem_nil, or_false, not_or] at hj
    obtain ⟨j2, j3, j4, j5, j6, j7, j8, j9, j10, j11, j12, j13⟩ := hj
    rw [hup_ne j7, hup_ne j6, hup_ne j5, hup_ne j4, hup_ne j3, hup_ne j2]
set_option maxHeartbeats 40000000 in
set_option maxRecDepth 20000 in
theorem c_timesS {k0 k1 res Nr s q0 N : Nat} {k b o : Nat → Nat} (hcr : crv G) (hk : G.1 k0 = some (BA k1 k)) (hk1 : 32 ≤ k1 ∧ k1 < 2 ^ 20) (hk0 : 13 < k0) (hkb : ∀ j, j < 32 → k j < 256) (ha : kSX K q0 = some (N, fun j => nI (b j))) (hs : s + 32 ≤ N) (hN : N < 2 ^ 20) (hb : ∀ j, j < 32 → b (s + j) < 256) (hr : G.1 res = some (BA Nr o)) (hr0 : 13 < res) (hNr : 32 ≤ Nr ∧ Nr < 2 ^ 20)
    (hq : ∀ G', FR [2, 3, 4, 5, 6, 7, 8, 9, 10, 11, 12, 13, res] G G' → crv G' → G'.1 res = some (BA Nr (fun j => if j < 32 then MULT k (fun j => b (s + j)) / 256 ^ j % 256 else o j)) → Q (.inl none) G') : C K 0 0 mX0_times [.ref 1, .ref k0, .ref (1000000 + q0), .int (nI s), .ref res] G Q := by
  obtain ⟨g1, ⟨f2, g2⟩, hrows, ⟨w13, g13⟩⟩ := id hcr
  obtain ⟨y3, g3⟩ := hrows 3 (by decide)
  obtain ⟨y4, g4⟩ := hrows 4 (by decide)
  obtain ⟨y5, g5⟩ := hrows 5 (by decide)
  obtain ⟨y6, g6⟩ := hrows 6 (by decide)
  obtain ⟨y7, g7⟩ := hrows 7 (by decide)
  obtain ⟨y8, g8⟩ := hrows 8 (by decide)
  obtain ⟨y9, g9⟩ := hrows 9 (by decide)
  obtain ⟨y10, g10⟩ := hrows 10 (by decide)
  obtain ⟨y11, g11⟩ := hrows 11 (by decide)
  obtain ⟨y12, g12⟩ := hrows 12 (by decide)
  refine C_of okX0_times (Nat.le_of_ble_eq_true rfl) ?_
  refine V_aload_n rfl (by first | rfl | assumption) ?_
  refine V_iconst (v := 0) rfl (by decide) ?_
  refine V_aload_n rfl (by first | rfl | assumption) ?_
  refine V_getf rfl rfl rfl (by repeat (first | exact hup_eq | assumption | refine Eq.trans (hup_ne (by first | assumption | exact Ne.symm (by assumption) | decide)) ?_)) (by first | rfl | assumption) ?_
  refine V_iconst (v := 0) rfl (by decide) ?_
  refine V_bipush (v := 32) rfl (by decide) ?_
  refine V_copyi (st := []) rfl ⟨kk_X0_49, k_ac⟩ hk g2 (by decide) (by decide) (by decide) (by show 0 + 32 ≤ k1; omega) (by decide) (by decide) (by decide) ?_
  rw [show (0 : Int32).toNatClampNeg = 0 by decide, show (32 : Int32).toNatClampNeg = 32 by decide, cpyB]
  refine V_aload_n rfl (by first | rfl | assumption) ?_
  refine V_getf rfl rfl rfl (by repeat (first | exact hup_eq | assumption | refine Eq.trans (hup_ne (by first | assumption | exact Ne.symm (by assumption) | decide)) ?_)) (by first | rfl | assumption) ?_
  refine V_iconst (v := 0) rfl (by decide) ?_
  refine V_dup2 rfl rfl rfl ?_
  refine V_ialdN (j := 0) rfl hup_eq rfl (by decide) (by decide) ?_
  refine V_sipush (v := 248) rfl (by decide) ?_
  refine V_iand rfl ?_
  rw [land248]
  refine V_iastN (j := 0) rfl hup_eq rfl (by decide) (by decide) ?_
  rw [hup_hup]
  refine V_aload_n rfl (by first | rfl | assumption) ?_
  refine V_getf rfl rfl rfl (by repeat (first | exact hup_eq | assumption | refine Eq.trans (hup_ne (by first | assumption | exact Ne.symm (by assumption) | decide)) ?_)) (by first | rfl | assumption) ?_
  refine V_bipush (v := 31) rfl (by decide) ?_
  refine V_aload_n rfl (by first | rfl | assumption) ?_
  refine V_getf rfl rfl rfl (by repeat (first | exact hup_eq | assumption | refine Eq.trans (hup_ne (by first | assumption | exact Ne.symm (by assumption) | decide)) ?_)) (by first | rfl | assumption) ?_
  refine V_bipush (v := 31) rfl (by decide) ?_
  refine V_ialdN (j := 31) rfl hup_eq rfl (by decide) (by decide) ?_
  refine V_bipush (v := 127) rfl (by decide) ?_
  refine V_iand rfl ?_
  rw [land127]
  refine V_bipush (v := 64) rfl (by decide) ?_
  refine V_ior rfl ?_
  rw [lor64]
  refine V_iastN (j := 31) rfl hup_eq rfl (by decide) (by decide) ?_
  rw [hup_hup]
  generalize hfac : updN _ 31 _ = fac
  have hfc : ∀ j, j < 32 → fac j = facf k j := by
    intro j hj
    rw [← hfac]
    unfold facf
    by_cases h31 : j = 31
    · subst h31
      simp [updN]
    · by_cases h0 : j = 0
      · subst h0
        simp [updN]
      · simp [updN, h31, h0, hj]
  have hfl : ∀ j, j < 32 → fac j < 256 := fun j hj => by rw [hfc j hj]; exact facf_lt hkb j hj
  clear hfac
  refine V_aload_n rfl (by first | rfl | assumption) ?_
  refine V_iload_n rfl (by first | rfl | assumption) ?_
  refine V_bipush (v := 32) rfl (by decide) ?_
  refine V_aload_n rfl (by first | rfl | assumption) ?_
  refine V_getf rfl rfl rfl (by repeat (first | exact hup_eq | assumption | refine Eq.trans (hup_ne (by first | assumption | exact Ne.symm (by assumption) | decide)) ?_)) (by first | rfl | assumption) ?_
  refine V_callS (M' := mX5_read) (mc := 0) (ms := 0) (bc' := 0) (bs' := 0) rfl cw_X0_55 is_X5_read rfl (Nat.le_of_ble_eq_true rfl) ⟨Nat.le_of_ble_eq_true rfl, Nat.le_of_ble_eq_true rfl⟩ ⟨Nat.le_of_ble_eq_true rfl, Nat.le_of_ble_eq_true rfl⟩ (As := [.ref (1000000 + q0), .int (nI s), .int (nI 32), .ref 3]) (c_readS (b := b) (Q := fun o G' => o = .inl none ∧ G' = hup _ 3 (LA 10 (rdF (fun j => b (s + j)) 10 y3 32))) ha (by exact g3) hs hN (by decide) hb (by decide) ⟨rfl, rfl⟩) (fun o G' h => ?_) (fun E G' h => by cases h.1)
  obtain ⟨h, rfl⟩ := h
  cases h
  generalize hU : rdF (fun j => b (s + j)) 10 y3 32 = U
  have hUv : vs (2 ^ 26) U 10 = vs 256 (fun j => b (s + j)) 32 ∧ (∀ j, j < 9 → U j < 2 ^ 26) ∧ U 9 < 2 ^ 22 := by
    obtain ⟨q1, q2, q3, q4, q5, q6, q7⟩ := rdS_ok (g := y3) (b := fun j => b (s + j)) (L := 10) (c := 32) hb (by decide) 32 (Nat.le_refl _)
    unfold rdF at hU
    have hl9 : (rdS (fun j => b (s + j)) 10 y3 32).2.2.1 = 9 := by omega
    have ht22 : (rdS (fun j => b (s + j)) 10 y3 32).2.1 = 22 := by omega
    rw [hl9] at hU q5 q6
    rw [ht22] at q1
    rw [if_pos (by decide)] at hU
    refine ⟨?_, fun j hj => ?_, ?_⟩
    · rw [← q5, ← hU]
      show vs (2 ^ 26) (updN _ 9 _) 9 + updN _ 9 _ 9 * _ = _
      rw [updN_eq, vs_congr (w' := (rdS (fun j => b (s + j)) 10 y3 32).2.2.2) (fun j hj => updN_ne (by omega))]
    · rw [← hU, updN_ne (by omega)]
      exact q6 j hj
    · rw [← hU, updN_eq]
      exact q1
  clear hU
  refine V_aload_n rfl (by first | rfl | assumption) ?_
  refine V_getf rfl rfl rfl (by repeat (first | exact hup_eq | assumption | refine Eq.trans (hup_ne (by first | assumption | exact Ne.symm (by assumption) | decide)) ?_)) (by first | rfl | assumption) ?_
  refine V_bipush (v := 9) rfl (by decide) ?_
  refine V_dup2 rfl rfl rfl ?_
  refine V_laldN (j := 9) rfl hup_eq rfl (by decide) (by decide) ?_
  refine V_ldc2 (v := lN 2097151) rfl kc_X0_61 ?_
  refine V_landN 21 rfl (by decide) (by decide) (by have := hUv.2.2; omega) ?_
  refine V_lastN (j := 9) rfl hup_eq rfl (by decide) (by decide) ?_
  rw [hup_hup]
  generalize hU2 : updN U 9 (U 9 % 2 ^ 21) = U2
  have hu2 : fA U2 ∧ v10 U2 = uval (fun j => b (s + j)) := by
    refine ⟨⟨fun j hj => ?_, ?_⟩, ?_⟩
    · rw [← hU2, updN_ne (by omega)]
      have := hUv.2.1 j hj
      omega
    · rw [← hU2, updN_eq]; exact Nat.mod_lt _ (by decide)
    · unfold uval
      rw [← hUv.1]
      have e1 : v10 U2 = vs (2 ^ 26) U 9 + U 9 % 2 ^ 21 * (2 ^ 26) ^ 9 := by
        show vs (2 ^ 26) U2 9 + U2 9 * _ = _
        rw [← hU2, updN_eq, vs_congr (w' := U) (fun j hj => updN_ne (by omega))]
      have e2 : vs (2 ^ 26) U 10 = vs (2 ^ 26) U 9 + U 9 * (2 ^ 26) ^ 9 := rfl
      have hlt : vs (2 ^ 26) U 9 < (2 ^ 26) ^ 9 := vs_lt (by decide) hUv.2.1
      rw [e1, e2]
      generalize vs (2 ^ 26) U 9 = A at *
      generalize U 9 = u9 at *
      rw [show ((2 : Nat) ^ 26) ^ 9 = 2 ^ 234 by decide] at *
      omega
  clear hU2
  refine V_aload_n rfl (by first | rfl | assumption) ?_
  refine V_getf rfl rfl rfl (by repeat (first | exact hup_eq | assumption | refine Eq.trans (hup_ne (by first | assumption | exact Ne.symm (by assumption) | decide)) ?_)) (by first | rfl | assumption) ?_
  refine V_lconst (v := lN 1) rfl (by decide) ?_
  refine V_callS (M' := mX0_setSmall) (mc := 0) (ms := 0) (bc' := 0) (bs' := 0) rfl cw_X0_63 is_X0_setSmall rfl (Nat.le_of_ble_eq_true rfl) ⟨Nat.le_of_ble_eq_true rfl, Nat.le_of_ble_eq_true rfl⟩ ⟨Nat.le_of_ble_eq_true rfl, Nat.le_of_ble_eq_true rfl⟩ (As := [.ref 4, .long (lN 1)]) (c_setSmall (v := 1) (Q := fun o G' => o = .inl none ∧ ∃ z', (∀ j, j < 10 → z' j = if j = 0 then 1 else 0) ∧ G' = hup _ 4 (LA 10 z')) (by exact g4) (fun z' h => ⟨rfl, z', h, rfl⟩)) (fun o G' h => ?_) (fun E G' h => by cases h.1)
  obtain ⟨h, X2, hX2, rfl⟩ := h
  cases h
  refine V_aload_n rfl (by first | rfl | assumption) ?_
  refine V_getf rfl rfl rfl (by repeat (first | exact hup_eq | assumption | refine Eq.trans (hup_ne (by first | assumption | exact Ne.symm (by assumption) | decide)) ?_)) (by first | rfl | assumption) ?_
  refine V_lconst (v := lN 0) rfl (by decide) ?_
  refine V_callS (M' := mX0_setSmall) (mc := 0) (ms := 0) (bc' := 0) (bs' := 0) rfl cw_X0_63 is_X0_setSmall rfl (Nat.le_of_ble_eq_true rfl) ⟨Nat.le_of_ble_eq_true rfl, Nat.le_of_ble_eq_true rfl⟩ ⟨Nat.le_of_ble_eq_true rfl, Nat.le_of_ble_eq_true rfl⟩ (As := [.ref 5, .long (lN 0)]) (c_setSmall (v := 0) (Q := fun o G' => o = .inl none ∧ ∃ z', (∀ j, j < 10 → z' j = if j = 0 then 0 else 0) ∧ G' = hup _ 5 (LA 10 z')) (by exact g5) (fun z' h => ⟨rfl, z', h, rfl⟩)) (fun o G' h => ?_) (fun E G' h => by cases h.1)
  obtain ⟨h, Z2, hZ2, rfl⟩ := h
  cases h
  refine V_aload_n rfl (by first | rfl | assumption) ?_
  refine V_getf rfl rfl rfl (by repeat (first | exact hup_eq | assumption | refine Eq.trans (hup_ne (by first | assumption | exact Ne.symm (by assumption) | decide)) ?_)) (by first | rfl | assumption) ?_
  refine V_iconst (v := 0) rfl (by decide) ?_
  refine V_aload_n rfl (by first | rfl | assumption) ?_
  refine V_getf rfl rfl rfl (by repeat (first | exact hup_eq | assumption | refine Eq.trans (hup_ne (by first | assumption | exact Ne.symm (by assumption) | decide)) ?_)) (by first | rfl | assumption) ?_
  refine V_iconst (v := 0) rfl (by decide) ?_
  refine V_bipush (v := 10) rfl (by decide) ?_
  refine V_copyl (st := []) (f := fun j => lN (U2 j)) (g := fun j => lN (y6 j)) rfl ⟨kk_X0_49, k_ac⟩ (by rfl) (by exact g6) (by decide) (by decide) (by decide) (by decide) (by decide) (by decide) (by decide) ?_
  rw [show (0 : Int32).toNatClampNeg = 0 by decide, show (10 : Int32).toNatClampNeg = 10 by decide, cpyL]
  refine V_aload_n rfl (by first | rfl | assumption) ?_
  refine V_getf rfl rfl rfl (by repeat (first | exact hup_eq | assumption | refine Eq.trans (hup_ne (by first | assumption | exact Ne.symm (by assumption) | decide)) ?_)) (by first | rfl | assumption) ?_
  refine V_lconst (v := lN 1) rfl (by decide) ?_
  refine V_callS (M' := mX0_setSmall) (mc := 0) (ms := 0) (bc' := 0) (bs' := 0) rfl cw_X0_63 is_X0_setSmall rfl (Nat.le_of_ble_eq_true rfl) ⟨Nat.le_of_ble_eq_true rfl, Nat.le_of_ble_eq_true rfl⟩ ⟨Nat.le_of_ble_eq_true rfl, Nat.le_of_ble_eq_true rfl⟩ (As := [.ref 7, .long (lN 1)]) (c_setSmall (v := 1) (Q := fun o G' => o = .inl none ∧ ∃ z', (∀ j, j < 10 → z' j = if j = 0 then 1 else 0) ∧ G' = hup _ 7 (LA 10 z')) (by exact g7) (fun z' h => ⟨rfl, z', h, rfl⟩)) (fun o G' h => ?_) (fun E G' h => by cases h.1)
  obtain ⟨h, Z3, hZ3, rfl⟩ := h
  cases h
  obtain ⟨UU, hUU⟩ : ∃ UU, UU = uval (fun j => b (s + j)) % PP := ⟨_, rfl⟩
  have small : ∀ (z : Nat → Nat) (v : Nat), v < 2 → (∀ j, j < 10 → z j = if j = 0 then v else 0) → fA z ∧ v10 z % PP = v := by
    intro z v hv hz
    refine ⟨⟨fun j hj => ?_, ?_⟩, ?_⟩
    · rw [hz j (by omega)]; split <;> omega
    · rw [hz 9 (by decide)]; simp
    · have e : v10 z = v := by
        simp only [v10, vs, hz 0 (by decide), hz 1 (by decide), hz 2 (by decide), hz 3 (by decide), hz 4 (by decide), hz 5 (by decide), hz 6 (by decide), hz 7 (by decide), hz 8 (by decide), hz 9 (by decide)]
        simp
      rw [e]
      exact Nat.mod_eq_of_lt (Nat.lt_trans hv (by decide))
  have sX2 := small X2 1 (by decide) hX2
  have sZ2 := small Z2 0 (by decide) (fun j hj => hZ2 j hj)
  have sZ3 := small Z3 1 (by decide) hZ3
  have sX3 : fA (fun j => if j < 10 then U2 j else y6 j) ∧ v10 (fun j => if j < 10 then U2 j else y6 j) % PP = UU := by
    refine ⟨⟨fun j hj => ?_, ?_⟩, ?_⟩
    · simp only [show j < 10 by omega, if_true]; exact hu2.1.1 j hj
    · simp only [show (9 : Nat) < 10 by decide, if_true]; exact hu2.1.2
    · rw [hUU, ← hu2.2]
      congr 1
  refine V_sipush (v := 254) rfl (by decide) ?_
  refine V_istore rfl (by decide) ?_
  refine V_loop 255 (fun n lc G' => lc 0 = some (.ref 1) ∧ lc 4 = some (.ref res) ∧ lc 5 = some (.int (cnt 254 n)) ∧ FR [2, 3, 4, 5, 6, 7, 8, 9, 10, 11, 12, 13] G G' ∧ G'.1 2 = some (BA 32 fac) ∧ G'.1 3 = some (LA 10 U2) ∧ LAr G' 4 (lad UU (facf k) n).1 ∧ LAr G' 5 (lad UU (facf k) n).2.1 ∧ LAr G' 6 (lad UU (facf k) n).2.2.1 ∧ LAr G' 7 (lad UU (facf k) n).2.2.2 ∧ (∃ z, G'.1 8 = some (LA 10 z)) ∧ (∃ z, G'.1 9 = some (LA 10 z)) ∧ (∃ z, G'.1 10 = some (LA 10 z)) ∧ (∃ z, G'.1 11 = some (LA 10 z)) ∧ (∃ z, G'.1 12 = some (LA 10 z)) ∧ ∃ z, G'.1 13 = some (LA 20 z)) ?_ ?_ 0 _ _ (Nat.zero_le _) ⟨rfl, rfl, rfl, ⟨rfl, fun j hj => ?_⟩, rfl, rfl, ⟨_, rfl, sX2⟩, ⟨_, rfl, sZ2⟩, ⟨_, rfl, sX3⟩, ⟨_, rfl, sZ3⟩, ⟨_, g8⟩, ⟨_, g9⟩, ⟨_, g10⟩, ⟨_, g11⟩, ⟨_, g12⟩, ⟨_, g13⟩⟩
  · rintro n lc G' hn ⟨l0, l4, l5, hFR, i2, i3, ⟨v4, i4, a4, b4⟩, ⟨v5, i5, a5, b5⟩, ⟨v6, i6, a6, b6⟩, ⟨v7, i7, a7, b7⟩, ⟨v8, i8⟩, ⟨v9, i9⟩, ⟨v10', i10⟩, ⟨v11, i11⟩, ⟨v12, i12⟩, ⟨v13, i13⟩⟩ ih
    have i1 : G'.1 1 = some (.inr (0, [.ref 2, .ref 3, .ref 4, .ref 5, .ref 6, .ref 7, .ref 8, .ref 9, .ref 10, .ref 11, .ref 12, .ref 13])) := (hFR.2 1 (by decide)).trans g1
    have hc : cnt 254 n = nI (254 - n) := by unfold cnt; rw [if_pos (by omega)]
    have hstep := lad_s UU (facf k) n
    have hbit : bitf (facf k) (254 - n) = fac ((254 - n) / 8) / 2 ^ ((254 - n) % 8) % 2 := by unfold bitf; rw [hfc _ (by omega)]
    have fin : ∀ (lc : kLo) (G'' : kG), lc 0 = some (.ref 1) → lc 4 = some (.ref res) → lc 5 = some (.int (cnt 254 n)) → FR [4, 5, 6, 7, 8, 9, 10, 11, 12, 13] G' G'' → LAr G'' 4 (lad UU (facf k) (n + 1)).1 → LAr G'' 5 (lad UU (facf k) (n + 1)).2.1 → LAr G'' 6 (lad UU (facf k) (n + 1)).2.2.1 → LAr G'' 7 (lad UU (facf k) (n + 1)).2.2.2 → (∃ z, G''.1 8 = some (LA 10 z)) → (∃ z, G''.1 9 = some (LA 10 z)) → (∃ z, G''.1 10 = some (LA 10 z)) → (∃ z, G''.1 11 = some (LA 10 z)) → (∃ z, G''.1 12 = some (LA 10 z)) → (∃ z, G''.1 13 = some (LA 20 z)) → V K 0 0 mX0_times 181 lc [] G'' Q := by
      intro lc G'' l0 l4 l5 hF e4 e5 e6 e7 e8 e9 e10 e11 e12 e13
      refine V_iinc (v := cnt 254 (n + 1)) rfl (by first | rfl | assumption) (cnt_s (by omega)) (by decide) ?_
      refine V_goto rfl ?_
      refine ih _ _ ⟨l0, l4, rfl, ⟨hF.1.trans hFR.1, fun j hj => (hF.2 j ?_).trans (hFR.2 j hj)⟩, (hF.2 2 (by decide)).trans i2, (hF.2 3 (by decide)).trans i3, e4, e5, e6, e7, e8, e9, e10, e11, e12, e13⟩
      intro q
      exact hj (by simp only [List.mem_cons, List.not_mem_nil, or_false] at q ⊢; omega)
    refine V_iload rfl (by first | rfl | assumption) ?_
    refine V_if_lt rfl (fun h => absurd h (by rw [hc]; exact nI_pos (by omega))) (fun _ => ?_)
    rw [hc] at l5
    refine V_aload_n rfl (by first | rfl | assumption) ?_
    refine V_getf rfl rfl rfl (by repeat (first | exact hup_eq | assumption | refine Eq.trans (hup_ne (by first | assumption | exact Ne.symm (by assumption) | decide)) ?_)) (by first | rfl | assumption) ?_
    refine V_iload rfl (by first | rfl | assumption) ?_
    refine V_iconst (v := 3) rfl (by decide) ?_
    refine V_ishr rfl ?_
    rw [pk_shrN (by omega) _ 3 (by decide), show (2 : Nat) ^ 3 = 8 by decide]
    refine V_ialdN rfl i2 rfl (by omega) (by decide) ?_
    refine V_iload rfl (by first | rfl | assumption) ?_
    refine V_bipush (v := 7) rfl (by decide) ?_
    refine V_iand rfl ?_
    refine V_ishr rfl ?_
    refine V_iconst (v := 1) rfl (by decide) ?_
    refine V_iand rfl ?_
    rw [bitI (hfl _ (by omega)) (by omega), ← hbit]
    refine V_iconst (v := 1) rfl (by decide) ?_
    rw [← hc] at l5
    refine V_icmp_ne rfl (fun h => ?_) (fun h => ?_)
    · have hb0 : ¬ bitf (facf k) (254 - n) = 1 := fun q => h (by rw [q]; rfl)
      rw [if_neg hb0] at hstep
      refine V_aload_n rfl (by first | rfl | assumption) ?_
      refine V_aload_n rfl (by first | rfl | assumption) ?_
      refine V_getf rfl rfl rfl (by repeat (first | exact hup_eq | assumption | refine Eq.trans (hup_ne (by first | assumption | exact Ne.symm (by assumption) | decide)) ?_)) (by first | rfl | assumption) ?_
      refine V_aload_n rfl (by first | rfl | assumption) ?_
      refine V_getf rfl rfl rfl (by repeat (first | exact hup_eq | assumption | refine Eq.trans (hup_ne (by first | assumption | exact Ne.symm (by assumption) | decide)) ?_)) (by first | rfl | assumption) ?_
      refine V_aload_n rfl (by first | rfl | assumption) ?_
      refine V_getf rfl rfl rfl (by repeat (first | exact hup_eq | assumption | refine Eq.trans (hup_ne (by first | assumption | exact Ne.symm (by assumption) | decide)) ?_)) (by first | rfl | assumption) ?_
      refine V_aload_n rfl (by first | rfl | assumption) ?_
      refine V_getf rfl rfl rfl (by repeat (first | exact hup_eq | assumption | refine Eq.trans (hup_ne (by first | assumption | exact Ne.symm (by assumption) | decide)) ?_)) (by first | rfl | assumption) ?_
      refine V_callV (M' := mX0_step) (mc := 0) (ms := 0) (bc' := 0) (bs' := 0) rfl cw_X0_67 iv_X0_step (by repeat (first | exact hup_eq | assumption | refine Eq.trans (hup_ne (by first | assumption | exact Ne.symm (by assumption) | decide)) ?_)) rfl rfl (Nat.le_of_ble_eq_true rfl) ⟨Nat.le_of_ble_eq_true rfl, Nat.le_of_ble_eq_true rfl⟩ ⟨Nat.le_of_ble_eq_true rfl, Nat.le_of_ble_eq_true rfl⟩ (As := [.ref 4, .ref 5, .ref 6, .ref 7]) (c_step0 (Q := fun o G'' => o = .inl none ∧ _) i1 i3 i4 i5 i6 i7 i8 i9 i10 i11 i12 i13 hu2.1 (by rw [hu2.2, ← hUU]) a4 b4 a5 b5 a6 b6 a7 b7 (fun G'' h1 h2 h3 h4 h5 h6 h7 h8 h9 h10 h11 => ⟨rfl, h1, h2, h3, h4, h5, h6, h7, h8, h9, h10, h11⟩)) (fun o G'' h => ?_) (fun E G'' h => by cases h.1)
      obtain ⟨h, h1, h2, h3, h4, h5, h6, h7, h8, h9, h10, h11⟩ := h
      cases h
      exact fin _ _ l0 l4 l5 h1 (by rw [hstep]; exact h2) (by rw [hstep]; exact h3) (by rw [hstep]; exact h4) (by rw [hstep]; exact h5) h6 h7 h8 h9 h10 h11
    · have hb1 : bitf (facf k) (254 - n) = 1 := (nI_eq (b := 1) (by have := Nat.mod_lt (facf k ((254 - n) / 8) / 2 ^ ((254 - n) % 8)) (show 0 < 2 by decide); unfold bitf; omega) (by decide)).mp h
      rw [if_pos hb1] at hstep
      refine V_aload_n rfl (by first | rfl | assumption) ?_
      refine V_aload_n rfl (by first | rfl | assumption) ?_
      refine V_getf rfl rfl rfl (by repeat (first | exact hup_eq | assumption | refine Eq.trans (hup_ne (by first | assumption | exact Ne.symm (by assumption) | decide)) ?_)) (by first | rfl | assumption) ?_
      refine V_aload_n rfl (by first | rfl | assumption) ?_
      refine V_getf rfl rfl rfl (by repeat (first | exact hup_eq | assumption | refine Eq.trans (hup_ne (by first | assumption | exact Ne.symm (by assumption) | decide)) ?_)) (by first | rfl | assumption) ?_
      refine V_aload_n rfl (by first | rfl | assumption) ?_
      refine V_getf rfl rfl rfl (by repeat (first | exact hup_eq | assumption | refine Eq.trans (hup_ne (by first | assumption | exact Ne.symm (by assumption) | decide)) ?_)) (by first | rfl | assumption) ?_
      refine V_aload_n rfl (by first | rfl | assumption) ?_
      refine V_getf rfl rfl rfl (by repeat (first | exact hup_eq | assumption | refine Eq.trans (hup_ne (by first | assumption | exact Ne.symm (by assumption) | decide)) ?_)) (by first | rfl | assumption) ?_
      refine V_callV (M' := mX0_step) (mc := 0) (ms := 0) (bc' := 0) (bs' := 0) rfl cw_X0_67 iv_X0_step (by repeat (first | exact hup_eq | assumption | refine Eq.trans (hup_ne (by first | assumption | exact Ne.symm (by assumption) | decide)) ?_)) rfl rfl (Nat.le_of_ble_eq_true rfl) ⟨Nat.le_of_ble_eq_true rfl, Nat.le_of_ble_eq_true rfl⟩ ⟨Nat.le_of_ble_eq_true rfl, Nat.le_of_ble_eq_true rfl⟩ (As := [.ref 6, .ref 7, .ref 4, .ref 5]) (c_step1 (Q := fun o G'' => o = .inl none ∧ _) i1 i3 i4 i5 i6 i7 i8 i9 i10 i11 i12 i13 hu2.1 (by rw [hu2.2, ← hUU]) a6 b6 a7 b7 a4 b4 a5 b5 (fun G'' h1 h2 h3 h4 h5 h6 h7 h8 h9 h10 h11 => ⟨rfl, h1, h2, h3, h4, h5, h6, h7, h8, h9, h10, h11⟩)) (fun o G'' h => ?_) (fun E G'' h => by cases h.1)
      obtain ⟨h, h1, h2, h3, h4, h5, h6, h7, h8, h9, h10, h11⟩ := h
      cases h
      refine V_goto rfl ?_
      exact fin _ _ l0 l4 l5 h1 (by rw [hstep]; exact h4) (by rw [hstep]; exact h5) (by rw [hstep]; exact h2) (by rw [hstep]; exact h3) h6 h7 h8 h9 h10 h11
  · rintro lc G' ⟨l0, l4, l5, hFR, i2, i3, ⟨v4, i4, a4, b4⟩, ⟨v5, i5, a5, b5⟩, ⟨v6, i6, a6, b6⟩, ⟨v7, i7, a7, b7⟩, ⟨v8, i8⟩, ⟨v9, i9⟩, ⟨v10', i10⟩, ⟨v11, i11⟩, ⟨v12, i12⟩, ⟨v13, i13⟩⟩
    have i1 : G'.1 1 = some (.inr (0, [.ref 2, .ref 3, .ref 4, .ref 5, .ref 6, .ref 7, .ref 8, .ref 9, .ref 10, .ref 11, .ref 12, .ref 13])) := (hFR.2 1 (by decide)).trans g1
    have ires : G'.1 res = some (BA Nr o) := (hFR.2 res (by simp only [List.mem_cons, List.not_mem_nil, or_false]; omega)).trans hr
    have hnr8 : res ≠ 8 := by omega
    have hnr13 : res ≠ 13 := by omega
    refine V_iload rfl (by first | rfl | assumption) ?_
    refine V_if_lt rfl (fun _ => ?_) (fun h => absurd (by decide) h)
    refine V_aload_n rfl (by first | rfl | assumption) ?_
    refine V_aload_n rfl (by first | rfl | assumption) ?_
    refine V_getf rfl rfl rfl (by repeat (first | exact hup_eq | assumption | refine Eq.trans (hup_ne (by first | assumption | exact Ne.symm (by assumption) | decide)) ?_)) (by first | rfl | assumption) ?_
    refine V_aload_n rfl (by first | rfl | assumption) ?_
    refine V_getf rfl rfl rfl (by repeat (first | exact hup_eq | assumption | refine Eq.trans (hup_ne (by first | assumption | exact Ne.symm (by assumption) | decide)) ?_)) (by first | rfl | assumption) ?_
    refine V_callV (M' := mX0_invert) (mc := 0) (ms := 0) (bc' := 0) (bs' := 0) rfl cw_X0_71 iv_X0_invert (by repeat (first | exact hup_eq | assumption | refine Eq.trans (hup_ne (by first | assumption | exact Ne.symm (by assumption) | decide)) ?_)) rfl rfl (Nat.le_of_ble_eq_true rfl) ⟨Nat.le_of_ble_eq_true rfl, Nat.le_of_ble_eq_true rfl⟩ ⟨Nat.le_of_ble_eq_true rfl, Nat.le_of_ble_eq_true rfl⟩ (As := [.ref 5, .ref 8]) (c_invert (Q := fun o G'' => o = .inl none ∧ ∃ w' x, fB x ∧ v10 x % PP = ivP (v10 v5) 254 ∧ G'' = hup (hup G' 13 (LA 20 w')) 8 (LA 10 x)) i1 rfl i5 i8 i13 a5 (fun w' x q1 q2 => ⟨rfl, w', x, q1, q2, rfl⟩)) (fun o G'' h => ?_) (fun E G'' h => by cases h.1)
    obtain ⟨h, w1, x1, hx1, hv1, rfl⟩ := h
    cases h
    refine V_aload_n rfl (by first | rfl | assumption) ?_
    refine V_aload_n rfl (by first | rfl | assumption) ?_
    refine V_getf rfl rfl rfl (by repeat (first | exact hup_eq | assumption | refine Eq.trans (hup_ne (by first | assumption | exact Ne.symm (by assumption) | decide)) ?_)) (by first | rfl | assumption) ?_
    refine V_aload_n rfl (by first | rfl | assumption) ?_
    refine V_getf rfl rfl rfl (by repeat (first | exact hup_eq | assumption | refine Eq.trans (hup_ne (by first | assumption | exact Ne.symm (by assumption) | decide)) ?_)) (by first | rfl | assumption) ?_
    refine V_aload_n rfl (by first | rfl | assumption) ?_
    refine V_getf rfl rfl rfl (by repeat (first | exact hup_eq | assumption | refine Eq.trans (hup_ne (by first | assumption | exact Ne.symm (by assumption) | decide)) ?_)) (by first | rfl | assumption) ?_
    refine V_callV (M' := mX0_product) (mc := 0) (ms := 0) (bc' := 0) (bs' := 0) rfl cw_X0_75 iv_X0_product (by repeat (first | exact hup_eq | assumption | refine Eq.trans (hup_ne (by first | assumption | exact Ne.symm (by assumption) | decide)) ?_)) rfl rfl (Nat.le_of_ble_eq_true rfl) ⟨Nat.le_of_ble_eq_true rfl, Nat.le_of_ble_eq_true rfl⟩ ⟨Nat.le_of_ble_eq_true rfl, Nat.le_of_ble_eq_true rfl⟩ (As := [.ref 8, .ref 4, .ref 8]) (c_product (Q := fun o G'' => o = .inl none ∧ ∃ w' z', fA z' ∧ v10 z' % PP = mulP (lad UU (facf k) 255).1 (ivP (v10 v5) 254) ∧ G'' = hup (hup G' 13 (LA 20 w')) 8 (LA 10 z')) i1 rfl (by rfl) (by rfl) (by exact i4) (by rfl) (by decide) a4.B hx1 (fun w' z' q1 q2 => ⟨rfl, w', z', q1, mulP_of q2 b4 hv1, by rw [hup4 (by decide)]⟩)) (fun o G'' h => ?_) (fun E G'' h => by cases h.1)
    obtain ⟨h, w2, x2, hx2, hv2, rfl⟩ := h
    cases h
    refine V_aload_n rfl (by first | rfl | assumption) ?_
    refine V_getf rfl rfl rfl (by repeat (first | exact hup_eq | assumption | refine Eq.trans (hup_ne (by first | assumption | exact Ne.symm (by assumption) | decide)) ?_)) (by first | rfl | assumption) ?_
    refine V_callS (M' := mX0_settle) (mc := 0) (ms := 0) (bc' := 0) (bs' := 0) rfl cw_X0_79 is_X0_settle rfl (Nat.le_of_ble_eq_true rfl) ⟨Nat.le_of_ble_eq_true rfl, Nat.le_of_ble_eq_true rfl⟩ ⟨Nat.le_of_ble_eq_true rfl, Nat.le_of_ble_eq_true rfl⟩ (As := [.ref 8]) (c_settle (Q := fun o G'' => o = .inl none ∧ G'' = hup (hup G' 13 (LA 20 w2)) 8 (LA 10 (seR x2))) (by rfl) hx2 ⟨rfl, by rw [hup_hup]⟩) (fun o G'' h => ?_) (fun E G'' h => by cases h.1)
    obtain ⟨h, rfl⟩ := h
    cases h
    obtain ⟨-, e1, e2, e3⟩ := seR_ok hx2
    have hlim : ∀ j, j < 10 → seR x2 j < 2 ^ 26 := fun j hj => by
      rcases Nat.lt_or_ge j 9 with q | q
      · exact e2 j q
      · have : j = 9 := by omega
        subst this; omega
    refine V_aload_n rfl (by first | rfl | assumption) ?_
    refine V_getf rfl rfl rfl (by repeat (first | exact hup_eq | assumption | refine Eq.trans (hup_ne (by first | assumption | exact Ne.symm (by assumption) | decide)) ?_)) (by first | rfl | assumption) ?_
    refine V_aload rfl (by first | rfl | assumption) ?_
    refine V_bipush (v := 32) rfl (by decide) ?_
    refine V_callS (M' := mX5_write) (mc := 0) (ms := 0) (bc' := 0) (bs' := 0) rfl cw_X0_83 is_X5_write rfl (Nat.le_of_ble_eq_true rfl) ⟨Nat.le_of_ble_eq_true rfl, Nat.le_of_ble_eq_true rfl⟩ ⟨Nat.le_of_ble_eq_true rfl, Nat.le_of_ble_eq_true rfl⟩ (As := [.ref 8, .ref res, .int (nI 32)]) (c_write (Q := fun o G'' => o = .inl none ∧ G'' = hup (hup (hup G' 13 (LA 20 w2)) 8 (LA 10 (seR x2))) res (BA Nr (wrS (seR x2) 32 o 10).2.2.2)) (by rfl) (by rw [hup_ne hnr8, hup_ne hnr13]; exact ires) hNr.1 hNr.2 (by decide) hlim (by decide) ⟨rfl, rfl⟩) (fun o G'' h => ?_) (fun E G'' h => by cases h.1)
    obtain ⟨h, rfl⟩ := h
    cases h
    obtain ⟨q1, q2, q3, q4, q5, q6, q7⟩ := wrS_ok (o := o) hlim (c := 32) (by decide) 10 (Nat.le_refl _)
    generalize hwo : (wrS (seR x2) 32 o 10).2.2.2 = wo at *
    have ha32 : (wrS (seR x2) 32 o 10).2.2.1 = 32 := by omega
    have ht4 : (wrS (seR x2) 32 o 10).2.1 = 4 := by omega
    rw [ha32] at q5 q6 q7
    rw [ht4] at q1
    have hmul : v10 (seR x2) = MULT k (fun j => b (s + j)) := by
      rw [e1, hv2]
      unfold MULT
      rw [← hUU, ← b5, ivP_mod]
    have hval : vs 256 wo 32 = MULT k (fun j => b (s + j)) := by
      have hm := MULT_lt k (fun j => b (s + j))
      rw [← hmul] at hm ⊢
      have q5' : vs 256 wo 32 + (wrS (seR x2) 32 o 10).1 * 256 ^ 32 = v10 (seR x2) := q5
      have hz : (wrS (seR x2) 32 o 10).1 = 0 := by
        rcases Nat.eq_zero_or_pos (wrS (seR x2) 32 o 10).1 with z | z
        · exact z
        · have : 1 * 256 ^ 32 ≤ (wrS (seR x2) 32 o 10).1 * 256 ^ 32 := Nat.mul_le_mul_right _ z
          simp only [PP] at hm
          omega
      rw [hz, Nat.zero_mul, Nat.add_zero] at q5'
      exact q5'
    have hfin : wo = fun j => if j < 32 then MULT k (fun j => b (s + j)) / 256 ^ j % 256 else o j := by
      funext j
      by_cases hj : j < 32
      · simp only [hj, if_true]
        exact dig_uniq (by decide) q6 hval j hj
      · simp only [hj, if_false]
        exact q7 j hj
    rw [hfin]
    refine V_vret rfl rfl (hq _ ⟨hFR.1, fun j hj => ?_⟩ ⟨?_, ⟨fac, ?_⟩, fun r hr9 => ?_, ⟨w2, ?_⟩⟩ hup_eq)
    · simp only [List.mem_cons, List.not_mem_nil, or_false, not_or] at hj
      rw [hup_ne (by omega), hup_ne (by omega), hup_ne (by omega)]
      exact hFR.2 j (by simp only [List.mem_cons, List.not_mem_nil, or_false]; omega)
    · rw [hup_ne (by omega), hup_ne (by omega), hup_ne (by omega)]; exact i1
    · rw [hup_ne (by omega), hup_ne (by omega), hup_ne (by omega)]; exact i2
    · simp only [List.mem_cons, List.not_mem_nil, or_false] at hr9
      rcases hr9 with rfl | rfl | rfl | rfl | rfl | rfl | rfl | rfl | rfl | rfl
      · exact ⟨_, (hup_ne (by omega)).trans i3⟩
      · exact ⟨_, (hup_ne (by omega)).trans i4⟩
      · exact ⟨_, (hup_ne (by omega)).trans i5⟩
      · exact ⟨_, (hup_ne (by omega)).trans i6⟩
      · exact ⟨_, (hup_ne (by omega)).trans i7⟩
      · exact ⟨_, (hup_ne (by omega)).trans rfl⟩
      · exact ⟨_, (hup_ne (by omega)).trans i9⟩
      · exact ⟨_, (hup_ne (by omega)).trans i10⟩
      · exact ⟨_, (hup_ne (by omega)).trans i11⟩
      · exact ⟨_, (hup_ne (by omega)).trans i12⟩
    · exact (hup_ne (by omega)).trans rfl
  · simp only [List.mem_cons, List.not_mem_nil, or_false, not_or] at hj
    obtain ⟨j2, j3, j4, j5, j6, j7, j8, j9, j10, j11, j12, j13⟩ := hj
    rw [hup_ne j7, hup_ne j6, hup_ne j5, hup_ne j4, hup_ne j3, hup_ne j2]

end CTimes
