section CTimes
variable {K : kK} {G : kG} {Q : kO → kG → Prop}
/-! MULTIPLY, modulo P -/
def facf (k : Nat → Nat) (j : Nat) : Nat := if j = 0 then k 0 &&& 248 else if j = 31 then (k 31 &&& 127) ||| 64 else k j
def bitf (fac : Nat → Nat) (t : Nat) : Nat := fac (t / 8) / 2 ^ (t % 8) % 2
def uval (u : Nat → Nat) : Nat := vs 256 u 32 % 2 ^ 255
def lad (u : Nat) (fac : Nat → Nat) : Nat → Nat × Nat × Nat × Nat
  | 0 => (1, 0, u, 1)
  | n + 1 =>
    if bitf fac (254 - n) = 1 then
      (stX3 (lad u fac n).2.2.1 (lad u fac n).2.2.2 (lad u fac n).1 (lad u fac n).2.1, stZ3 u (lad u fac n).2.2.1 (lad u fac n).2.2.2 (lad u fac n).1 (lad u fac n).2.1, stX2 (lad u fac n).2.2.1 (lad u fac n).2.2.2, stZ2 (lad u fac n).2.2.1 (lad u fac n).2.2.2)
    else
      (stX2 (lad u fac n).1 (lad u fac n).2.1, stZ2 (lad u fac n).1 (lad u fac n).2.1, stX3 (lad u fac n).1 (lad u fac n).2.1 (lad u fac n).2.2.1 (lad u fac n).2.2.2, stZ3 u (lad u fac n).1 (lad u fac n).2.1 (lad u fac n).2.2.1 (lad u fac n).2.2.2)
theorem lad_s (u : Nat) (fac : Nat → Nat) (n : Nat) : lad u fac (n + 1) = if bitf fac (254 - n) = 1 then
      (stX3 (lad u fac n).2.2.1 (lad u fac n).2.2.2 (lad u fac n).1 (lad u fac n).2.1, stZ3 u (lad u fac n).2.2.1 (lad u fac n).2.2.2 (lad u fac n).1 (lad u fac n).2.1, stX2 (lad u fac n).2.2.1 (lad u fac n).2.2.2, stZ2 (lad u fac n).2.2.1 (lad u fac n).2.2.2)
    else
      (stX2 (lad u fac n).1 (lad u fac n).2.1, stZ2 (lad u fac n).1 (lad u fac n).2.1, stX3 (lad u fac n).1 (lad u fac n).2.1 (lad u fac n).2.2.1 (lad u fac n).2.2.2, stZ3 u (lad u fac n).1 (lad u fac n).2.1 (lad u fac n).2.2.1 (lad u fac n).2.2.2) := rfl
/-- the product of a factor's bytes and a point's bytes: a number below P -/
def MULT (k u : Nat → Nat) : Nat := mulP (lad (uval u % PP) (facf k) 255).1 (ivP (lad (uval u % PP) (facf k) 255).2.1 254)
theorem MULT_lt (k u : Nat → Nat) : MULT k u < PP := Nat.mod_lt _ (by decide)
/-- the rows of the curve's object -/
def crv (G : kG) : Prop := G.1 1 = some (.inr (0, [.ref 2, .ref 3, .ref 4, .ref 5, .ref 6, .ref 7, .ref 8, .ref 9, .ref 10, .ref 11, .ref 12, .ref 13])) ∧ (∃ f, G.1 2 = some (BA 32 f)) ∧ (∀ r, r ∈ [3, 4, 5, 6, 7, 8, 9, 10, 11, 12] → ∃ z, G.1 r = some (LA 10 z)) ∧ ∃ w, G.1 13 = some (LA 20 w)
theorem mulP_r (a b : Nat) : mulP a (b % PP) = mulP a b := by
  unfold mulP
  rw [Nat.mul_mod_mod]
theorem ivP_mod (z : Nat) : ∀ n, ivP (z % PP) n = ivP z n
  | 0 => by simp [ivP]
  | n + 1 => by
    simp only [ivP]
    rw [ivP_mod z n]
    split
    · rfl
    · exact mulP_r _ z
theorem dig_uniq {B V : Nat} (hB : 0 < B) {o : Nat → Nat} : ∀ {n : Nat}, (∀ j, j < n → o j < B) → vs B o n = V → ∀ j, j < n → o j = V / B ^ j % B := by
  intro n
  induction n generalizing V with
  | zero => intro _ _ j hj; omega
  | succ n ih =>
    intro ho hv j hj
    have h1 : vs B o n < B ^ n := vs_lt hB (fun j hj => ho j (by omega))
    simp only [vs] at hv
    by_cases hjn : j = n
    · subst hjn
      rw [← hv, Nat.add_mul_div_right _ _ (Nat.pow_pos hB), Nat.div_eq_of_lt h1, Nat.zero_add, Nat.mod_eq_of_lt (ho j (by omega))]
    · have h2 := ih (V := vs B o n) (fun j hj => ho j (by omega)) rfl j (by omega)
      rw [h2, ← hv]
      obtain ⟨e, he⟩ : ∃ e, n = j + (e + 1) := ⟨n - j - 1, by omega⟩
      have hp : o n * B ^ n = o n * B ^ e * B * B ^ j := by
        rw [he, Nat.pow_add, Nat.pow_succ, ← Nat.mul_assoc (o _), Nat.mul_right_comm, ← Nat.mul_assoc]
      rw [hp, Nat.add_mul_div_right _ _ (Nat.pow_pos hB), Nat.add_mul_mod_self_right]
theorem land248 (a : Nat) : nI a &&& 248 = nI (a &&& 248) := by
  apply Int32.toBitVec_inj.mp
  show BitVec.ofNat 32 a &&& BitVec.ofNat 32 248 = BitVec.ofNat 32 (a &&& 248)
  apply BitVec.eq_of_toNat_eq
  simp [BitVec.toNat_and, BitVec.toNat_ofNat, Nat.and_mod_two_pow]
theorem land127 (a : Nat) : nI a &&& 127 = nI (a &&& 127) := by
  apply Int32.toBitVec_inj.mp
  show BitVec.ofNat 32 a &&& BitVec.ofNat 32 127 = BitVec.ofNat 32 (a &&& 127)
  apply BitVec.eq_of_toNat_eq
  simp [BitVec.toNat_and, BitVec.toNat_ofNat, Nat.and_mod_two_pow]
theorem lor64 (a : Nat) : nI a ||| 64 = nI (a ||| 64) := by
  apply Int32.toBitVec_inj.mp
  show BitVec.ofNat 32 a ||| BitVec.ofNat 32 64 = BitVec.ofNat 32 (a ||| 64)
  apply BitVec.eq_of_toNat_eq
  simp [BitVec.toNat_or, BitVec.toNat_ofNat, Nat.or_mod_two_pow]
theorem bitI {F t : Nat} (hF : F < 256) (ht : t < 256) : (nI F >>> ((nI t &&& 7) &&& 31)) &&& 1 = nI (F / 2 ^ (t % 8) % 2) := by
  have e1 : nI t &&& 7 = nI (t % 2 ^ 3) := pk_andN (by omega) 3 (by decide)
  have h8 : t % 2 ^ 3 < 8 := Nat.mod_lt _ (by decide)
  have e2 : ∀ m, m < 8 → ((nI m &&& 31).toBitVec.smod 32).toNat = m := by decide
  rw [e1, pk_shrN (by omega) _ (t % 2 ^ 3) (e2 _ h8), pk_andN (Nat.lt_of_le_of_lt (Nat.div_le_self _ _) (by omega)) 1 (by decide)]
theorem facf_lt {k : Nat → Nat} (h : ∀ j, j < 32 → k j < 256) : ∀ j, j < 32 → facf k j < 256 := by
  intro j hj
  unfold facf
  split
  · exact Nat.lt_of_le_of_lt Nat.and_le_left (h 0 (by decide))
  · split
    · exact Nat.or_lt_two_pow (n := 8) (Nat.lt_of_le_of_lt Nat.and_le_left (h 31 (by decide))) (by decide)
    · exact h j hj
def tmI (G : kG) (res : Nat) (fac k U2 : Nat → Nat) (UU n : Nat) (lc : kLo) (G' : kG) : Prop := lc 0 = some (.ref 1) ∧ lc 4 = some (.ref res) ∧ lc 5 = some (.int (cnt 254 n)) ∧ FR [2, 3, 4, 5, 6, 7, 8, 9, 10, 11, 12, 13] G G' ∧ G'.1 2 = some (BA 32 fac) ∧ G'.1 3 = some (LA 10 U2) ∧ LAr G' 4 (lad UU (facf k) n).1 ∧ LAr G' 5 (lad UU (facf k) n).2.1 ∧ LAr G' 6 (lad UU (facf k) n).2.2.1 ∧ LAr G' 7 (lad UU (facf k) n).2.2.2 ∧ (∃ z, G'.1 8 = some (LA 10 z)) ∧ (∃ z, G'.1 9 = some (LA 10 z)) ∧ (∃ z, G'.1 10 = some (LA 10 z)) ∧ (∃ z, G'.1 11 = some (LA 10 z)) ∧ (∃ z, G'.1 12 = some (LA 10 z)) ∧ ∃ z, G'.1 13 = some (LA 20 z)
set_option maxHeartbeats 40000000 in
set_option maxRecDepth 20000 in
theorem V_times112 {res Nr UU : Nat} {k fac U2 u o : Nat → Nat} {lc0 : kLo} {G0 : kG} (g1 : G.1 1 = some (.inr (0, [.ref 2, .ref 3, .ref 4, .ref 5, .ref 6, .ref 7, .ref 8, .ref 9, .ref 10, .ref 11, .ref 12, .ref 13]))) (hfc : ∀ j, j < 32 → fac j = facf k j) (hfl : ∀ j, j < 32 → fac j < 256) (hu2 : fA U2 ∧ v10 U2 = uval u) (hUU : UU = uval u % PP) (hr : G.1 res = some (BA Nr o)) (hr0 : 13 < res) (hNr : 32 ≤ Nr ∧ Nr < 2 ^ 20) (hI : tmI G res fac k U2 UU 0 lc0 G0)
    (hq : ∀ G', FR [2, 3, 4, 5, 6, 7, 8, 9, 10, 11, 12, 13, res] G G' → crv G' → G'.1 res = some (BA Nr (fun j => if j < 32 then MULT k u / 256 ^ j % 256 else o j)) → Q (.inl none) G') : V K 0 0 mX0_times 112 lc0 [] G0 Q := by
  refine V_loop 255 (tmI G res fac k U2 UU) ?_ ?_ 0 _ _ (Nat.zero_le _) hI
  · rintro n lc G' hn ⟨l0, l4, l5, hFR, i2, i3, ⟨v4, i4, a4, b4⟩, ⟨v5, i5, a5, b5⟩, ⟨v6, i6, a6, b6⟩, ⟨v7, i7, a7, b7⟩, ⟨v8, i8⟩, ⟨v9, i9⟩, ⟨v10', i10⟩, ⟨v11, i11⟩, ⟨v12, i12⟩, ⟨v13, i13⟩⟩ ih
    have i1 : G'.1 1 = some (.inr (0, [.ref 2, .ref 3, .ref 4, .ref 5, .ref 6, .ref 7, .ref 8, .ref 9, .ref 10, .ref 11, .ref 12, .ref 13])) := (hFR.2 1 (by decide)).trans g1
    have hc : cnt 254 n = nI (254 - n) := by unfold cnt; rw [if_pos (by omega)]
    have hstep := lad_s UU (facf k) n
    have hbit : bitf (facf k) (254 - n) = fac ((254 - n) / 8) / 2 ^ ((254 - n) % 8) % 2 := by unfold bitf; rw [hfc _ (by omega)]
    have fin : ∀ (lc : kLo) (G'' : kG), lc 0 = some (.ref 1) → lc 4 = some (.ref res) → lc 5 = some (.int (cnt 254 n)) → FR [4, 5, 6, 7, 8, 9, 10, 11, 12, 13] G' G'' → LAr G'' 4 (lad UU (facf k) (n + 1)).1 → LAr G'' 5 (lad UU (facf k) (n + 1)).2.1 → LAr G'' 6 (lad UU (facf k) (n + 1)).2.2.1 → LAr G'' 7 (lad UU (facf k) (n + 1)).2.2.2 → (∃ z, G''.1 8 = some (LA 10 z)) → (∃ z, G''.1 9 = some (LA 10 z)) → (∃ z, G''.1 10 = some (LA 10 z)) → (∃ z, G''.1 11 = some (LA 10 z)) → (∃ z, G''.1 12 = some (LA 10 z)) → (∃ z, G''.1 13 = some (LA 20 z)) → V K 0 0 mX0_times 181 lc [] G'' Q := by
      intro lc G'' l0 l4 l5 hF e4 e5 e6 e7 e8 e9 e10 e11 e12 e13
      refine V_iinc (v := cnt 254 (n + 1)) rfl (by first | rfl | assumption) (cnt_s (by omega)) (by decide) ?_
      refine V_goto rfl ?_
      refine ih _ _ ⟨l0, l4, rfl, ⟨hF.1.trans hFR.1, fun j hj => (hF.2 j ?_).trans (hFR.2 j hj)⟩, (hF.2 2 (by decide)).trans i2, (hF.2 3 (by decide)).trans i3, e4, e5, e6, e7, e8, e9, e10, e11, e12, e13⟩
      intro q
      exact hj (by simp only [List.mem_cons, List.not_mem_nil, or_false] at q ⊢; omega)
    refine V_iload rfl (by first | rfl | assumption) ?_
    refine V_if_lt rfl (fun h => absurd h (by rw [hc]; exact nI_pos (by omega))) (fun _ => ?_)
    rw [hc] at l5
    refine V_aload_n rfl (by first | rfl | assumption) ?_
    refine V_getf rfl rfl rfl (by repeat (first | exact hup_eq | assumption | refine Eq.trans (hup_ne (by first | assumption | exact Ne.symm (by assumption) | decide)) ?_)) (by first | rfl | assumption) ?_
    refine V_iload rfl (by first | rfl | assumption) ?_
    refine V_iconst (v := 3) rfl (by decide) ?_
    refine V_ishr rfl ?_
    rw [pk_shrN (by omega) _ 3 (by decide), show (2 : Nat) ^ 3 = 8 by decide]
    refine V_ialdN rfl i2 rfl (by omega) (by decide) ?_
    refine V_iload rfl (by first | rfl | assumption) ?_
    refine V_bipush (v := 7) rfl (by decide) ?_
    refine V_iand rfl ?_
    refine V_ishr rfl ?_
    refine V_iconst (v := 1) rfl (by decide) ?_
    refine V_iand rfl ?_
    rw [bitI (hfl _ (by omega)) (by omega), ← hbit]
    refine V_iconst (v := 1) rfl (by decide) ?_
    rw [← hc] at l5
    refine V_icmp_ne rfl (fun h => ?_) (fun h => ?_)
    · have hb0 : ¬ bitf (facf k) (254 - n) = 1 := fun q => h (by rw [q]; rfl)
      rw [if_neg hb0] at hstep
      refine V_aload_n rfl (by first | rfl | assumption) ?_
      refine V_aload_n rfl (by first | rfl | assumption) ?_
      refine V_getf rfl rfl rfl (by repeat (first | exact hup_eq | assumption | refine Eq.trans (hup_ne (by first | assumption | exact Ne.symm (by assumption) | decide)) ?_)) (by first | rfl | assumption) ?_
      refine V_aload_n rfl (by first | rfl | assumption) ?_
      refine V_getf rfl rfl rfl (by repeat (first | exact hup_eq | assumption | refine Eq.trans (hup_ne (by first | assumption | exact Ne.symm (by assumption) | decide)) ?_)) (by first | rfl | assumption) ?_
      refine V_aload_n rfl (by first | rfl | assumption) ?_
      refine V_getf rfl rfl rfl (by repeat (first | exact hup_eq | assumption | refine Eq.trans (hup_ne (by first | assumption | exact Ne.symm (by assumption) | decide)) ?_)) (by first | rfl | assumption) ?_
      refine V_aload_n rfl (by first | rfl | assumption) ?_
      refine V_getf rfl rfl rfl (by repeat (first | exact hup_eq | assumption | refine Eq.trans (hup_ne (by first | assumption | exact Ne.symm (by assumption) | decide)) ?_)) (by first | rfl | assumption) ?_
      refine V_callV (M' := mX0_step) (mc := 0) (ms := 0) (bc' := 0) (bs' := 0) rfl cw_X0_67 iv_X0_step (by repeat (first | exact hup_eq | assumption | refine Eq.trans (hup_ne (by first | assumption | exact Ne.symm (by assumption) | decide)) ?_)) rfl rfl (Nat.le_of_ble_eq_true rfl) ⟨Nat.le_of_ble_eq_true rfl, Nat.le_of_ble_eq_true rfl⟩ ⟨Nat.le_of_ble_eq_true rfl, Nat.le_of_ble_eq_true rfl⟩ (As := [.ref 4, .ref 5, .ref 6, .ref 7]) (c_step0 (Q := fun oc G'' => oc = .inl none ∧ FR [4, 5, 6, 7, 8, 9, 10, 11, 12, 13] G' G'' ∧ LAr G'' 4 (stX2 (lad UU (facf k) n).1 (lad UU (facf k) n).2.1) ∧ LAr G'' 5 (stZ2 (lad UU (facf k) n).1 (lad UU (facf k) n).2.1) ∧ LAr G'' 6 (stX3 (lad UU (facf k) n).1 (lad UU (facf k) n).2.1 (lad UU (facf k) n).2.2.1 (lad UU (facf k) n).2.2.2) ∧ LAr G'' 7 (stZ3 UU (lad UU (facf k) n).1 (lad UU (facf k) n).2.1 (lad UU (facf k) n).2.2.1 (lad UU (facf k) n).2.2.2) ∧ (∃ z, G''.1 8 = some (LA 10 z)) ∧ (∃ z, G''.1 9 = some (LA 10 z)) ∧ (∃ z, G''.1 10 = some (LA 10 z)) ∧ (∃ z, G''.1 11 = some (LA 10 z)) ∧ (∃ z, G''.1 12 = some (LA 10 z)) ∧ (∃ z, G''.1 13 = some (LA 20 z))) i1 i3 i4 i5 i6 i7 i8 i9 i10 i11 i12 i13 hu2.1 (by rw [hu2.2, ← hUU]) a4 b4 a5 b5 a6 b6 a7 b7 (fun G'' h1 h2 h3 h4 h5 h6 h7 h8 h9 h10 h11 => ⟨rfl, h1, h2, h3, h4, h5, h6, h7, h8, h9, h10, h11⟩)) (fun o G'' h => ?_) (fun E G'' h => by cases h.1)
      obtain ⟨h, h1, h2, h3, h4, h5, h6, h7, h8, h9, h10, h11⟩ := h
      cases h
      exact fin _ _ l0 l4 l5 h1 (by rw [hstep]; exact h2) (by rw [hstep]; exact h3) (by rw [hstep]; exact h4) (by rw [hstep]; exact h5) h6 h7 h8 h9 h10 h11
    · have hb1 : bitf (facf k) (254 - n) = 1 := (nI_eq (b := 1) (by have := Nat.mod_lt (facf k ((254 - n) / 8) / 2 ^ ((254 - n) % 8)) (show 0 < 2 by decide); unfold bitf; omega) (by decide)).mp h
      rw [if_pos hb1] at hstep
      refine V_aload_n rfl (by first | rfl | assumption) ?_
      refine V_aload_n rfl (by first | rfl | assumption) ?_
      refine V_getf rfl rfl rfl (by repeat (first | exact hup_eq | assumption | refine Eq.trans (hup_ne (by first | assumption | exact Ne.symm (by assumption) | decide)) ?_)) (by first | rfl | assumption) ?_
      refine V_aload_n rfl (by first | rfl | assumption) ?_
      refine V_getf rfl rfl rfl (by repeat (first | exact hup_eq | assumption | refine Eq.trans (hup_ne (by first | assumption | exact Ne.symm (by assumption) | decide)) ?_)) (by first | rfl | assumption) ?_
      refine V_aload_n rfl (by first | rfl | assumption) ?_
      refine V_getf rfl rfl rfl (by repeat (first | exact hup_eq | assumption | refine Eq.trans (hup_ne (by first | assumption | exact Ne.symm (by assumption) | decide)) ?_)) (by first | rfl | assumption) ?_
      refine V_aload_n rfl (by first | rfl | assumption) ?_
      refine V_getf rfl rfl rfl (by repeat (first | exact hup_eq | assumption | refine Eq.trans (hup_ne (by first | assumption | exact Ne.symm (by assumption) | decide)) ?_)) (by first | rfl | assumption) ?_
      refine V_callV (M' := mX0_step) (mc := 0) (ms := 0) (bc' := 0) (bs' := 0) rfl cw_X0_67 iv_X0_step (by repeat (first | exact hup_eq | assumption | refine Eq.trans (hup_ne (by first | assumption | exact Ne.symm (by assumption) | decide)) ?_)) rfl rfl (Nat.le_of_ble_eq_true rfl) ⟨Nat.le_of_ble_eq_true rfl, Nat.le_of_ble_eq_true rfl⟩ ⟨Nat.le_of_ble_eq_true rfl, Nat.le_of_ble_eq_true rfl⟩ (As := [.ref 6, .ref 7, .ref 4, .ref 5]) (c_step1 (Q := fun oc G'' => oc = .inl none ∧ FR [4, 5, 6, 7, 8, 9, 10, 11, 12, 13] G' G'' ∧ LAr G'' 6 (stX2 (lad UU (facf k) n).2.2.1 (lad UU (facf k) n).2.2.2) ∧ LAr G'' 7 (stZ2 (lad UU (facf k) n).2.2.1 (lad UU (facf k) n).2.2.2) ∧ LAr G'' 4 (stX3 (lad UU (facf k) n).2.2.1 (lad UU (facf k) n).2.2.2 (lad UU (facf k) n).1 (lad UU (facf k) n).2.1) ∧ LAr G'' 5 (stZ3 UU (lad UU (facf k) n).2.2.1 (lad UU (facf k) n).2.2.2 (lad UU (facf k) n).1 (lad UU (facf k) n).2.1) ∧ (∃ z, G''.1 8 = some (LA 10 z)) ∧ (∃ z, G''.1 9 = some (LA 10 z)) ∧ (∃ z, G''.1 10 = some (LA 10 z)) ∧ (∃ z, G''.1 11 = some (LA 10 z)) ∧ (∃ z, G''.1 12 = some (LA 10 z)) ∧ (∃ z, G''.1 13 = some (LA 20 z))) i1 i3 i4 i5 i6 i7 i8 i9 i10 i11 i12 i13 hu2.1 (by rw [hu2.2, ← hUU]) a6 b6 a7 b7 a4 b4 a5 b5 (fun G'' h1 h2 h3 h4 h5 h6 h7 h8 h9 h10 h11 => ⟨rfl, h1, h2, h3, h4, h5, h6, h7, h8, h9, h10, h11⟩)) (fun o G'' h => ?_) (fun E G'' h => by cases h.1)
      obtain ⟨h, h1, h2, h3, h4, h5, h6, h7, h8, h9, h10, h11⟩ := h
      cases h
      refine V_goto rfl ?_
      exact fin _ _ l0 l4 l5 h1 (by rw [hstep]; exact h4) (by rw [hstep]; exact h5) (by rw [hstep]; exact h2) (by rw [hstep]; exact h3) h6 h7 h8 h9 h10 h11
  · rintro lc G' ⟨l0, l4, l5, hFR, i2, i3, ⟨v4, i4, a4, b4⟩, ⟨v5, i5, a5, b5⟩, ⟨v6, i6, a6, b6⟩, ⟨v7, i7, a7, b7⟩, ⟨v8, i8⟩, ⟨v9, i9⟩, ⟨v10', i10⟩, ⟨v11, i11⟩, ⟨v12, i12⟩, ⟨v13, i13⟩⟩
    have i1 : G'.1 1 = some (.inr (0, [.ref 2, .ref 3, .ref 4, .ref 5, .ref 6, .ref 7, .ref 8, .ref 9, .ref 10, .ref 11, .ref 12, .ref 13])) := (hFR.2 1 (by decide)).trans g1
    have ires : G'.1 res = some (BA Nr o) := (hFR.2 res (by simp only [List.mem_cons, List.not_mem_nil, or_false]; omega)).trans hr
    have hnr8 : res ≠ 8 := by omega
    have hnr13 : res ≠ 13 := by omega
    refine V_iload rfl (by first | rfl | assumption) ?_
    refine V_if_lt rfl (fun _ => ?_) (fun h => absurd (by decide) h)
    refine V_aload_n rfl (by first | rfl | assumption) ?_
    refine V_aload_n rfl (by first | rfl | assumption) ?_
    refine V_getf rfl rfl rfl (by repeat (first | exact hup_eq | assumption | refine Eq.trans (hup_ne (by first | assumption | exact Ne.symm (by assumption) | decide)) ?_)) (by first | rfl | assumption) ?_
    refine V_aload_n rfl (by first | rfl | assumption) ?_
    refine V_getf rfl rfl rfl (by repeat (first | exact hup_eq | assumption | refine Eq.trans (hup_ne (by first | assumption | exact Ne.symm (by assumption) | decide)) ?_)) (by first | rfl | assumption) ?_
    refine V_callV (M' := mX0_invert) (mc := 0) (ms := 0) (bc' := 0) (bs' := 0) rfl cw_X0_71 iv_X0_invert (by repeat (first | exact hup_eq | assumption | refine Eq.trans (hup_ne (by first | assumption | exact Ne.symm (by assumption) | decide)) ?_)) rfl rfl (Nat.le_of_ble_eq_true rfl) ⟨Nat.le_of_ble_eq_true rfl, Nat.le_of_ble_eq_true rfl⟩ ⟨Nat.le_of_ble_eq_true rfl, Nat.le_of_ble_eq_true rfl⟩ (As := [.ref 5, .ref 8]) (c_invert (Q := fun oc G'' => oc = .inl none ∧ ∃ w' x, fB x ∧ v10 x % PP = ivP (v10 v5) 254 ∧ G'' = hup (hup G' 13 (LA 20 w')) 8 (LA 10 x)) i1 rfl i5 i8 i13 a5 (fun w' x q1 q2 => ⟨rfl, w', x, q1, q2, rfl⟩)) (fun o G'' h => ?_) (fun E G'' h => by cases h.1)
    obtain ⟨h, w1, x1, hx1, hv1, rfl⟩ := h
    cases h
    refine V_aload_n rfl (by first | rfl | assumption) ?_
    refine V_aload_n rfl (by first | rfl | assumption) ?_
    refine V_getf rfl rfl rfl (by repeat (first | exact hup_eq | assumption | refine Eq.trans (hup_ne (by first | assumption | exact Ne.symm (by assumption) | decide)) ?_)) (by first | rfl | assumption) ?_
    refine V_aload_n rfl (by first | rfl | assumption) ?_
    refine V_getf rfl rfl rfl (by repeat (first | exact hup_eq | assumption | refine Eq.trans (hup_ne (by first | assumption | exact Ne.symm (by assumption) | decide)) ?_)) (by first | rfl | assumption) ?_
    refine V_aload_n rfl (by first | rfl | assumption) ?_
    refine V_getf rfl rfl rfl (by repeat (first | exact hup_eq | assumption | refine Eq.trans (hup_ne (by first | assumption | exact Ne.symm (by assumption) | decide)) ?_)) (by first | rfl | assumption) ?_
    refine V_callV (M' := mX0_product) (mc := 0) (ms := 0) (bc' := 0) (bs' := 0) rfl cw_X0_75 iv_X0_product (by repeat (first | exact hup_eq | assumption | refine Eq.trans (hup_ne (by first | assumption | exact Ne.symm (by assumption) | decide)) ?_)) rfl rfl (Nat.le_of_ble_eq_true rfl) ⟨Nat.le_of_ble_eq_true rfl, Nat.le_of_ble_eq_true rfl⟩ ⟨Nat.le_of_ble_eq_true rfl, Nat.le_of_ble_eq_true rfl⟩ (As := [.ref 8, .ref 4, .ref 8]) (c_product (Q := fun oc G'' => oc = .inl none ∧ ∃ w' z', fA z' ∧ v10 z' % PP = mulP (lad UU (facf k) 255).1 (ivP (v10 v5) 254) ∧ G'' = hup (hup G' 13 (LA 20 w')) 8 (LA 10 z')) i1 rfl (by rfl) (by rfl) (by exact i4) (by rfl) (by decide) a4.B hx1 (fun w' z' q1 q2 => ⟨rfl, w', z', q1, mulP_of q2 b4 hv1, by rw [hup4 (by decide)]⟩)) (fun o G'' h => ?_) (fun E G'' h => by cases h.1)
    obtain ⟨h, w2, x2, hx2, hv2, rfl⟩ := h
    cases h
    refine V_aload_n rfl (by first | rfl | assumption) ?_
    refine V_getf rfl rfl rfl (by repeat (first | exact hup_eq | assumption | refine Eq.trans (hup_ne (by first | assumption | exact Ne.symm (by assumption) | decide)) ?_)) (by first | rfl | assumption) ?_
    refine V_callS (M' := mX0_settle) (mc := 0) (ms := 0) (bc' := 0) (bs' := 0) rfl cw_X0_79 is_X0_settle rfl (Nat.le_of_ble_eq_true rfl) ⟨Nat.le_of_ble_eq_true rfl, Nat.le_of_ble_eq_true rfl⟩ ⟨Nat.le_of_ble_eq_true rfl, Nat.le_of_ble_eq_true rfl⟩ (As := [.ref 8]) (c_settle (Q := fun oc G'' => oc = .inl none ∧ G'' = hup (hup G' 13 (LA 20 w2)) 8 (LA 10 (seR x2))) (by rfl) hx2 ⟨rfl, by rw [hup_hup]⟩) (fun o G'' h => ?_) (fun E G'' h => by cases h.1)
    obtain ⟨h, rfl⟩ := h
    cases h
    obtain ⟨-, e1, e2, e3⟩ := seR_ok hx2
    have hlim : ∀ j, j < 10 → seR x2 j < 2 ^ 26 := fun j hj => by
      rcases Nat.lt_or_ge j 9 with q | q
      · exact e2 j q
      · have : j = 9 := by omega
        subst this; omega
    refine V_aload_n rfl (by first | rfl | assumption) ?_
    refine V_getf rfl rfl rfl (by repeat (first | exact hup_eq | assumption | refine Eq.trans (hup_ne (by first | assumption | exact Ne.symm (by assumption) | decide)) ?_)) (by first | rfl | assumption) ?_
    refine V_aload rfl (by first | rfl | assumption) ?_
    refine V_bipush (v := 32) rfl (by decide) ?_
    refine V_callS (M' := mX5_write) (mc := 0) (ms := 0) (bc' := 0) (bs' := 0) rfl cw_X0_83 is_X5_write rfl (Nat.le_of_ble_eq_true rfl) ⟨Nat.le_of_ble_eq_true rfl, Nat.le_of_ble_eq_true rfl⟩ ⟨Nat.le_of_ble_eq_true rfl, Nat.le_of_ble_eq_true rfl⟩ (As := [.ref 8, .ref res, .int (nI 32)]) (c_write (Q := fun oc G'' => oc = .inl none ∧ G'' = hup (hup (hup G' 13 (LA 20 w2)) 8 (LA 10 (seR x2))) res (BA Nr (wrS (seR x2) 32 o 10).2.2.2)) (by rfl) (by rw [hup_ne hnr8, hup_ne hnr13]; exact ires) hNr.1 hNr.2 (by decide) hlim (by decide) ⟨rfl, rfl⟩) (fun o G'' h => ?_) (fun E G'' h => by cases h.1)
    obtain ⟨h, rfl⟩ := h
    cases h
    obtain ⟨q1, q2, q3, q4, q5, q6, q7⟩ := wrS_ok (o := o) hlim (c := 32) (by decide) 10 (Nat.le_refl _)
    generalize hwo : (wrS (seR x2) 32 o 10).2.2.2 = wo at *
    have ha32 : (wrS (seR x2) 32 o 10).2.2.1 = 32 := by omega
    have ht4 : (wrS (seR x2) 32 o 10).2.1 = 4 := by omega
    rw [ha32] at q5 q6 q7
    rw [ht4] at q1
    have hmul : v10 (seR x2) = MULT k u := by
      rw [e1, hv2]
      unfold MULT
      rw [← hUU, ← b5, ivP_mod]
    have hval : vs 256 wo 32 = MULT k u := by
      have hm := MULT_lt k u
      rw [← hmul] at hm ⊢
      have q5' : vs 256 wo 32 + (wrS (seR x2) 32 o 10).1 * 256 ^ 32 = v10 (seR x2) := q5
      have hz : (wrS (seR x2) 32 o 10).1 = 0 := by
        rcases Nat.eq_zero_or_pos (wrS (seR x2) 32 o 10).1 with z | z
        · exact z
        · have : 1 * 256 ^ 32 ≤ (wrS (seR x2) 32 o 10).1 * 256 ^ 32 := Nat.mul_le_mul_right _ z
          simp only [PP] at hm
          omega
      rw [hz, Nat.zero_mul, Nat.add_zero] at q5'
      exact q5'
    have hfin : wo = fun j => if j < 32 then MULT k u / 256 ^ j % 256 else o j := by
      funext j
      by_cases hj : j < 32
      · simp only [hj, if_true]
        exact dig_uniq (by decide) q6 hval j hj
      · simp only [hj, if_false]
        exact q7 j hj
    rw [hfin]
    refine V_vret rfl rfl (hq _ ⟨hFR.1, fun j hj => ?_⟩ ⟨?_, ⟨fac, ?_⟩, fun r hr9 => ?_, ⟨w2, ?_⟩⟩ hup_eq)
    · simp only [List.mem_cons, List.not_mem_nil, or_false, not_or] at hj
      rw [hup_ne (by omega), hup_ne (by omega), hup_ne (by omega)]
      exact hFR.2 j (by simp only [List.mem_cons, List.not_mem_nil, or_false]; omega)
    · rw [hup_ne (by omega), hup_ne (by omega), hup_ne (by omega)]; exact i1
    · rw [hup_ne (by omega), hup_ne (by omega), hup_ne (by omega)]; exact i2
    · simp only [List.mem_cons, List.not_mem_nil, or_false] at hr9
      rcases hr9 with rfl | rfl | rfl | rfl | rfl | rfl | rfl | rfl | rfl | rfl
      · exact ⟨_, (hup_ne (by omega)).trans i3⟩
      · exact ⟨_, (hup_ne (by omega)).trans i4⟩
      · exact ⟨_, (hup_ne (by omega)).trans i5⟩
      · exact ⟨_, (hup_ne (by omega)).trans i6⟩
      · exact ⟨_, (hup_ne (by omega)).trans i7⟩
      · exact ⟨_, (hup_ne (by omega)).trans rfl⟩
      · exact ⟨_, (hup_ne (by omega)).trans i9⟩
      · exact ⟨_, (hup_ne (by omega)).trans i10⟩
      · exact ⟨_, (hup_ne (by omega)).trans i11⟩
      · exact ⟨_, (hup_ne (by omega)).trans i12⟩
    · exact (hup_ne (by omega)).trans rfl

end CTimes
