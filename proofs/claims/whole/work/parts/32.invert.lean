section CInvert
variable {K : kK} {G : kG} {Q : kO → kG → Prop}
/-- a counter that falls from 253, 254 .. to -1 -/
def cnt (top n : Nat) : Int32 := if n ≤ top then nI (top - n) else -1
theorem cnt_s {top n : Nat} (h : n ≤ top) : cnt top n + Int32.ofInt (-1) = cnt top (n + 1) := by
  unfold cnt
  rw [if_pos h]
  by_cases h2 : n + 1 ≤ top
  · rw [if_pos h2, nI_dec 1 (by decide) (by omega)]
    congr 1
  · rw [if_neg h2, show top - n = 0 by omega]
    decide
theorem cpyL (f g : Nat → Nat) (n : Nat) : va_cpy (fun j => lN (f j)) (fun j => lN (g j)) 0 0 n = fun j => lN (if j < n then f j else g j) := by
  funext j
  unfold va_cpy
  by_cases h : j < n
  · rw [if_pos ⟨by omega, by omega⟩, if_pos h]; simp
  · rw [if_neg (by omega), if_neg h]
theorem cpyB (f g : Nat → Nat) (n : Nat) : va_cpy (fun j => nI (f j)) (fun j => nI (g j)) 0 0 n = fun j => nI (if j < n then f j else g j) := by
  funext j
  unfold va_cpy
  by_cases h : j < n
  · rw [if_pos ⟨by omega, by omega⟩, if_pos h]; simp
  · rw [if_neg (by omega), if_neg h]
set_option maxHeartbeats 4000000 in
theorem c_invert {z g w : Nat → Nat} {fs : List Value} (g1 : G.1 1 = some (.inr (0, fs))) (hf : fs[11]? = some (.ref 13)) (g5 : G.1 5 = some (LA 10 z)) (g8 : G.1 8 = some (LA 10 g)) (g13 : G.1 13 = some (LA 20 w)) (hz : fA z)
    (hq : ∀ w' x, fB x → v10 x % PP = ivP (v10 z) 254 → Q (.inl none) (hup (hup G 13 (LA 20 w')) 8 (LA 10 x))) : C K 0 0 mX0_invert [.ref 1, .ref 5, .ref 8] G Q := by
  refine C_of okX0_invert (Nat.le_of_ble_eq_true rfl) ?_
  refine V_aload_n rfl (by first | rfl | assumption) ?_
  refine V_iconst (v := 0) rfl (by decide) ?_
  refine V_aload_n rfl (by first | rfl | assumption) ?_
  refine V_iconst (v := 0) rfl (by decide) ?_
  refine V_bipush (v := 10) rfl (by decide) ?_
  refine V_copyl (st := []) rfl ⟨kk_X0_49, k_ac⟩ g5 g8 (by decide) (by decide) (by decide) (by decide) (by decide) (by decide) (by decide) ?_
  rw [show (0 : Int32).toNatClampNeg = 0 by decide, show (10 : Int32).toNatClampNeg = 10 by decide, cpyL]
  refine V_sipush (v := 253) rfl (by decide) ?_
  refine V_istore_n rfl (by decide) ?_
  refine V_loop 254 (fun n lc G' => lc 0 = some (.ref 1) ∧ lc 1 = some (.ref 5) ∧ lc 2 = some (.ref 8) ∧ lc 3 = some (.int (cnt 253 n)) ∧ ∃ w' x, fB x ∧ v10 x % PP = ivP (v10 z) n ∧ G' = hup (hup G 13 (LA 20 w')) 8 (LA 10 x)) ?_ ?_ 0 _ _ (Nat.zero_le _) ⟨rfl, rfl, rfl, rfl, w, _, ?_, ?_, by rw [hup_same g13]⟩
  · rintro n lc G' hn ⟨l0, l1, l2, l3, w', x, hx, hv, rfl⟩ ih
    have hc : cnt 253 n = nI (253 - n) := by unfold cnt; rw [if_pos (by omega)]
    refine V_iload_n rfl (by first | rfl | assumption) ?_
    refine V_if_lt rfl (fun h => absurd h (by rw [hc]; exact nI_pos (by omega))) (fun _ => ?_)
    refine V_aload_n rfl (by first | rfl | assumption) ?_
    refine V_aload_n rfl (by first | rfl | assumption) ?_
    refine V_aload_n rfl (by first | rfl | assumption) ?_
    refine V_callV (M' := mX0_square) (mc := 0) (ms := 0) (bc' := 0) (bs' := 0) rfl cw_X0_98 iv_X0_square (by repeat (first | exact hup_eq | assumption | refine Eq.trans (hup_ne (by first | assumption | exact Ne.symm (by assumption) | decide)) ?_)) rfl rfl (Nat.le_of_ble_eq_true rfl) ⟨Nat.le_of_ble_eq_true rfl, Nat.le_of_ble_eq_true rfl⟩ ⟨Nat.le_of_ble_eq_true rfl, Nat.le_of_ble_eq_true rfl⟩ (As := [.ref 8, .ref 8]) (c_square (Q := fun o G' => o = .inl none ∧ ∃ w' z', fA z' ∧ v10 z' % PP = mulP (ivP (v10 z) n) (ivP (v10 z) n) ∧ G' = hup (hup G 13 (LA 20 w')) 8 (LA 10 z')) (by exact g1) hf (by rfl) (by rfl) (by rfl) (by decide) hx (fun w' z' q1 q2 => ⟨rfl, w', z', q1, mulP_of q2 hv hv, by rw [hup4 (by decide)]⟩)) (fun o G' h => ?_) (fun E G' h => by cases h.1)
    obtain ⟨h, w2, x2, hx2, hv2, rfl⟩ := h
    cases h
    have fin : ∀ (lc : kLo) (w3 x3 : Nat → Nat), lc 0 = some (.ref 1) → lc 1 = some (.ref 5) → lc 2 = some (.ref 8) → lc 3 = some (.int (cnt 253 n)) → fB x3 → v10 x3 % PP = ivP (v10 z) (n + 1) → V K 0 0 mX0_invert 40 lc [] (hup (hup G 13 (LA 20 w3)) 8 (LA 10 x3)) Q := by
      intro lc w3 x3 l0 l1 l2 l3 h1 h2
      refine V_iinc (v := cnt 253 (n + 1)) rfl (by first | rfl | assumption) (cnt_s (by omega)) (by decide) ?_
      refine V_goto rfl ?_
      exact ih _ _ ⟨l0, l1, l2, rfl, w3, x3, h1, h2, rfl⟩
    refine V_iload_n rfl (by first | rfl | assumption) ?_
    refine V_iconst (v := 2) rfl (by decide) ?_
    rw [hc]
    refine V_icmp_eq rfl (fun h => ?_) (fun h => ?_)
    · have h2 : 253 - n = 2 := (nI_eq (b := 2) (by omega) (by decide)).mp h
      exact fin _ _ _ l0 l1 l2 l3 hx2.B (by rw [hv2]; simp only [ivP]; rw [if_pos (Or.inl h2)])
    · have h2 : ¬ 253 - n = 2 := fun q => h ((nI_eq (b := 2) (by omega) (by decide)).mpr q)
      refine V_iload_n rfl (by first | rfl | assumption) ?_
      refine V_iconst (v := 4) rfl (by decide) ?_
      rw [hc]
      refine V_icmp_eq rfl (fun h => ?_) (fun h => ?_)
      · have h4 : 253 - n = 4 := (nI_eq (b := 4) (by omega) (by decide)).mp h
        exact fin _ _ _ l0 l1 l2 l3 hx2.B (by rw [hv2]; simp only [ivP]; rw [if_pos (Or.inr h4)])
      · have h4 : ¬ 253 - n = 4 := fun q => h ((nI_eq (b := 4) (by omega) (by decide)).mpr q)
        refine V_aload_n rfl (by first | rfl | assumption) ?_
        refine V_aload_n rfl (by first | rfl | assumption) ?_
        refine V_aload_n rfl (by first | rfl | assumption) ?_
        refine V_aload_n rfl (by first | rfl | assumption) ?_
        refine V_callV (M' := mX0_product) (mc := 0) (ms := 0) (bc' := 0) (bs' := 0) rfl cw_X0_75 iv_X0_product (by repeat (first | exact hup_eq | assumption | refine Eq.trans (hup_ne (by first | assumption | exact Ne.symm (by assumption) | decide)) ?_)) rfl rfl (Nat.le_of_ble_eq_true rfl) ⟨Nat.le_of_ble_eq_true rfl, Nat.le_of_ble_eq_true rfl⟩ ⟨Nat.le_of_ble_eq_true rfl, Nat.le_of_ble_eq_true rfl⟩ (As := [.ref 8, .ref 8, .ref 5]) (c_product (Q := fun o G' => o = .inl none ∧ ∃ w' z', fA z' ∧ v10 z' % PP = (v10 x2 * v10 z) % PP ∧ G' = hup (hup G 13 (LA 20 w')) 8 (LA 10 z')) (by exact g1) hf (by rfl) (by rfl) (by rfl) (by exact g5) (by decide) hx2.B hz.B (fun w' z' q1 q2 => ⟨rfl, w', z', q1, q2, by rw [hup4 (by decide)]⟩)) (fun o G' h => ?_) (fun E G' h => by cases h.1)
        obtain ⟨h, w3, x3, hx3, hv3, rfl⟩ := h
        cases h
        refine fin _ _ _ l0 l1 l2 l3 hx3.B ?_
        rw [hv3]
        simp only [ivP]
        rw [if_neg (fun q => q.elim h2 h4), ← hv2]
        unfold mulP
        rw [Nat.mod_mul_mod]
  · rintro lc G' ⟨l0, l1, l2, l3, w', x, hx, hv, rfl⟩
    refine V_iload_n rfl (by first | rfl | assumption) ?_
    refine V_if_lt rfl (fun _ => ?_) (fun h => absurd (by decide) h)
    exact V_vret rfl rfl (hq w' x hx hv)
  · refine ⟨fun j hj => ?_, ?_⟩
    · simp only [show j < 10 by omega, if_true]; exact hz.B.1 j hj
    · simp only [show (9 : Nat) < 10 by decide, if_true]; exact hz.B.2
  · simp only [ivP]
    congr 1
end CInvert
