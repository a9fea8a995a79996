/-! SealedWire$Row: an object r of (bytes, size), its row b of N places -/
section CRow
variable {K : kK} {G : kG} {Q : kO → kG → Prop} {r b N n : Nat} {f : Nat → Int32}
theorem c_Row_clear {z : Int32} (hr : G.1 r = some (.inr (5, [.ref b, .int z]))) (hq : Q (.inl none) (hup G r (.inr (5, [.ref b, .int 0])))) : C K 0 0 mX6_clear [.ref r] G Q := by
  refine C_of okX6_clear (Nat.le_of_ble_eq_true rfl) ?_
  refine V_aload_n rfl (by first | rfl | assumption) ?_
  refine V_iconst (v := 0) rfl (by decide) ?_
  refine V_putf rfl rfl rfl rfl (by repeat (first | exact hup_eq | assumption | refine Eq.trans (hup_ne (by first | assumption | exact Ne.symm (by assumption) | decide)) ?_)) (Nat.le_of_ble_eq_true rfl) (by first | exact ⟨rfl, rfl⟩ | (constructor <;> decide)) ?_
  exact V_vret rfl rfl hq
theorem c_Row_hasRoom {x : Int32} (hr : G.1 r = some (.inr (5, [.ref b, .int (nI n)]))) (hb : G.1 b = some (.inl (0, N, .inl f))) (hq : Q (.inl (some (.int (if nI N < nI n + x then 0 else 1)))) G) : C K 0 0 mX6_hasRoom [.ref r, .int x] G Q := by
  refine C_of okX6_hasRoom (Nat.le_of_ble_eq_true rfl) ?_
  refine V_aload_n rfl (by first | rfl | assumption) ?_
  refine V_getf rfl rfl rfl (by repeat (first | exact hup_eq | assumption | refine Eq.trans (hup_ne (by first | assumption | exact Ne.symm (by assumption) | decide)) ?_)) rfl ?_
  refine V_iload_n rfl (by first | rfl | assumption) ?_
  refine V_iadd rfl ?_
  refine V_aload_n rfl (by first | rfl | assumption) ?_
  refine V_getf rfl rfl rfl (by repeat (first | exact hup_eq | assumption | refine Eq.trans (hup_ne (by first | assumption | exact Ne.symm (by assumption) | decide)) ?_)) rfl ?_
  refine V_alen rfl (by repeat (first | exact hup_eq | assumption | refine Eq.trans (hup_ne (by first | assumption | exact Ne.symm (by assumption) | decide)) ?_)) (by decide) ?_
  refine V_icmp_gt rfl (fun h => ?_) (fun h => ?_)
  · refine V_iconst (v := 0) rfl (by decide) ?_
    rw [if_pos h] at hq
    exact V_zret rfl rfl (Or.inl rfl) hq
  · refine V_iconst (v := 1) rfl (by decide) ?_
    refine V_goto rfl ?_
    rw [if_neg h] at hq
    exact V_zret rfl rfl (Or.inr rfl) hq
theorem c_Row_holds {x z : Int32} (hr : G.1 r = some (.inr (5, [.ref b, .int z]))) (hq : Q (.inl (some (.int (if x < 0 ∨ z ≤ x then 0 else 1)))) G) : C K 0 0 mX6_holds [.ref r, .int x] G Q := by
  refine C_of okX6_holds (Nat.le_of_ble_eq_true rfl) ?_
  refine V_iload_n rfl (by first | rfl | assumption) ?_
  refine V_if_lt rfl (fun h => ?_) (fun h => ?_)
  · refine V_iconst (v := 0) rfl (by decide) ?_
    rw [if_pos (Or.inl h)] at hq
    exact V_zret rfl rfl (Or.inl rfl) hq
  · refine V_iload_n rfl (by first | rfl | assumption) ?_
    refine V_aload_n rfl (by first | rfl | assumption) ?_
    refine V_getf rfl rfl rfl (by repeat (first | exact hup_eq | assumption | refine Eq.trans (hup_ne (by first | assumption | exact Ne.symm (by assumption) | decide)) ?_)) rfl ?_
    refine V_icmp_ge rfl (fun h2 => ?_) (fun h2 => ?_)
    · refine V_iconst (v := 0) rfl (by decide) ?_
      rw [if_pos (Or.inr h2)] at hq
      exact V_zret rfl rfl (Or.inl rfl) hq
    · refine V_iconst (v := 1) rfl (by decide) ?_
      refine V_goto rfl ?_
      rw [if_neg (fun q => q.elim h h2)] at hq
      exact V_zret rfl rfl (Or.inr rfl) hq
theorem c_Row_put {x : Int32} (hr : G.1 r = some (.inr (5, [.ref b, .int (nI n)]))) (hb : G.1 b = some (.inl (0, N, .inl f))) (hn : n < N) (hN : N < 2 ^ 31) (hq : Q (.inl none) (hup (hup G b (.inl (0, N, .inl (upd f n x)))) r (.inr (5, [.ref b, .int (nI (n + 1))])))) : C K 0 0 mX6_put [.ref r, .int x] G Q := by
  refine C_of okX6_put (Nat.le_of_ble_eq_true rfl) ?_
  have hrb : r ≠ b := by rintro rfl; rw [hr] at hb; cases hb
  refine V_aload_n rfl (by first | rfl | assumption) ?_
  refine V_getf rfl rfl rfl (by repeat (first | exact hup_eq | assumption | refine Eq.trans (hup_ne (by first | assumption | exact Ne.symm (by assumption) | decide)) ?_)) rfl ?_
  refine V_aload_n rfl (by first | rfl | assumption) ?_
  refine V_getf rfl rfl rfl (by repeat (first | exact hup_eq | assumption | refine Eq.trans (hup_ne (by first | assumption | exact Ne.symm (by assumption) | decide)) ?_)) rfl ?_
  refine V_alen rfl (by repeat (first | exact hup_eq | assumption | refine Eq.trans (hup_ne (by first | assumption | exact Ne.symm (by assumption) | decide)) ?_)) (by decide) ?_
  refine V_icmp_ge rfl (fun h => absurd h (nI_ge hn hN)) (fun h => ?_)
  refine V_aload_n rfl (by first | rfl | assumption) ?_
  refine V_getf rfl rfl rfl (by repeat (first | exact hup_eq | assumption | refine Eq.trans (hup_ne (by first | assumption | exact Ne.symm (by assumption) | decide)) ?_)) rfl ?_
  refine V_aload_n rfl (by first | rfl | assumption) ?_
  refine V_getf rfl rfl rfl (by repeat (first | exact hup_eq | assumption | refine Eq.trans (hup_ne (by first | assumption | exact Ne.symm (by assumption) | decide)) ?_)) rfl ?_
  refine V_iload_n rfl (by first | rfl | assumption) ?_
  refine V_iastJ rfl hb rfl hn hN ?_
  refine V_aload_n rfl (by first | rfl | assumption) ?_
  refine V_dup rfl rfl ?_
  refine V_getf rfl rfl rfl (by repeat (first | exact hup_eq | assumption | refine Eq.trans (hup_ne (by first | assumption | exact Ne.symm (by assumption) | decide)) ?_)) rfl ?_
  refine V_iconst (v := 1) rfl (by decide) ?_
  refine V_iadd rfl ?_
  refine V_putf rfl rfl rfl rfl (by repeat (first | exact hup_eq | assumption | refine Eq.trans (hup_ne (by first | assumption | exact Ne.symm (by assumption) | decide)) ?_)) (Nat.le_of_ble_eq_true rfl) (by first | exact ⟨rfl, rfl⟩ | (constructor <;> decide)) ?_
  refine V_vret rfl rfl ?_
  rw [show nI n + 1 = nI (n + 1) from nI_1 n]
  exact hq
end CRow
