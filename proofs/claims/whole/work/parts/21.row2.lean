section CRow2
variable {K : kK} {G : kG} {Q : kO → kG → Prop} {r b N n : Nat} {f : Nat → Int32}
theorem c_Row_putAll {a N0 s c : Nat} {g : Nat → Int32} (hr : G.1 r = some (.inr (5, [.ref b, .int (nI n)]))) (hb : G.1 b = some (.inl (0, N, .inl f))) (ha : G.1 a = some (.inl (0, N0, .inl g))) (h1 : s + c ≤ N0) (h2 : n + c ≤ N) (hN : N < 2 ^ 30) (hN0 : N0 < 2 ^ 30)
    (hq : Q (.inl none) (hup (hup G b (.inl (0, N, .inl (va_cpy g f s n c)))) r (.inr (5, [.ref b, .int (nI (n + c))])))) : C K 0 0 mX6_putAll [.ref r, .ref a, .int (nI s), .int (nI c)] G Q := by
  refine C_of okX6_putAll (Nat.le_of_ble_eq_true rfl) ?_
  have hrb : r ≠ b := by rintro rfl; rw [hr] at hb; cases hb
  refine V_iload_n rfl (by first | rfl | assumption) ?_
  refine V_if_lt rfl (fun h => absurd h (nI_pos (by omega))) (fun _ => ?_)
  refine V_iload_n rfl (by first | rfl | assumption) ?_
  refine V_if_lt rfl (fun h => absurd h (nI_pos (by omega))) (fun _ => ?_)
  refine V_iload_n rfl (by first | rfl | assumption) ?_
  refine V_iload_n rfl (by first | rfl | assumption) ?_
  refine V_iadd rfl ?_
  refine V_aload_n rfl (by first | rfl | assumption) ?_
  refine V_alen rfl (by repeat (first | exact hup_eq | assumption | refine Eq.trans (hup_ne (by first | assumption | exact Ne.symm (by assumption) | decide)) ?_)) (by decide) ?_
  refine V_icmp_gt rfl (fun h => absurd h (by rw [nI_add]; exact nI_nlt h1 (by omega))) (fun _ => ?_)
  refine V_aload_n rfl (by first | rfl | assumption) ?_
  refine V_iload_n rfl (by first | rfl | assumption) ?_
  refine V_callV (M' := mX6_hasRoom) (mc := 0) (ms := 0) (bc' := 0) (bs' := 0) rfl cw_X6_17 iv_X6_hasRoom (by repeat (first | exact hup_eq | assumption | refine Eq.trans (hup_ne (by first | assumption | exact Ne.symm (by assumption) | decide)) ?_)) rfl rfl (Nat.le_of_ble_eq_true rfl) ⟨Nat.le_of_ble_eq_true rfl, Nat.le_of_ble_eq_true rfl⟩ ⟨Nat.le_of_ble_eq_true rfl, Nat.le_of_ble_eq_true rfl⟩ (As := [.int (nI c)]) (c_Row_hasRoom (Q := fun o G' => o = .inl (some (.int 1)) ∧ G' = G) hr hb ⟨by rw [if_neg (by rw [nI_add]; exact nI_nlt h2 (by omega))], rfl⟩) (fun o G' h => ?_) (fun E G' h => by cases h.1)
  obtain ⟨h, rfl⟩ := h
  cases h
  refine V_if_eq rfl (fun h => absurd h (by decide)) (fun _ => ?_)
  refine V_aload_n rfl (by first | rfl | assumption) ?_
  refine V_iload_n rfl (by first | rfl | assumption) ?_
  refine V_aload_n rfl (by first | rfl | assumption) ?_
  refine V_getf rfl rfl rfl (by repeat (first | exact hup_eq | assumption | refine Eq.trans (hup_ne (by first | assumption | exact Ne.symm (by assumption) | decide)) ?_)) rfl ?_
  refine V_aload_n rfl (by first | rfl | assumption) ?_
  refine V_getf rfl rfl rfl (by repeat (first | exact hup_eq | assumption | refine Eq.trans (hup_ne (by first | assumption | exact Ne.symm (by assumption) | decide)) ?_)) rfl ?_
  refine V_iload_n rfl (by first | rfl | assumption) ?_
  refine V_copyi (st := []) rfl ⟨kk_X6_21, k_ac⟩ ha hb (nI_pos (by omega)) (nI_pos (by omega)) (nI_pos (by omega)) (by rw [nI_clamp (by omega), nI_clamp (by omega)]; exact h1) (by rw [nI_clamp (by omega), nI_clamp (by omega)]; exact h2) (by decide) (by decide) ?_
  rw [nI_clamp (by omega), nI_clamp (by omega), nI_clamp (by omega)]
  refine V_aload_n rfl (by first | rfl | assumption) ?_
  refine V_dup rfl rfl ?_
  refine V_getf rfl rfl rfl (by repeat (first | exact hup_eq | assumption | refine Eq.trans (hup_ne (by first | assumption | exact Ne.symm (by assumption) | decide)) ?_)) rfl ?_
  refine V_iload_n rfl (by first | rfl | assumption) ?_
  refine V_iadd rfl ?_
  refine V_putf rfl rfl rfl rfl (by repeat (first | exact hup_eq | assumption | refine Eq.trans (hup_ne (by first | assumption | exact Ne.symm (by assumption) | decide)) ?_)) (Nat.le_of_ble_eq_true rfl) (by first | exact ⟨rfl, rfl⟩ | (constructor <;> decide)) ?_
  refine V_vret rfl rfl ?_
  rw [nI_add]
  exact hq
end CRow2
