section CSeal2
variable {K : kK} {G : kG} {Q : kO → kG → Prop}
theorem hup2_FP {r d : Nat} {e e' : kE} : FP (fun j => j = r ∨ j = d) G (hup (hup G d e) r e') := (FP.rf.hup (Or.inr rfl)).hup (Or.inl rfl)
theorem c_clearL {r d N : Nat} {l : List Nat} (h : Rw G r d N l) (hq : ∀ G', FP (fun j => j = r) G G' → Rw G' r d N [] → Q (.inl none) G') : C K 0 0 mX6_clear [.ref r] G Q := by
  obtain ⟨h1, h2, b, h3, h4, h5⟩ := h
  have hrd : d ≠ r := by rintro rfl; rw [h1] at h3; cases h3
  exact c_clearN h1 (hq _ (FP.rf.hup rfl) ⟨hup_eq, Nat.zero_le _, b, (hup_ne hrd).trans h3, rfl, fun j hj => absurd hj (Nat.not_lt_zero j)⟩)
/-- a row of which nothing is known is cleared -/
theorem c_clearU {r d N n : Nat} {b : Nat → Nat} (h1 : G.1 r = some (ROB d n)) (h3 : G.1 d = some (BA N b)) (hq : ∀ G', FP (fun j => j = r) G G' → Rw G' r d N [] → Q (.inl none) G') : C K 0 0 mX6_clear [.ref r] G Q := by
  have hrd : d ≠ r := by rintro rfl; rw [h1] at h3; cases h3
  exact c_clearN h1 (hq _ (FP.rf.hup rfl) ⟨hup_eq, Nat.zero_le _, b, (hup_ne hrd).trans h3, rfl, fun j hj => absurd hj (Nat.not_lt_zero j)⟩)
theorem c_putL {r d N x : Nat} {l : List Nat} (h : Rw G r d N l) (hn : l.length < N) (hN : N < 2 ^ 20) (hx : x < 256) (hq : ∀ G', FP (fun j => j = r ∨ j = d) G G' → Rw G' r d N (l ++ [x]) → Q (.inl none) G') : C K 0 0 mX6_put [.ref r, .int (nI x)] G Q := by
  obtain ⟨h1, h2, b, h3, h4, h5⟩ := h
  have hrd : d ≠ r := by rintro rfl; rw [h1] at h3; cases h3
  refine c_putN h1 h3 hn (by omega) (hq _ hup2_FP ⟨?_, ?_, updN b l.length x, (hup_ne hrd).trans hup_eq, ?_, ?_⟩)
  · rw [hup_eq, List.length_append]; rfl
  · rw [List.length_append]; exact hn
  · rw [List.length_append]
    show lst _ (l.length + 1) = _
    rw [lst_upd, h4]
  · intro j hj
    rw [List.length_append] at hj
    have hj2 : j < l.length + 1 := hj
    by_cases e : j = l.length
    · rw [e, updN_eq]; exact hx
    · rw [updN_ne e]; exact h5 j (by omega)
theorem c_putBigL {r d N m : Nat} {l : List Nat} (hm : m < 2 ^ 31) (h : Rw G r d N l) (hn : l.length + 4 ≤ N) (hN : N < 2 ^ 20) (hq : ∀ G', FP (fun j => j = r ∨ j = d) G G' → Rw G' r d N (l ++ be4 m) → Q (.inl none) G') : C K 0 0 mX6_putBig [.ref r, .int (nI m)] G Q := by
  obtain ⟨h1, h2, b, h3, h4, h5⟩ := h
  have hrd : d ≠ r := by rintro rfl; rw [h1] at h3; cases h3
  have hl : (l ++ be4 m).length = l.length + 4 := by rw [List.length_append]; rfl
  refine c_putBigN hm h1 h3 hn (by omega) (hq _ hup2_FP ⟨?_, ?_, big4N b l.length m, (hup_ne hrd).trans hup_eq, ?_, ?_⟩)
  · rw [hup_eq, hl]
  · rw [hl]; exact hn
  · rw [hl]
    unfold big4N be4
    rw [lst_upd, lst_upd, lst_upd, lst_upd, h4]
    simp
  · intro j hj
    rw [hl] at hj
    unfold big4N
    have hb : ∀ y, y % 2 ^ 8 < 256 := fun y => Nat.mod_lt _ (by decide)
    by_cases e3 : j = l.length + 3
    · rw [e3, updN_eq]; exact hb _
    · rw [updN_ne e3]
      by_cases e2 : j = l.length + 2
      · rw [e2, updN_eq]; exact hb _
      · rw [updN_ne e2]
        by_cases e1 : j = l.length + 1
        · rw [e1, updN_eq]; exact hb _
        · rw [updN_ne e1]
          by_cases e0 : j = l.length
          · rw [e0, updN_eq]; exact hb _
          · rw [updN_ne e0]; exact h5 j (by omega)
theorem c_putAllL {r d N a N0 s c : Nat} {g : Nat → Nat} {l : List Nat} (h : Rw G r d N l) (ha : G.1 a = some (BA N0 g)) (hs : s + c ≤ N0) (hn : l.length + c ≤ N) (hN : N < 2 ^ 20) (hN0 : N0 < 2 ^ 20) (hg : ∀ j, j < c → g (s + j) < 256) (hq : ∀ G', FP (fun j => j = r ∨ j = d) G G' → Rw G' r d N (l ++ lst (fun j => g (s + j)) c) → Q (.inl none) G') : C K 0 0 mX6_putAll [.ref r, .ref a, .int (nI s), .int (nI c)] G Q := by
  obtain ⟨h1, h2, b, h3, h4, h5⟩ := h
  have hrd : d ≠ r := by rintro rfl; rw [h1] at h3; cases h3
  have hl : (l ++ lst (fun j => g (s + j)) c).length = l.length + c := by rw [List.length_append, lst_len]
  refine c_putAllN h1 h3 ha hs hn (by omega) (by omega) (hq _ hup2_FP ⟨?_, ?_, va_cpy g b s l.length c, (hup_ne hrd).trans hup_eq, ?_, ?_⟩)
  · rw [hup_eq, hl]
  · rw [hl]; exact hn
  · rw [hl, lst_cpy, h4]
  · intro j hj
    rw [hl] at hj
    by_cases e : j < l.length
    · rw [pk_cpy_out (Or.inl e)]; exact h5 j e
    · rw [pk_cpy_in (by omega) (by omega)]
      exact hg _ (by omega)
theorem c_zerosBehind {n : Nat} {made : Bool} (hn : n < 2 ^ 20) (hq : Q (.inl (some (.int (nI (zb n made))))) G) : C K 0 0 mX7_zerosBehind [.int (nI n), .int (bI made)] G Q := by
  refine C_of okX7_zerosBehind (Nat.le_of_ble_eq_true rfl) ?_
  cases made with
  | true =>
    refine V_iconst (v := nI 1) rfl (by decide) ?_
    refine V_iload_n rfl (by first | rfl | assumption) ?_
    refine V_iaddN rfl ?_
    refine V_iconst (v := nI 4) rfl (by decide) ?_
    refine V_iaddN rfl ?_
    refine V_iload_n rfl (by first | rfl | assumption) ?_
    refine V_if_eq rfl (fun h => absurd h (by decide)) (fun _ => ?_)
    refine V_iconst (v := nI 0) rfl (by decide) ?_
    refine V_goto rfl ?_
    refine V_iaddN rfl ?_
    refine V_istore_n rfl (by decide) ?_
    refine V_iconst (v := nI 4) rfl (by decide) ?_
    refine V_bipush (v := nI 8) rfl (by decide) ?_
    refine V_iload_n rfl (by first | rfl | assumption) ?_
    refine V_bipush (v := nI 8) rfl (by decide) ?_
    refine V_iremN rfl (by first | omega | decide) (by first | omega | decide) (by first | omega | decide) ?_
    refine V_isubN rfl (by first | omega | decide) ?_
    refine V_bipush (v := nI 8) rfl (by decide) ?_
    refine V_iremN rfl (by first | omega | decide) (by first | omega | decide) (by first | omega | decide) ?_
    refine V_iaddN rfl ?_
    refine V_iret rfl rfl ?_
    exact hq
  | false =>
    refine V_iconst (v := nI 1) rfl (by decide) ?_
    refine V_iload_n rfl (by first | rfl | assumption) ?_
    refine V_iaddN rfl ?_
    refine V_iconst (v := nI 4) rfl (by decide) ?_
    refine V_iaddN rfl ?_
    refine V_iload_n rfl (by first | rfl | assumption) ?_
    refine V_if_eq rfl (fun _ => ?_) (fun h => absurd rfl h)
    refine V_iconst (v := nI 4) rfl (by decide) ?_
    refine V_iaddN rfl ?_
    refine V_istore_n rfl (by decide) ?_
    refine V_iconst (v := nI 4) rfl (by decide) ?_
    refine V_bipush (v := nI 8) rfl (by decide) ?_
    refine V_iload_n rfl (by first | rfl | assumption) ?_
    refine V_bipush (v := nI 8) rfl (by decide) ?_
    refine V_iremN rfl (by first | omega | decide) (by first | omega | decide) (by first | omega | decide) ?_
    refine V_isubN rfl (by first | omega | decide) ?_
    refine V_bipush (v := nI 8) rfl (by decide) ?_
    refine V_iremN rfl (by first | omega | decide) (by first | omega | decide) (by first | omega | decide) ?_
    refine V_iaddN rfl ?_
    refine V_iret rfl rfl ?_
    exact hq
theorem c_bigAt {r d N m s : Nat} {f : Nat → Nat} (gr : G.1 r = some (ROB d m)) (gd : G.1 d = some (BA N f)) (hm : m ≤ N ∧ N < 2 ^ 20) (hs : s + 4 ≤ m) (hf : ∀ j, j < 4 → f (s + j) < 256) (hq : Q (.inl (some (.int (nI (be4v f s))))) G) : C K 0 0 mX6_bigAt [.ref r, .int (nI s)] G Q := by
  refine C_of okX6_bigAt (Nat.le_of_ble_eq_true rfl) ?_
  refine V_iconst (v := nI 0) rfl (by decide) ?_
  refine V_istore_n rfl (by decide) ?_
  refine V_iload_n rfl (by first | rfl | assumption) ?_
  refine V_istore_n rfl (by decide) ?_
  refine V_loop 4 (fun i lc G' => lc 0 = some (.ref r) ∧ lc 1 = some (.int (nI s)) ∧ lc 3 = some (.int (nI (s + i))) ∧ G' = G ∧ ∃ v, lc 2 = some (.int (nI v)) ∧ v = (if i = 0 then 0 else if i = 1 then f s else if i = 2 then f s * 2 ^ 8 + f (s + 1) else if i = 3 then f s * 2 ^ 16 + f (s + 1) * 2 ^ 8 + f (s + 2) else be4v f s)) ?_ ?_ 0 _ _ (Nat.zero_le _) ⟨rfl, rfl, rfl, rfl, 0, rfl, rfl⟩
  · rintro i lc G' hi ⟨l0, l1, l3, rfl, v, l2, hv⟩ ih
    refine V_iload_n rfl (by first | rfl | assumption) ?_
    refine V_iload_n rfl (by first | rfl | assumption) ?_
    refine V_iconst (v := nI 4) rfl (by decide) ?_
    refine V_iaddN rfl ?_
    refine V_icmp_geN rfl (by omega) (by omega) (fun h => absurd h (by omega)) (fun _ => ?_)
    refine V_aload_n rfl (by first | rfl | assumption) ?_
    refine V_iload_n rfl (by first | rfl | assumption) ?_
    refine V_callV (M' := mX6_holds) (mc := 0) (ms := 0) (bc' := 0) (bs' := 0) rfl cw_X6_31 iv_X6_holds (by repeat (first | exact hup_eq | assumption | refine Eq.trans (hup_ne (by first | assumption | exact Ne.symm (by assumption) | decide | omega)) ?_)) rfl rfl (Nat.le_of_ble_eq_true rfl) ⟨Nat.le_of_ble_eq_true rfl, Nat.le_of_ble_eq_true rfl⟩ ⟨Nat.le_of_ble_eq_true rfl, Nat.le_of_ble_eq_true rfl⟩ (As := [.int (nI (s + i))]) (c_Row_holds (Q := fun o G'' => o = .inl (some (.int 1)) ∧ G'' = G') gr ⟨by rw [if_neg (fun q => q.elim (nI_pos (by omega)) (nI_ge (by omega) (by omega)))], rfl⟩) (fun o G'' h => ?_) (fun E G'' h => by cases h.1)
    obtain ⟨h, rfl⟩ := h
    cases h
    refine V_if_eq rfl (fun h => absurd h (by decide)) (fun _ => ?_)
    have hfi := hf i hi
    refine V_iload_n rfl (by first | rfl | assumption) ?_
    refine V_bipush (v := nI 8) rfl (by decide) ?_
    refine V_ishlN rfl (by first | omega | decide) ?_
    refine V_aload_n rfl (by first | rfl | assumption) ?_
    refine V_getf rfl rfl rfl (by repeat (first | exact hup_eq | assumption | refine Eq.trans (hup_ne (by first | assumption | exact Ne.symm (by assumption) | decide | omega)) ?_)) (by first | rfl | assumption) ?_
    refine V_iload_n rfl (by first | rfl | assumption) ?_
    refine V_ialdN rfl (by repeat (first | exact hup_eq | assumption | refine Eq.trans (hup_ne (by first | assumption | exact Ne.symm (by assumption) | decide | omega)) ?_)) rfl (by first | omega | decide) (by first | omega | decide) ?_
    refine V_iorN 8 rfl (by first | omega | decide) (by decide) ?_
    refine V_istore_n rfl (by decide) ?_
    refine V_iincN (d := 1) rfl (by first | rfl | assumption) (by decide) (by decide) ?_
    refine V_goto rfl ?_
    refine ih _ _ ⟨l0, l1, rfl, rfl, _, rfl, ?_⟩
    have : i = 0 ∨ i = 1 ∨ i = 2 ∨ i = 3 := by omega
    rcases this with rfl | rfl | rfl | rfl
    · simp at hv ⊢; omega
    · simp at hv ⊢; omega
    · simp at hv ⊢; omega
    · simp [be4v] at hv ⊢; omega
  · rintro lc G' ⟨l0, l1, l3, rfl, v, l2, hv⟩
    refine V_iload_n rfl (by first | rfl | assumption) ?_
    refine V_iload_n rfl (by first | rfl | assumption) ?_
    refine V_iconst (v := nI 4) rfl (by decide) ?_
    refine V_iaddN rfl ?_
    refine V_icmp_geN rfl (by omega) (by omega) (fun _ => ?_) (fun h => absurd h (by omega))
    refine V_iload_n rfl (by first | rfl | assumption) ?_
    refine V_iret rfl rfl ?_
    rw [hv]
    exact hq
end CSeal2
