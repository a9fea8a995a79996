/-- a loop of n turns: its head, what holds there at turn i -/
theorem V_loop {K : kK} {bc bs : Nat} {M : kM} {head : Nat} {Q : kO → kG → Prop} (n : Nat) (I : Nat → kLo → kG → Prop)
    (hs : ∀ i lc G, i < n → I i lc G → (∀ lc' G', I (i + 1) lc' G' → V K bc bs M head lc' [] G' Q) → V K bc bs M head lc [] G Q)
    (hx : ∀ lc G, I n lc G → V K bc bs M head lc [] G Q) : ∀ (i : Nat) (lc : kLo) (G : kG), i ≤ n → I i lc G → V K bc bs M head lc [] G Q := by
  intro i
  generalize hm : n - i = m
  induction m generalizing i with
  | zero =>
    intro lc G hi h
    have : i = n := by omega
    subst this
    exact hx lc G h
  | succ m ih =>
    intro lc G hi h
    exact hs i lc G (by omega) h (fun lc' G' h' => ih (i + 1) (by omega) lc' G' (by omega) h')
section CRow3
variable {K : kK} {G : kG} {Q : kO → kG → Prop} {r b N n : Nat} {f : Nat → Int32}
theorem pb24 {m : Nat} (h : m < 2 ^ 31) : ((nI m).toUInt32 >>> ((24 : Int32).toUInt32 &&& Int32.toUInt32 31)).toInt32 &&& 255 = nI (m / 2 ^ 24 % 2 ^ 8) := by
  rw [pk_ushrN (by omega) 24 24 (by decide), pk_andN (Nat.lt_of_le_of_lt (Nat.div_le_self _ _) (by omega)) 8 (by decide)]
theorem pb16 {m : Nat} (h : m < 2 ^ 31) : ((nI m).toUInt32 >>> ((16 : Int32).toUInt32 &&& Int32.toUInt32 31)).toInt32 &&& 255 = nI (m / 2 ^ 16 % 2 ^ 8) := by
  rw [pk_ushrN (by omega) 16 16 (by decide), pk_andN (Nat.lt_of_le_of_lt (Nat.div_le_self _ _) (by omega)) 8 (by decide)]
theorem pb8 {m : Nat} (h : m < 2 ^ 31) : ((nI m).toUInt32 >>> ((8 : Int32).toUInt32 &&& Int32.toUInt32 31)).toInt32 &&& 255 = nI (m / 2 ^ 8 % 2 ^ 8) := by
  rw [pk_ushrN (by omega) 8 8 (by decide), pk_andN (Nat.lt_of_le_of_lt (Nat.div_le_self _ _) (by omega)) 8 (by decide)]
theorem pb0 {m : Nat} (h : m < 2 ^ 31) : ((nI m).toUInt32 >>> ((0 : Int32).toUInt32 &&& Int32.toUInt32 31)).toInt32 &&& 255 = nI (m % 2 ^ 8) := by
  rw [pk_ushrN (by omega) 0 0 (by decide), pk_andN (Nat.lt_of_le_of_lt (Nat.div_le_self _ _) (by omega)) 8 (by decide), Nat.pow_zero, Nat.div_one]
/-- four bytes of a number below 2^31, the highest first, from a place on -/
def big4 (f : Nat → Int32) (n m : Nat) : Nat → Int32 := upd (upd (upd (upd f n (nI (m / 2 ^ 24 % 2 ^ 8))) (n + 1) (nI (m / 2 ^ 16 % 2 ^ 8))) (n + 2) (nI (m / 2 ^ 8 % 2 ^ 8))) (n + 3) (nI (m % 2 ^ 8))
theorem c_Row_putBig {m : Nat} (hm : m < 2 ^ 31) (hr : G.1 r = some (.inr (5, [.ref b, .int (nI n)]))) (hb : G.1 b = some (.inl (0, N, .inl f))) (hn : n + 4 ≤ N) (hN : N < 2 ^ 30)
    (hq : Q (.inl none) (hup (hup G b (.inl (0, N, .inl (big4 f n m)))) r (.inr (5, [.ref b, .int (nI (n + 4))])))) : C K 0 0 mX6_putBig [.ref r, .int (nI m)] G Q := by
  refine C_of okX6_putBig (Nat.le_of_ble_eq_true rfl) ?_
  have hrb : r ≠ b := by rintro rfl; rw [hr] at hb; cases hb
  refine V_bipush (v := 24) rfl (by decide) ?_
  refine V_istore_n rfl (by decide) ?_
  refine V_iload_n rfl (by first | rfl | assumption) ?_
  refine V_if_lt rfl (fun h => absurd h (by decide)) (fun _ => ?_)
  refine V_aload_n rfl (by first | rfl | assumption) ?_
  refine V_iload_n rfl (by first | rfl | assumption) ?_
  refine V_iload_n rfl (by first | rfl | assumption) ?_
  refine V_iushr rfl ?_
  refine V_sipush (v := 255) rfl (by decide) ?_
  refine V_iand rfl ?_
  rw [pb24 hm]
  refine V_callV (M' := mX6_put) (mc := 0) (ms := 0) (bc' := 0) (bs' := 0) rfl cw_X6_27 iv_X6_put (by repeat (first | exact hup_eq | assumption | refine Eq.trans (hup_ne (by first | assumption | exact Ne.symm (by assumption) | decide)) ?_)) rfl rfl (Nat.le_of_ble_eq_true rfl) ⟨Nat.le_of_ble_eq_true rfl, Nat.le_of_ble_eq_true rfl⟩ ⟨Nat.le_of_ble_eq_true rfl, Nat.le_of_ble_eq_true rfl⟩ (As := [.int (nI (m / 2 ^ 24 % 2 ^ 8))]) (c_Row_put (Q := fun o G' => o = .inl none ∧ G' = (hup (hup G b (.inl (0, N, .inl (upd f n (nI (m / 2 ^ 24 % 2 ^ 8)))))) r (.inr (5, [.ref b, .int (nI (n + 1))])))) hr hb (by omega) (by omega) ⟨rfl, rfl⟩) (fun o G' h => ?_) (fun E G' h => by cases h.1)
  obtain ⟨h, rfl⟩ := h
  cases h
  refine V_iinc (v := 16) rfl (by first | rfl | assumption) (by decide) (by decide) ?_
  refine V_goto rfl ?_
  refine V_iload_n rfl (by first | rfl | assumption) ?_
  refine V_if_lt rfl (fun h => absurd h (by decide)) (fun _ => ?_)
  refine V_aload_n rfl (by first | rfl | assumption) ?_
  refine V_iload_n rfl (by first | rfl | assumption) ?_
  refine V_iload_n rfl (by first | rfl | assumption) ?_
  refine V_iushr rfl ?_
  refine V_sipush (v := 255) rfl (by decide) ?_
  refine V_iand rfl ?_
  rw [pb16 hm]
  refine V_callV (M' := mX6_put) (mc := 0) (ms := 0) (bc' := 0) (bs' := 0) rfl cw_X6_27 iv_X6_put (by repeat (first | exact hup_eq | assumption | refine Eq.trans (hup_ne (by first | assumption | exact Ne.symm (by assumption) | decide)) ?_)) rfl rfl (Nat.le_of_ble_eq_true rfl) ⟨Nat.le_of_ble_eq_true rfl, Nat.le_of_ble_eq_true rfl⟩ ⟨Nat.le_of_ble_eq_true rfl, Nat.le_of_ble_eq_true rfl⟩ (As := [.int (nI (m / 2 ^ 16 % 2 ^ 8))]) (c_Row_put (Q := fun o G' => o = .inl none ∧ G' = (hup (hup G b (.inl (0, N, .inl (upd (upd f n (nI (m / 2 ^ 24 % 2 ^ 8))) (n + 1) (nI (m / 2 ^ 16 % 2 ^ 8)))))) r (.inr (5, [.ref b, .int (nI (n + 2))])))) (by repeat (first | exact hup_eq | assumption | refine Eq.trans (hup_ne (by first | assumption | exact Ne.symm (by assumption) | decide)) ?_)) (by repeat (first | exact hup_eq | assumption | refine Eq.trans (hup_ne (by first | assumption | exact Ne.symm (by assumption) | decide)) ?_)) (by omega) (by omega) ⟨rfl, by rw [hup4 hrb]⟩) (fun o G' h => ?_) (fun E G' h => by cases h.1)
  obtain ⟨h, rfl⟩ := h
  cases h
  refine V_iinc (v := 8) rfl (by first | rfl | assumption) (by decide) (by decide) ?_
  refine V_goto rfl ?_
  refine V_iload_n rfl (by first | rfl | assumption) ?_
  refine V_if_lt rfl (fun h => absurd h (by decide)) (fun _ => ?_)
  refine V_aload_n rfl (by first | rfl | assumption) ?_
  refine V_iload_n rfl (by first | rfl | assumption) ?_
  refine V_iload_n rfl (by first | rfl | assumption) ?_
  refine V_iushr rfl ?_
  refine V_sipush (v := 255) rfl (by decide) ?_
  refine V_iand rfl ?_
  rw [pb8 hm]
  refine V_callV (M' := mX6_put) (mc := 0) (ms := 0) (bc' := 0) (bs' := 0) rfl cw_X6_27 iv_X6_put (by repeat (first | exact hup_eq | assumption | refine Eq.trans (hup_ne (by first | assumption | exact Ne.symm (by assumption) | decide)) ?_)) rfl rfl (Nat.le_of_ble_eq_true rfl) ⟨Nat.le_of_ble_eq_true rfl, Nat.le_of_ble_eq_true rfl⟩ ⟨Nat.le_of_ble_eq_true rfl, Nat.le_of_ble_eq_true rfl⟩ (As := [.int (nI (m / 2 ^ 8 % 2 ^ 8))]) (c_Row_put (Q := fun o G' => o = .inl none ∧ G' = (hup (hup G b (.inl (0, N, .inl (upd (upd (upd f n (nI (m / 2 ^ 24 % 2 ^ 8))) (n + 1) (nI (m / 2 ^ 16 % 2 ^ 8))) (n + 2) (nI (m / 2 ^ 8 % 2 ^ 8)))))) r (.inr (5, [.ref b, .int (nI (n + 3))])))) (by repeat (first | exact hup_eq | assumption | refine Eq.trans (hup_ne (by first | assumption | exact Ne.symm (by assumption) | decide)) ?_)) (by repeat (first | exact hup_eq | assumption | refine Eq.trans (hup_ne (by first | assumption | exact Ne.symm (by assumption) | decide)) ?_)) (by omega) (by omega) ⟨rfl, by rw [hup4 hrb]⟩) (fun o G' h => ?_) (fun E G' h => by cases h.1)
  obtain ⟨h, rfl⟩ := h
  cases h
  refine V_iinc (v := 0) rfl (by first | rfl | assumption) (by decide) (by decide) ?_
  refine V_goto rfl ?_
  refine V_iload_n rfl (by first | rfl | assumption) ?_
  refine V_if_lt rfl (fun h => absurd h (by decide)) (fun _ => ?_)
  refine V_aload_n rfl (by first | rfl | assumption) ?_
  refine V_iload_n rfl (by first | rfl | assumption) ?_
  refine V_iload_n rfl (by first | rfl | assumption) ?_
  refine V_iushr rfl ?_
  refine V_sipush (v := 255) rfl (by decide) ?_
  refine V_iand rfl ?_
  rw [pb0 hm]
  refine V_callV (M' := mX6_put) (mc := 0) (ms := 0) (bc' := 0) (bs' := 0) rfl cw_X6_27 iv_X6_put (by repeat (first | exact hup_eq | assumption | refine Eq.trans (hup_ne (by first | assumption | exact Ne.symm (by assumption) | decide)) ?_)) rfl rfl (Nat.le_of_ble_eq_true rfl) ⟨Nat.le_of_ble_eq_true rfl, Nat.le_of_ble_eq_true rfl⟩ ⟨Nat.le_of_ble_eq_true rfl, Nat.le_of_ble_eq_true rfl⟩ (As := [.int (nI (m % 2 ^ 8))]) (c_Row_put (Q := fun o G' => o = .inl none ∧ G' = (hup (hup G b (.inl (0, N, .inl (big4 f n m)))) r (.inr (5, [.ref b, .int (nI (n + 4))])))) (by repeat (first | exact hup_eq | assumption | refine Eq.trans (hup_ne (by first | assumption | exact Ne.symm (by assumption) | decide)) ?_)) (by repeat (first | exact hup_eq | assumption | refine Eq.trans (hup_ne (by first | assumption | exact Ne.symm (by assumption) | decide)) ?_)) (by omega) (by omega) ⟨rfl, by rw [hup4 hrb]; rfl⟩) (fun o G' h => ?_) (fun E G' h => by cases h.1)
  obtain ⟨h, rfl⟩ := h
  cases h
  refine V_iinc (v := -8) rfl (by first | rfl | assumption) (by decide) (by decide) ?_
  refine V_goto rfl ?_
  refine V_iload_n rfl (by first | rfl | assumption) ?_
  refine V_if_lt rfl (fun _ => ?_) (fun h => absurd (by decide) h)
  exact V_vret rfl rfl hq
theorem ior_01 {a b : Int32} (ha : a = 0 ∨ a = 1) (hb : b = 0 ∨ b = 1) : a ||| b = if a = 0 ∧ b = 0 then 0 else 1 := by
  rcases ha with rfl | rfl <;> rcases hb with rfl | rfl <;> decide
def difA (f g : Nat → Int32) (s L : Nat) : Int32 := if ∀ j, j < L → f (s + j) = g j then 0 else 1
theorem difA_01 (f g : Nat → Int32) (s L : Nat) : difA f g s L = 0 ∨ difA f g s L = 1 := by unfold difA; split <;> simp
theorem difA_s {f g : Nat → Int32} {s i : Nat} {x : Int32} (hx : x = if f (s + i) = g i then 0 else 1) : difA f g s i ||| x = difA f g s (i + 1) := by
  have hx01 : x = 0 ∨ x = 1 := by rw [hx]; split <;> simp
  rw [ior_01 (difA_01 f g s i) hx01]
  unfold difA
  by_cases h1 : ∀ j, j < i → f (s + j) = g j
  · by_cases h2 : f (s + i) = g i
    · rw [if_pos h2] at hx
      subst hx
      have h3 : ∀ j, j < i + 1 → f (s + j) = g j := by
        intro j hj
        rcases Nat.lt_or_ge j i with q | q
        · exact h1 j q
        · have : j = i := by omega
          subst this
          exact h2
      rw [if_pos h1, if_pos (by simp), if_pos h3]
    · rw [if_neg h2] at hx
      subst hx
      rw [if_pos h1, if_neg (by decide), if_neg (fun q => h2 (q i (by omega)))]
  · rw [if_neg h1, if_neg (by simp), if_neg (fun q => h1 (fun j hj => q j (by omega)))]
theorem c_Row_differsAt {a s L : Nat} {g : Nat → Int32} (hr : G.1 r = some (.inr (5, [.ref b, .int (nI n)]))) (hb : G.1 b = some (.inl (0, N, .inl f))) (ha : G.1 a = some (.inl (0, L, .inl g))) (hn : n ≤ N) (hs : s + L ≤ n) (hN : N < 2 ^ 30)
    (hq : Q (.inl (some (.int (difA f g s L)))) G) : C K 0 0 mX6_differsAt [.ref r, .int (nI s), .ref a] G Q := by
  refine C_of okX6_differsAt (Nat.le_of_ble_eq_true rfl) ?_
  refine V_iconst (v := 0) rfl (by decide) ?_
  refine V_istore_n rfl (by decide) ?_
  refine V_iconst (v := 0) rfl (by decide) ?_
  refine V_istore rfl (by decide) ?_
  refine V_loop L (fun i lc G' => lc 0 = some (.ref r) ∧ lc 1 = some (.int (nI s)) ∧ lc 2 = some (.ref a) ∧ lc 3 = some (.int (difA f g s i)) ∧ lc 4 = some (.int (nI i)) ∧ G' = G) ?_ ?_ 0 _ _ (Nat.zero_le _) ⟨rfl, rfl, rfl, rfl, rfl, rfl⟩
  · rintro i lc G' hi ⟨l0, l1, l2, l3, l4, rfl⟩ ih
    refine V_iload rfl (by first | rfl | assumption) ?_
    refine V_aload_n rfl (by first | rfl | assumption) ?_
    refine V_alen rfl (by repeat (first | exact hup_eq | assumption | refine Eq.trans (hup_ne (by first | assumption | exact Ne.symm (by assumption) | decide)) ?_)) (by decide) ?_
    refine V_icmp_ge rfl (fun h => absurd h (nI_ge hi (by omega))) (fun _ => ?_)
    refine V_iload_n rfl (by first | rfl | assumption) ?_
    refine V_aload_n rfl (by first | rfl | assumption) ?_
    refine V_iload_n rfl (by first | rfl | assumption) ?_
    refine V_iload rfl (by first | rfl | assumption) ?_
    refine V_iadd rfl ?_
    rw [nI_add]
    refine V_callV (M' := mX6_holds) (mc := 0) (ms := 0) (bc' := 0) (bs' := 0) rfl cw_X6_31 iv_X6_holds (by repeat (first | exact hup_eq | assumption | refine Eq.trans (hup_ne (by first | assumption | exact Ne.symm (by assumption) | decide)) ?_)) rfl rfl (Nat.le_of_ble_eq_true rfl) ⟨Nat.le_of_ble_eq_true rfl, Nat.le_of_ble_eq_true rfl⟩ ⟨Nat.le_of_ble_eq_true rfl, Nat.le_of_ble_eq_true rfl⟩ (As := [.int (nI (s + i))]) (c_Row_holds (Q := fun o G'' => o = .inl (some (.int 1)) ∧ G'' = G') hr ⟨by rw [if_neg (fun q => q.elim (nI_pos (by omega)) (nI_ge (by omega) (by omega)))], rfl⟩) (fun o G'' h => ?_) (fun E G'' h => by cases h.1)
    obtain ⟨h, rfl⟩ := h
    cases h
    refine V_if_eq rfl (fun h => absurd h (by decide)) (fun _ => ?_)
    refine V_aload_n rfl (by first | rfl | assumption) ?_
    refine V_getf rfl rfl rfl (by repeat (first | exact hup_eq | assumption | refine Eq.trans (hup_ne (by first | assumption | exact Ne.symm (by assumption) | decide)) ?_)) rfl ?_
    refine V_iload_n rfl (by first | rfl | assumption) ?_
    refine V_iload rfl (by first | rfl | assumption) ?_
    refine V_iadd rfl ?_
    refine V_ialdJ rfl hb (nI_add s i) (by omega) (by omega) ?_
    refine V_aload_n rfl (by first | rfl | assumption) ?_
    refine V_iload rfl (by first | rfl | assumption) ?_
    refine V_ialdJ rfl ha rfl hi (by omega) ?_
    refine V_icmp_eq rfl (fun h => ?_) (fun h => ?_)
    · refine V_iconst (v := 0) rfl (by decide) ?_
      refine V_ior rfl ?_
      refine V_istore_n rfl (by decide) ?_
      rw [difA_s (x := 0) (by rw [if_pos h])]
      refine V_iinc rfl (by first | rfl | assumption) rfl (by decide) ?_
      refine V_goto rfl ?_
      exact ih _ _ ⟨l0, l1, l2, rfl, congrArg (fun z => some (Value.int z)) (nI_1 i), rfl⟩
    · refine V_iconst (v := 1) rfl (by decide) ?_
      refine V_goto rfl ?_
      refine V_ior rfl ?_
      rw [difA_s (x := 1) (by rw [if_neg h])]
      refine V_istore_n rfl (by decide) ?_
      refine V_iinc rfl (by first | rfl | assumption) rfl (by decide) ?_
      refine V_goto rfl ?_
      exact ih _ _ ⟨l0, l1, l2, rfl, congrArg (fun z => some (Value.int z)) (nI_1 i), rfl⟩
  · rintro lc G' ⟨l0, l1, l2, l3, l4, rfl⟩
    refine V_iload rfl (by first | rfl | assumption) ?_
    refine V_aload_n rfl (by first | rfl | assumption) ?_
    refine V_alen rfl (by repeat (first | exact hup_eq | assumption | refine Eq.trans (hup_ne (by first | assumption | exact Ne.symm (by assumption) | decide)) ?_)) (by decide) ?_
    refine V_icmp_ge rfl (fun _ => ?_) (fun h => absurd (nI_le (Nat.le_refl L) (by omega)) h)
    refine V_iload_n rfl (by first | rfl | assumption) ?_
    exact V_zret rfl rfl (difA_01 _ _ _ _) hq
end CRow3
