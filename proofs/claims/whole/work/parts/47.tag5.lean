section CTag5
variable {K : kK} {G : kG} {Q : kO → kG → Prop}
theorem FR.rf {S : List Nat} : FR S G G := ⟨rfl, fun _ _ => rfl⟩
theorem FR.hup {S : List Nat} {G' : kG} {k : Nat} {e : kE} (h : FR S G G') (hk : k ∈ S) : FR S G (hup G' k e) := ⟨h.1, fun j hj => (hup_ne (fun q => hj (by rw [q]; exact hk))).trans (h.2 j hj)⟩
theorem FR.trans {S S' : List Nat} {G' G'' : kG} (h : FR S G G') (h' : FR S' G' G'') (hs : ∀ x, x ∈ S' → x ∈ S) : FR S G G'' := ⟨h'.1.trans h.1, fun j hj => (h'.2 j (fun q => hj (hs j q))).trans (h.2 j hj)⟩
theorem FR.get {S : List Nat} {G' : kG} {j : Nat} {e : Option kE} (h : FR S G G') (hj : j ∉ S) (he : G.1 j = e) : G'.1 j = e := (h.2 j hj).trans he
theorem FR.sub {S S' : List Nat} {G' : kG} (h : FR S G G') (hs : ∀ x, x ∈ S → x ∈ S') : FR S' G G' := ⟨h.1, fun j hj => h.2 j (fun q => hj (hs j q))⟩
def tgr (G : kG) : Prop := G.1 24 = some TGO ∧ (∃ b, G.1 25 = some (BA 16 b)) ∧ (∃ p, G.1 26 = some (BA 17 p)) ∧ (∃ z, G.1 27 = some (LA 5 z)) ∧ (∃ z, G.1 28 = some (LA 5 z)) ∧ ∃ z, G.1 29 = some (LA 5 z)
theorem m16_min {N i : Nat} (h : N < 2 ^ 20) : (if nI (N - 16 * i) < nI 16 then nI (N - 16 * i) else nI 16) = nI (m16 N i) := by
  unfold m16
  by_cases e : N - 16 * i < 16
  · rw [if_pos e, if_pos ((nI_ltI (by omega) (by decide)).mpr e)]
  · rw [if_neg e, if_neg (fun q => e ((nI_ltI (by omega) (by decide)).mp q))]
set_option maxHeartbeats 8000000 in
theorem c_tmake {a N s n k0 Nk : Nat} {f key : Nat → Nat} (ht : tgr G) (ga : G.1 a = some (BA N f)) (ha : a < 24 ∨ 29 < a) (hs : s + n ≤ N) (hN : N < 2 ^ 20) (hf : ∀ j, j < n → f (s + j) < 256) (gk : G.1 k0 = some (BA Nk key)) (hk0 : k0 < 24 ∨ 29 < k0) (hNk : 32 ≤ Nk ∧ Nk < 2 ^ 20) (hkb : ∀ j, j < 32 → key j < 256)
    (hq : ∀ G' b, FR [25, 26, 27, 28, 29] G G' → tgr G' → G'.1 25 = some (BA 16 b) → (∀ j, j < 16 → b j = TAG (fun j => f (s + j)) n key j) → Q (.inl none) G') : C K 0 0 mX9_make [.ref 24, .ref a, .int (nI s), .int (nI (s + n)), .ref k0] G Q := by
  obtain ⟨g24, ⟨b0, g25⟩, ⟨p0, g26⟩, ⟨r0, g27⟩, ⟨q0, g28⟩, ad0, g29⟩ := ht
  have na : a ∉ [25, 26, 27, 28, 29] := by simp; omega
  have nk : k0 ∉ [25, 26, 27, 28, 29] := by simp; omega
  refine C_of okX9_make (Nat.le_of_ble_eq_true rfl) ?_
  refine V_aload_n rfl (by first | rfl | assumption) ?_
  refine V_aload rfl (by first | rfl | assumption) ?_
  refine V_callV (M' := mX9_readFactor) (mc := 0) (ms := 0) (bc' := 0) (bs' := 0) rfl cw_X9_26 iv_X9_readFactor (by repeat (first | exact hup_eq | assumption | refine Eq.trans (hup_ne (by first | assumption | exact Ne.symm (by assumption) | decide)) ?_)) rfl rfl (Nat.le_of_ble_eq_true rfl) ⟨Nat.le_of_ble_eq_true rfl, Nat.le_of_ble_eq_true rfl⟩ ⟨Nat.le_of_ble_eq_true rfl, Nat.le_of_ble_eq_true rfl⟩ (As := [.ref k0]) (c_readFactor (Q := fun o G' => o = .inl none ∧ ∃ p r, vs (2 ^ 26) r 5 = rK key ∧ (∀ j, j < 5 → r j < 2 ^ 26) ∧ r 4 < 2 ^ 20 ∧ G' = hup (hup G 26 (BA 17 p)) 27 (LA 5 r)) g24 g26 g27 gk hNk hkb (fun p r h1 h2 h3 => ⟨rfl, p, r, h1, h2, h3, rfl⟩)) (fun o G' h => ?_) (fun E G' h => by cases h.1)
  obtain ⟨h, p, r, hr1, hr2, hr3, rfl⟩ := h
  cases h
  refine V_aload_n rfl (by first | rfl | assumption) ?_
  refine V_getf rfl rfl rfl (by repeat (first | exact hup_eq | assumption | refine Eq.trans (hup_ne (by first | assumption | exact Ne.symm (by assumption) | decide)) ?_)) (by first | rfl | assumption) ?_
  refine V_lconst (v := lN 0) rfl (by decide) ?_
  refine V_callS (M' := mJ7_fill_d0a16) (mc := 0) (ms := 0) (bc' := 0) (bs' := 0) rfl cw_X9_30 is_J7_fill_d0a16 rfl (Nat.le_of_ble_eq_true rfl) ⟨Nat.le_of_ble_eq_true rfl, Nat.le_of_ble_eq_true rfl⟩ ⟨Nat.le_of_ble_eq_true rfl, Nat.le_of_ble_eq_true rfl⟩ (As := [.ref 28, .long (lN 0)]) (c_fillL (Q := fun o G' => o = .inl none ∧ G' = hup (hup (hup G 26 (BA 17 p)) 27 (LA 5 r)) 28 (LA 5 (fun j => if j < 5 then 0 else q0 j))) (by repeat (first | exact hup_eq | assumption | refine Eq.trans (hup_ne (by first | assumption | exact Ne.symm (by assumption) | decide)) ?_)) (by decide) ⟨rfl, rfl⟩) (fun o G' h => ?_) (fun E G' h => by cases h.1)
  obtain ⟨h, rfl⟩ := h
  cases h
  refine V_iload_n rfl (by first | rfl | assumption) ?_
  refine V_istore rfl (by decide) ?_
  obtain ⟨nb, hnb⟩ : ∃ nb, nb = (n + 15) / 16 := ⟨_, rfl⟩
  refine V_loop nb (fun i lc G' => lc 0 = some (.ref 24) ∧ lc 1 = some (.ref a) ∧ lc 3 = some (.int (nI (s + n))) ∧ lc 4 = some (.ref k0) ∧ lc 5 = some (.int (nI (s + 16 * i))) ∧ FR [25, 26, 27, 28, 29] G G' ∧ G'.1 25 = some (BA 16 b0) ∧ (∃ p, G'.1 26 = some (BA 17 p)) ∧ G'.1 27 = some (LA 5 r) ∧ (∃ z, G'.1 29 = some (LA 5 z)) ∧ ∃ q, G'.1 28 = some (LA 5 q) ∧ q 0 < 2 ^ 33 ∧ (∀ j, 0 < j → j < 5 → q j < 2 ^ 26) ∧ vs (2 ^ 26) q 5 % PQ = tq (rK key) (fun j => f (s + j)) n i) ?_ ?_ 0 _ _ (Nat.zero_le _) ⟨rfl, rfl, rfl, rfl, rfl, ((FR.rf.hup (by decide)).hup (by decide)).hup (by decide), g25, ⟨p, rfl⟩, rfl, ⟨ad0, g29⟩, _, rfl, (show (if (0 : Nat) < 5 then 0 else q0 0) < 2 ^ 33 by rw [if_pos (by decide)]; decide), fun j hj hj2 => ?_, ?_⟩
  · rintro i lc G' hi ⟨l0, l1, l3, l4, l5, hF, e25, ⟨p1, e26⟩, e27, ⟨ad, e29⟩, q, e28, hq0, hqj, hqv⟩ ih
    have e24 := hF.get (by decide) g24
    have ea := hF.get na ga
    refine V_iload rfl (by first | rfl | assumption) ?_
    refine V_iload_n rfl (by first | rfl | assumption) ?_
    refine V_icmp_geN rfl (by omega) (by omega) (fun h => absurd h (by omega)) (fun _ => ?_)
    refine V_aload_n rfl (by first | rfl | assumption) ?_
    refine V_aload_n rfl (by first | rfl | assumption) ?_
    refine V_iload rfl (by first | rfl | assumption) ?_
    refine V_bipush (v := nI 16) rfl (by decide) ?_
    refine V_iload_n rfl (by first | rfl | assumption) ?_
    refine V_iload rfl (by first | rfl | assumption) ?_
    refine V_isubN rfl (by first | omega | decide) ?_
    rw [show s + n - (s + 16 * i) = n - 16 * i by omega]
    refine V_mmin rfl kmm (by decide) (Nat.le_of_ble_eq_true rfl) ?_
    rw [m16_min (by omega)]
    have hm : m16 n i ≤ 16 ∧ 16 * i + m16 n i ≤ n := by unfold m16; split <;> omega
    obtain ⟨m, hmm⟩ : ∃ m, m = m16 n i := ⟨_, rfl⟩
    rw [← hmm] at hm ⊢
    refine V_callV (M' := mX9_addPiece) (mc := 0) (ms := 0) (bc' := 0) (bs' := 0) rfl cw_X9_42 iv_X9_addPiece (by repeat (first | exact hup_eq | assumption | refine Eq.trans (hup_ne (by first | assumption | exact Ne.symm (by assumption) | decide)) ?_)) rfl rfl (Nat.le_of_ble_eq_true rfl) ⟨Nat.le_of_ble_eq_true rfl, Nat.le_of_ble_eq_true rfl⟩ ⟨Nat.le_of_ble_eq_true rfl, Nat.le_of_ble_eq_true rfl⟩ (As := [.ref a, .int (nI (s + 16 * i)), .int (nI m)]) (c_addPiece (f := f) (Q := fun o G'' => o = .inl none ∧ ∃ p ad q', vs (2 ^ 26) ad 5 = vs 256 (fun j => f (s + 16 * i + j)) m + 256 ^ m ∧ (∀ j, j < 5 → ad j < 2 ^ 26) ∧ (∀ j, j < 5 → q' j = q j + ad j) ∧ G'' = hup (hup (hup G' 26 (BA 17 p)) 29 (LA 5 ad)) 28 (LA 5 q')) e24 e26 e28 e29 ea (by rintro rfl; omega) hm.1 (by omega) hN (fun j hj => by rw [Nat.add_assoc]; exact hf _ (by omega)) (fun p ad q' h1 h2 h3 => ⟨rfl, p, ad, q', h1, h2, h3, rfl⟩)) (fun o G'' h => ?_) (fun E G'' h => by cases h.1)
    obtain ⟨h, p2, ad2, q2, h1, h2, h3, rfl⟩ := h
    cases h
    refine V_aload_n rfl (by first | rfl | assumption) ?_
    refine V_callV (M' := mX9_multiplyByFactor) (mc := 0) (ms := 0) (bc' := 0) (bs' := 0) rfl cw_X9_46 iv_X9_multiplyByFactor (by repeat (first | exact hup_eq | assumption | refine Eq.trans (hup_ne (by first | assumption | exact Ne.symm (by assumption) | decide)) ?_)) rfl rfl (Nat.le_of_ble_eq_true rfl) ⟨Nat.le_of_ble_eq_true rfl, Nat.le_of_ble_eq_true rfl⟩ ⟨Nat.le_of_ble_eq_true rfl, Nat.le_of_ble_eq_true rfl⟩ (As := []) (c_mulF (q := q2) (r := r) (Q := fun o G'' => o = .inl none ∧ ∃ ad q', vs (2 ^ 26) q' 5 % PQ = vs (2 ^ 26) q2 5 * vs (2 ^ 26) r 5 % PQ ∧ q' 0 < 2 ^ 33 ∧ (∀ j, 0 < j → j < 5 → q' j < 2 ^ 26) ∧ G'' = hup (hup (hup (hup (hup G' 26 (BA 17 p2)) 29 (LA 5 ad2)) 28 (LA 5 q2)) 29 (LA 5 ad)) 28 (LA 5 q')) (by repeat (first | exact hup_eq | assumption | refine Eq.trans (hup_ne (by first | assumption | exact Ne.symm (by assumption) | decide)) ?_)) (by repeat (first | exact hup_eq | assumption | refine Eq.trans (hup_ne (by first | assumption | exact Ne.symm (by assumption) | decide)) ?_)) (by repeat (first | exact hup_eq | assumption | refine Eq.trans (hup_ne (by first | assumption | exact Ne.symm (by assumption) | decide)) ?_)) (by repeat (first | exact hup_eq | assumption | refine Eq.trans (hup_ne (by first | assumption | exact Ne.symm (by assumption) | decide)) ?_)) (by rw [h3 0 (by decide)]; have := h2 0 (by decide); omega) (fun j hj hj2 => by rw [h3 j hj2]; have := h2 j hj2; have := hqj j hj hj2; omega) hr2 hr3 (fun ad q' k1 k2 k3 => ⟨rfl, ad, q', k1, k2, k3, rfl⟩)) (fun o G'' h => ?_) (fun E G'' h => by cases h.1)
    obtain ⟨h, ad3, q3, k1, k2, k3, rfl⟩ := h
    cases h
    refine V_iincN (d := 16) rfl (by first | rfl | assumption) (by decide) (by decide) ?_
    refine V_goto rfl ?_
    refine ih _ _ ⟨l0, l1, l3, l4, congrArg (fun z => some (Value.int (nI z))) (by omega), ((((hF.hup (by decide)).hup (by decide)).hup (by decide)).hup (by decide)).hup (by decide), e25, ⟨p2, rfl⟩, e27, ⟨ad3, rfl⟩, q3, rfl, k2, k3, ?_⟩
    rw [k1, hr1, vs_congr h3, vs_add, h1]
    simp only [tq]
    rw [← hmm, ← hqv, vs_congr (w := fun j => f (s + 16 * i + j)) (w' := fun j => f (s + (16 * i + j))) (fun j hj => by rw [Nat.add_assoc])]
    conv => rhs; rw [← Nat.mod_mul_mod, Nat.mod_add_mod, Nat.mod_mul_mod]
  · rintro lc G' ⟨l0, l1, l3, l4, l5, hF, e25, ⟨p1, e26⟩, e27, ⟨ad, e29⟩, q, e28, hq0, hqj, hqv⟩
    have e24 := hF.get (by decide) g24
    have ek := hF.get nk gk
    refine V_iload rfl (by first | rfl | assumption) ?_
    refine V_iload_n rfl (by first | rfl | assumption) ?_
    refine V_icmp_geN rfl (by omega) (by omega) (fun _ => ?_) (fun h => absurd h (by omega))
    refine V_aload_n rfl (by first | rfl | assumption) ?_
    refine V_callV (M' := mX9_settle) (mc := 0) (ms := 0) (bc' := 0) (bs' := 0) rfl cw_X9_49 iv_X9_settle (by repeat (first | exact hup_eq | assumption | refine Eq.trans (hup_ne (by first | assumption | exact Ne.symm (by assumption) | decide)) ?_)) rfl rfl (Nat.le_of_ble_eq_true rfl) ⟨Nat.le_of_ble_eq_true rfl, Nat.le_of_ble_eq_true rfl⟩ ⟨Nat.le_of_ble_eq_true rfl, Nat.le_of_ble_eq_true rfl⟩ (As := []) (c_tsettle (q := q) (Q := fun o G'' => o = .inl none ∧ G'' = hup G' 28 (LA 5 (ts5 q))) e24 e28 hq0 hqj ⟨rfl, rfl⟩) (fun o G'' h => ?_) (fun E G'' h => by cases h.1)
    obtain ⟨h, rfl⟩ := h
    cases h
    obtain ⟨t1, t2⟩ := ts5_ok hq0 hqj
    generalize ts5 q = q5 at *
    rw [hqv] at t1
    generalize hT : tq (rK key) (fun j => f (s + j)) n nb = T at *
    refine V_aload_n rfl (by first | rfl | assumption) ?_
    refine V_getf rfl rfl rfl (by repeat (first | exact hup_eq | assumption | refine Eq.trans (hup_ne (by first | assumption | exact Ne.symm (by assumption) | decide)) ?_)) (by first | rfl | assumption) ?_
    refine V_aload_n rfl (by first | rfl | assumption) ?_
    refine V_getf rfl rfl rfl (by repeat (first | exact hup_eq | assumption | refine Eq.trans (hup_ne (by first | assumption | exact Ne.symm (by assumption) | decide)) ?_)) (by first | rfl | assumption) ?_
    refine V_bipush (v := nI 16) rfl (by decide) ?_
    refine V_callS (M' := mX5_write) (mc := 0) (ms := 0) (bc' := 0) (bs' := 0) rfl cw_X9_52 is_X5_write rfl (Nat.le_of_ble_eq_true rfl) ⟨Nat.le_of_ble_eq_true rfl, Nat.le_of_ble_eq_true rfl⟩ ⟨Nat.le_of_ble_eq_true rfl, Nat.le_of_ble_eq_true rfl⟩ (As := [.ref 28, .ref 25, .int (nI 16)]) (c_writeV (x := q5) (o := b0) (Q := fun o G'' => o = .inl none ∧ ∃ y h, vs 256 y 16 + h * 256 ^ 16 = T ∧ (∀ j, j < 16 → y j < 256) ∧ G'' = hup (hup G' 28 (LA 5 q5)) 25 (BA 16 y)) (by repeat (first | exact hup_eq | assumption | refine Eq.trans (hup_ne (by first | assumption | exact Ne.symm (by assumption) | decide)) ?_)) (by repeat (first | exact hup_eq | assumption | refine Eq.trans (hup_ne (by first | assumption | exact Ne.symm (by assumption) | decide)) ?_)) (by decide) (by decide) (by decide) t2 (by decide) (by decide) (fun y h k1 k2 _ => ⟨rfl, y, h, k1.trans t1, k2, rfl⟩)) (fun o G'' h => ?_) (fun E G'' h => by cases h.1)
    obtain ⟨h, x, hh, hx1, hx2, rfl⟩ := h
    cases h
    have hF2 : FR [25, 26, 27, 28, 29] G (hup (hup G' 28 (LA 5 q5)) 25 (BA 16 x)) := (hF.hup (by decide)).hup (by decide)
    obtain ⟨G2, hG2⟩ : ∃ G2, G2 = hup (hup G' 28 (LA 5 q5)) 25 (BA 16 x) := ⟨_, rfl⟩
    have i24 : G2.1 24 = some TGO := by rw [hG2]; exact e24
    have i25 : G2.1 25 = some (BA 16 x) := by rw [hG2]; rfl
    have i26 : G2.1 26 = some (BA 17 p1) := by rw [hG2]; exact e26
    have i27 : G2.1 27 = some (LA 5 r) := by rw [hG2]; exact e27
    have i28 : G2.1 28 = some (LA 5 q5) := by rw [hG2]; rfl
    have i29 : G2.1 29 = some (LA 5 ad) := by rw [hG2]; exact e29
    rw [← hG2] at hF2 ⊢
    have ik := hF2.get nk gk
    have hk25 : k0 ≠ 25 := by omega
    clear hG2
    refine V_iconst (v := nI 0) rfl (by decide) ?_
    refine V_istore rfl (by decide) ?_
    refine V_iconst (v := nI 0) rfl (by decide) ?_
    refine V_istore rfl (by decide) ?_
    refine V_loop 16 (fun i lc G' => lc 0 = some (.ref 24) ∧ lc 4 = some (.ref k0) ∧ lc 6 = some (.int (nI i)) ∧ ∃ c y, lc 5 = some (.int (nI c)) ∧ c ≤ 1 ∧ (∀ j, j < i → y j < 256) ∧ (∀ j, ¬ j < i → y j = x j) ∧ vs 256 y i + c * 256 ^ i = vs 256 (fun j => x j + key (16 + j)) i ∧ G' = hup G2 25 (BA 16 y)) ?_ ?_ 0 _ _ (Nat.zero_le _) ⟨l0, l4, rfl, 0, x, rfl, by decide, fun j hj => absurd hj (Nat.not_lt_zero j), fun _ _ => rfl, by simp [vs], (hup_same (by exact i25)).symm⟩
    · rintro i lc G' hi ⟨l0, l4, l6, c, y, l5, hc, hy1, hy2, hy3, rfl⟩ ih
      refine V_iload rfl (by first | rfl | assumption) ?_
      refine V_bipush (v := nI 16) rfl (by decide) ?_
      refine V_icmp_geN rfl (by omega) (by decide) (fun h => absurd h (by omega)) (fun _ => ?_)
      have hyi := hy2 i (by omega)
      have hxi := hx2 i hi
      have hki := hkb (16 + i) (by omega)
      refine V_aload_n rfl (by first | rfl | assumption) ?_
      refine V_getf rfl rfl rfl (by repeat (first | exact hup_eq | assumption | refine Eq.trans (hup_ne (by first | assumption | exact Ne.symm (by assumption) | decide)) ?_)) (by first | rfl | assumption) ?_
      refine V_iload rfl (by first | rfl | assumption) ?_
      refine V_ialdN rfl (by repeat (first | exact hup_eq | assumption | refine Eq.trans (hup_ne (by first | assumption | exact Ne.symm (by assumption) | decide)) ?_)) rfl (by first | omega | decide) (by first | omega | decide) ?_
      refine V_aload rfl (by first | rfl | assumption) ?_
      refine V_bipush (v := nI 16) rfl (by decide) ?_
      refine V_iload rfl (by first | rfl | assumption) ?_
      refine V_iaddN rfl ?_
      refine V_ialdN rfl (by repeat (first | exact hup_eq | assumption | refine Eq.trans (hup_ne (by first | assumption | exact Ne.symm (by assumption) | decide)) ?_)) rfl (by first | omega | decide) (by first | omega | decide) ?_
      refine V_iaddN rfl ?_
      refine V_iload rfl (by first | rfl | assumption) ?_
      refine V_iaddN rfl ?_
      refine V_istore rfl (by decide) ?_
      refine V_aload_n rfl (by first | rfl | assumption) ?_
      refine V_getf rfl rfl rfl (by repeat (first | exact hup_eq | assumption | refine Eq.trans (hup_ne (by first | assumption | exact Ne.symm (by assumption) | decide)) ?_)) (by first | rfl | assumption) ?_
      refine V_iload rfl (by first | rfl | assumption) ?_
      refine V_iload rfl (by first | rfl | assumption) ?_
      refine V_sipush (v := nI 255) rfl (by decide) ?_
      refine V_iandN 8 rfl (by decide) (by decide) ?_
      refine V_iastN rfl (by repeat (first | exact hup_eq | assumption | refine Eq.trans (hup_ne (by first | assumption | exact Ne.symm (by assumption) | decide)) ?_)) rfl (by first | omega | decide) (by first | omega | decide) ?_
      refine V_iload rfl (by first | rfl | assumption) ?_
      refine V_bipush (v := nI 8) rfl (by decide) ?_
      refine V_ishrN rfl (by first | omega | decide) (by first | omega | decide) ?_
      refine V_istore rfl (by decide) ?_
      refine V_iincN (d := 1) rfl (by first | rfl | assumption) (by decide) (by decide) ?_
      refine V_goto rfl ?_
      rw [hup_hup]
      refine ih _ _ ⟨l0, l4, rfl, (y i + key (16 + i) + c) / 2 ^ 8, _, rfl, ?_, fun j hj => ?_, fun j hj => ?_, ?_, rfl⟩
      · omega
      · by_cases e : j = i
        · rw [e, updN_eq]; exact Nat.mod_lt _ (by decide)
        · rw [updN_ne e]; exact hy1 j (by omega)
      · rw [updN_ne (by omega)]; exact hy2 j (by omega)
      · refine vs_step (v := updN y i ((y i + key (16 + i) + c) % 2 ^ 8)) (c := c) ?_ ?_
        · rw [vs_congr (w' := y) (fun j hj => updN_ne (by omega))]
          exact hy3
        · rw [updN_eq, hyi]
          omega
    · rintro lc G' ⟨l0, l4, l6, c, y, l5, hc, hy1, hy2, hy3, rfl⟩
      refine V_iload rfl (by first | rfl | assumption) ?_
      refine V_bipush (v := nI 16) rfl (by decide) ?_
      refine V_icmp_geN rfl (by decide) (by decide) (fun _ => ?_) (fun h => absurd (by decide) h)
      refine V_vret rfl rfl (hq _ y (hF2.hup (by decide)) ⟨i24, ⟨y, rfl⟩, ⟨p1, i26⟩, ⟨r, i27⟩, ⟨q5, i28⟩, ad, i29⟩ rfl (fun j hj => ?_))
      unfold TAG
      rw [← hnb, hT, ← hx1, show vs 256 x 16 + hh * 256 ^ 16 + vs 256 (fun j => key (16 + j)) 16 = vs 256 y 16 + (c + hh) * 256 ^ 16 by rw [vs_add] at hy3; rw [Nat.add_mul]; omega, dig_hi hj]
      exact dig_uniq (by decide) hy1 rfl j hj
  · show (if j < 5 then 0 else q0 j) < _
    rw [if_pos hj2]; decide
  · rw [vs_congr (w' := fun _ => 0) (fun j hj => by rw [if_pos hj]), vs_zero]
    rfl
end CTag5
