section CSeal3
variable {K : kK} {G : kG} {Q : kO → kG → Prop}
theorem smr.fp {G' : kG} (h : smr G) (e : ∀ j, 20 ≤ j → j ≤ 23 → G'.1 j = G.1 j) : smr G' := by
  obtain ⟨h1, ⟨a, h2⟩, ⟨b, h3⟩, c, h4⟩ := h
  exact ⟨(e 20 (by omega) (by omega)).trans h1, ⟨a, (e 21 (by omega) (by omega)).trans h2⟩, ⟨b, (e 22 (by omega) (by omega)).trans h3⟩, c, (e 23 (by omega) (by omega)).trans h4⟩
theorem tgr.fp {G' : kG} (h : tgr G) (e : ∀ j, 24 ≤ j → j ≤ 29 → G'.1 j = G.1 j) : tgr G' := by
  obtain ⟨h1, ⟨a, h2⟩, ⟨b, h3⟩, ⟨c, h4⟩, ⟨d, h5⟩, f, h6⟩ := h
  exact ⟨(e 24 (by omega) (by omega)).trans h1, ⟨a, (e 25 (by omega) (by omega)).trans h2⟩, ⟨b, (e 26 (by omega) (by omega)).trans h3⟩, ⟨c, (e 27 (by omega) (by omega)).trans h4⟩, ⟨d, (e 28 (by omega) (by omega)).trans h5⟩, f, (e 29 (by omega) (by omega)).trans h6⟩
def slr (G : kG) : Prop := G.1 19 = some SLO ∧ smr G ∧ tgr G ∧ ∃ n b, G.1 30 = some (ROB 31 n) ∧ G.1 31 = some (BA 228 b)
theorem slr.fp {G' : kG} (h : slr G) (e : ∀ j, 19 ≤ j → j ≤ 31 → G'.1 j = G.1 j) : slr G' := by
  obtain ⟨h1, h2, h3, n, b, h4, h5⟩ := h
  exact ⟨(e 19 (by omega) (by omega)).trans h1, h2.fp (fun j a c => e j (by omega) (by omega)), h3.fp (fun j a c => e j (by omega) (by omega)), n, b, (e 30 (by omega) (by omega)).trans h4, (e 31 (by omega) (by omega)).trans h5⟩
/-- the tables of the class -/
def tbl (K : kK) (T : TB) : Prop := kSX K 0 = some (32, fun j => nI (nine j)) ∧ kSX K 1 = some (8, T.1) ∧ kSX K 2 = some (64, T.2.1) ∧ kSX K 3 = some (32, fun j => nI (T.2.2 j)) ∧ ∀ j, j < 32 → T.2.2 j < 16
theorem zb_le (n : Nat) (made : Bool) : zb n made ≤ 11 := by unfold zb; omega
theorem pln_len {p : List Nat} {made : Bool} : (pln p made).length = 5 + p.length + zb p.length made := by
  unfold pln be4
  simp
  omega
theorem pln_max {p : List Nat} {made : Bool} (h : p.length ≤ 200) : (pln p made).length ≤ (if made then 212 else 216) := by
  rw [pln_len]
  unfold zb
  cases made <;> simp <;> omega
theorem gD_of {f : Nat → Nat} {l : List Nat} (h : lst f l.length = l) {j : Nat} (hj : j < l.length) : gD l j = f j := (congrArg (fun q => gD q j) h.symm).trans (gD_lst hj)
theorem rep_s (n x : Nat) : List.replicate n x ++ [x] = List.replicate (n + 1) x := by
  rw [List.replicate_succ']
/-- a row's bytes hidden -/
theorem Rw_hid {T : TB} {h b : Nat → Nat} {n r d N : Nat} {l : List Nat} {f f' : Nat → Nat} {G' : kG} (h1 : G'.1 r = some (ROB d l.length)) (h2 : l.length ≤ N) (h3 : G'.1 d = some (BA N f')) (h4 : lst f l.length = l) (h5 : ∀ j, j < l.length → f j < 256) (h6 : ∀ j, j < l.length → f' j = f j ^^^ ksm T h b n j) : Rw G' r d N (hid T h b n l) := by
  have hl : (hid T h b n l).length = l.length := lst_len _ _
  refine ⟨by rw [hl]; exact h1, by rw [hl]; exact h2, f', h3, ?_, fun j hj => ?_⟩
  · rw [hl]
    unfold hid
    exact lst_congr (fun j hj => by rw [h6 j hj, ← h4, gD_lst hj])
  · rw [hl] at hj
    rw [h6 j hj]
    exact xor_b (h5 j hj) (ksm_lt _ _ _ _ _)
set_option maxHeartbeats 16000000 in
theorem c_close {pr pd k kh kb n r d m : Nat} {p : List Nat} {g0 : Nat → Nat} {h b : Nat → Nat} {made : Bool} {T : TB} (hT : tbl K T) (hs : slr G) (hp : Rw G pr pd 200 p) (gk : G.1 k = some (KYO kh kb made)) (gh : Rb G kh 32 h) (gb : Rb G kb 32 b) (gr : G.1 r = some (ROB d m)) (gd : G.1 d = some (BA 228 g0))
    (hc : 31 < pr ∧ 31 < pd ∧ 31 < k ∧ 31 < kh ∧ 31 < kb ∧ 31 < r ∧ 31 < d) (hd : r ≠ pr ∧ r ≠ pd ∧ r ≠ k ∧ r ≠ kh ∧ r ≠ kb ∧ d ≠ pr ∧ d ≠ pd ∧ d ≠ k ∧ d ≠ kh ∧ d ≠ kb) (hn : n < 2 ^ 31)
    (hq : ∀ G', FP (fun j => (19 ≤ j ∧ j ≤ 31) ∨ j = r ∨ j = d) G G' → slr G' → Rw G' r d 228 (pkt T made h b n p) → Q (.inl none) G') : C K 0 0 mX7_close [.ref 19, .ref pr, .ref k, .int (nI n), .ref r] G Q := by
  obtain ⟨p1, p2, pb, p3, p4, p5⟩ := id hp
  obtain ⟨g19, hsm, htg, n30, b30, g30, g31⟩ := id hs
  have hz := zb_le p.length made
  have hmx := pln_max (made := made) p2
  have hpl := pln_len (p := p) (made := made)
  obtain ⟨z, ez⟩ : ∃ z, z = zb p.length made := ⟨_, rfl⟩
  refine C_of okX7_close (Nat.le_of_ble_eq_true rfl) ?_
  refine V_aload_n rfl (by first | rfl | assumption) ?_
  refine V_getf rfl rfl rfl (by repeat (first | exact hup_eq | assumption | refine Eq.trans (hup_ne (by first | assumption | exact Ne.symm (by assumption) | decide | omega)) ?_)) (by first | rfl | assumption) ?_
  refine V_aload_n rfl (by first | rfl | assumption) ?_
  refine V_getf rfl rfl rfl (by repeat (first | exact hup_eq | assumption | refine Eq.trans (hup_ne (by first | assumption | exact Ne.symm (by assumption) | decide | omega)) ?_)) (by first | rfl | assumption) ?_
  refine V_callS (M' := mX7_zerosBehind) (mc := 0) (ms := 0) (bc' := 0) (bs' := 0) rfl cw_X7_44 is_X7_zerosBehind rfl (Nat.le_of_ble_eq_true rfl) ⟨Nat.le_of_ble_eq_true rfl, Nat.le_of_ble_eq_true rfl⟩ ⟨Nat.le_of_ble_eq_true rfl, Nat.le_of_ble_eq_true rfl⟩ (As := [.int (nI p.length), .int (bI made)]) (c_zerosBehind (n := p.length) (made := made) (Q := fun o G' => o = .inl (some (.int (nI z))) ∧ G' = G) (by omega) ⟨by rw [ez], rfl⟩) (fun o G' h => ?_) (fun E G' h => by cases h.1)
  obtain ⟨h0, rfl⟩ := h
  cases h0
  refine V_istore rfl (by decide) ?_
  refine V_aload rfl (by first | rfl | assumption) ?_
  refine V_callV (M' := mX6_clear) (mc := 0) (ms := 0) (bc' := 0) (bs' := 0) rfl cw_X7_48 iv_X6_clear (by repeat (first | exact hup_eq | assumption | refine Eq.trans (hup_ne (by first | assumption | exact Ne.symm (by assumption) | decide | omega)) ?_)) rfl rfl (Nat.le_of_ble_eq_true rfl) ⟨Nat.le_of_ble_eq_true rfl, Nat.le_of_ble_eq_true rfl⟩ ⟨Nat.le_of_ble_eq_true rfl, Nat.le_of_ble_eq_true rfl⟩ (As := []) (c_clearU (Q := fun o G1 => o = .inl none ∧ FP (fun j => j = r) G' G1 ∧ Rw G1 r d 228 []) gr gd (fun G1 h1 h2 => ⟨rfl, h1, h2⟩)) (fun o G1 h => ?_) (fun E G' h => by cases h.1)
  obtain ⟨h0, F1, r1⟩ := h
  cases h0
  have q1 := F1.get (by omega) p1
  have hr1 := r1.1
  refine V_aload rfl (by first | rfl | assumption) ?_
  refine V_iconst (v := nI 1) rfl (by decide) ?_
  refine V_aload_n rfl (by first | rfl | assumption) ?_
  refine V_getf rfl rfl rfl (by repeat (first | exact hup_eq | assumption | refine Eq.trans (hup_ne (by first | assumption | exact Ne.symm (by assumption) | decide | omega)) ?_)) (by first | rfl | assumption) ?_
  refine V_iaddN rfl ?_
  refine V_iload rfl (by first | rfl | assumption) ?_
  refine V_iaddN rfl ?_
  refine V_callV (M' := mX6_putBig) (mc := 0) (ms := 0) (bc' := 0) (bs' := 0) rfl cw_X7_51 iv_X6_putBig (by repeat (first | exact hup_eq | assumption | refine Eq.trans (hup_ne (by first | assumption | exact Ne.symm (by assumption) | decide | omega)) ?_)) rfl rfl (Nat.le_of_ble_eq_true rfl) ⟨Nat.le_of_ble_eq_true rfl, Nat.le_of_ble_eq_true rfl⟩ ⟨Nat.le_of_ble_eq_true rfl, Nat.le_of_ble_eq_true rfl⟩ (As := [.int (nI (1 + p.length + z))]) (c_putBigL (Q := fun o G2 => o = .inl none ∧ FP (fun j => j = r ∨ j = d) G1 G2 ∧ Rw G2 r d 228 (be4 (1 + p.length + z))) (by omega) r1 (by decide) (by decide) (fun G1 h1 h2 => ⟨rfl, h1, h2⟩)) (fun o G2 h => ?_) (fun E G' h => by cases h.1)
  obtain ⟨h0, F2, r2⟩ := h
  cases h0
  have F2' : FP (fun j => j = r ∨ j = d) G' G2 := (F1.sub (fun x hx => Or.inl hx)).trans F2 (fun x hx => hx)
  have hr2 := r2.1
  refine V_aload rfl (by first | rfl | assumption) ?_
  refine V_iload rfl (by first | rfl | assumption) ?_
  refine V_callV (M' := mX6_put) (mc := 0) (ms := 0) (bc' := 0) (bs' := 0) rfl cw_X7_54 iv_X6_put (by repeat (first | exact hup_eq | assumption | refine Eq.trans (hup_ne (by first | assumption | exact Ne.symm (by assumption) | decide | omega)) ?_)) rfl rfl (Nat.le_of_ble_eq_true rfl) ⟨Nat.le_of_ble_eq_true rfl, Nat.le_of_ble_eq_true rfl⟩ ⟨Nat.le_of_ble_eq_true rfl, Nat.le_of_ble_eq_true rfl⟩ (As := [.int (nI z)]) (c_putL (Q := fun o G3 => o = .inl none ∧ FP (fun j => j = r ∨ j = d) G2 G3 ∧ Rw G3 r d 228 (be4 (1 + p.length + z) ++ [z])) r2 (show 4 < 228 by decide) (by decide) (by omega) (fun G1 h1 h2 => ⟨rfl, h1, h2⟩)) (fun o G3 h => ?_) (fun E G' h => by cases h.1)
  obtain ⟨h0, F3, r3⟩ := h
  cases h0
  have F3' : FP (fun j => j = r ∨ j = d) G' G3 := F2'.trans F3 (fun x hx => hx)
  have q3 := F3'.get (by omega) p1
  have q3' := F3'.get (by omega) p3
  have hr3 := r3.1
  refine V_aload rfl (by first | rfl | assumption) ?_
  refine V_aload_n rfl (by first | rfl | assumption) ?_
  refine V_getf rfl rfl rfl (by repeat (first | exact hup_eq | assumption | refine Eq.trans (hup_ne (by first | assumption | exact Ne.symm (by assumption) | decide | omega)) ?_)) (by first | rfl | assumption) ?_
  refine V_iconst (v := nI 0) rfl (by decide) ?_
  refine V_aload_n rfl (by first | rfl | assumption) ?_
  refine V_getf rfl rfl rfl (by repeat (first | exact hup_eq | assumption | refine Eq.trans (hup_ne (by first | assumption | exact Ne.symm (by assumption) | decide | omega)) ?_)) (by first | rfl | assumption) ?_
  refine V_callV (M' := mX6_putAll) (mc := 0) (ms := 0) (bc' := 0) (bs' := 0) rfl cw_X7_61 iv_X6_putAll (by repeat (first | exact hup_eq | assumption | refine Eq.trans (hup_ne (by first | assumption | exact Ne.symm (by assumption) | decide | omega)) ?_)) rfl rfl (Nat.le_of_ble_eq_true rfl) ⟨Nat.le_of_ble_eq_true rfl, Nat.le_of_ble_eq_true rfl⟩ ⟨Nat.le_of_ble_eq_true rfl, Nat.le_of_ble_eq_true rfl⟩ (As := [.ref pd, .int (nI 0), .int (nI p.length)]) (c_putAllL (g := pb) (Q := fun o G4 => o = .inl none ∧ FP (fun j => j = r ∨ j = d) G3 G4 ∧ Rw G4 r d 228 (be4 (1 + p.length + z) ++ [z] ++ p)) r3 q3' (by omega) (show 5 + p.length ≤ 228 by omega) (by decide) (by decide) (fun j hj => by rw [Nat.zero_add]; exact p5 j hj) (fun G1 h1 h2 => ⟨rfl, h1, by rw [lst_congr (g := pb) (fun j _ => by rw [Nat.zero_add]), p4] at h2; exact h2⟩)) (fun o G4 h => ?_) (fun E G' h => by cases h.1)
  obtain ⟨h0, F4, r4⟩ := h
  cases h0
  have F4' : FP (fun j => j = r ∨ j = d) G' G4 := F3'.trans F4 (fun x hx => hx)
  refine V_iconst (v := nI 0) rfl (by decide) ?_
  refine V_istore rfl (by decide) ?_
  refine V_loop z (fun i lc G5 => lc 0 = some (.ref 19) ∧ lc 2 = some (.ref k) ∧ lc 3 = some (.int (nI n)) ∧ lc 4 = some (.ref r) ∧ lc 5 = some (.int (nI z)) ∧ lc 6 = some (.int (nI i)) ∧ FP (fun j => j = r ∨ j = d) G' G5 ∧ Rw G5 r d 228 (be4 (1 + p.length + z) ++ [z] ++ p ++ List.replicate i 0)) ?_ ?_ 0 _ _ (Nat.zero_le _) ⟨rfl, rfl, rfl, rfl, rfl, rfl, F4', by simpa using r4⟩
  · rintro i lc G5 hi ⟨l0, l2, l3, l4, l5, l6, F5, r5⟩ ih
    refine V_iload rfl (by first | rfl | assumption) ?_
    refine V_iload rfl (by first | rfl | assumption) ?_
    refine V_icmp_geN rfl (by omega) (by omega) (fun h => absurd h (by omega)) (fun _ => ?_)
    have hr5 := r5.1
    refine V_aload rfl (by first | rfl | assumption) ?_
    refine V_iconst (v := nI 0) rfl (by decide) ?_
    refine V_callV (M' := mX6_put) (mc := 0) (ms := 0) (bc' := 0) (bs' := 0) rfl cw_X7_54 iv_X6_put (by repeat (first | exact hup_eq | assumption | refine Eq.trans (hup_ne (by first | assumption | exact Ne.symm (by assumption) | decide | omega)) ?_)) rfl rfl (Nat.le_of_ble_eq_true rfl) ⟨Nat.le_of_ble_eq_true rfl, Nat.le_of_ble_eq_true rfl⟩ ⟨Nat.le_of_ble_eq_true rfl, Nat.le_of_ble_eq_true rfl⟩ (As := [.int (nI 0)]) (c_putL (Q := fun o G6 => o = .inl none ∧ FP (fun j => j = r ∨ j = d) G5 G6 ∧ Rw G6 r d 228 (be4 (1 + p.length + z) ++ [z] ++ p ++ List.replicate i 0 ++ [0])) r5 (by simp [be4]; omega) (by decide) (by decide) (fun G1 h1 h2 => ⟨rfl, h1, h2⟩)) (fun o G6 h => ?_) (fun E G' h => by cases h.1)
    obtain ⟨h0, F6, r6⟩ := h
    cases h0
    refine V_iincN (d := 1) rfl (by first | rfl | assumption) (by decide) (by decide) ?_
    refine V_goto rfl ?_
    refine ih _ _ ⟨l0, l2, l3, l4, l5, rfl, F5.trans F6 (fun x hx => hx), ?_⟩
    rw [List.append_assoc, rep_s] at r6
    exact r6
  · rintro lc G5 ⟨l0, l2, l3, l4, l5, l6, F5, r5⟩
    refine V_iload rfl (by first | rfl | assumption) ?_
    refine V_iload rfl (by first | rfl | assumption) ?_
    refine V_icmp_geN rfl (by omega) (by omega) (fun _ => ?_) (fun h => absurd (Nat.le_refl _) h)
    have r5' : Rw G5 r d 228 (pln p made) := by unfold pln; rw [← ez]; exact r5
    clear r5
    have qk := F5.get (by omega) gk
    have s5 : slr G5 := hs.fp (fun j a c => F5.2 j (by omega))
    refine V_aload_n rfl (by first | rfl | assumption) ?_
    refine V_getf rfl rfl rfl (by repeat (first | exact hup_eq | assumption | refine Eq.trans (hup_ne (by first | assumption | exact Ne.symm (by assumption) | decide | omega)) ?_)) (by first | rfl | assumption) ?_
    cases made with
    | false =>
      refine V_if_eq rfl (fun _ => ?_) (fun h => absurd rfl h)
      exact V_vret rfl rfl (hq G5 (F5.sub (fun x hx => Or.inr hx)) s5 r5')
    | true =>
      refine V_if_eq rfl (fun h => absurd h (by decide)) (fun _ => ?_)
      have m5 : (pln p true).length ≤ 212 := hmx
      obtain ⟨a1, a2, f5, a3, a4, a5⟩ := id r5'
      have h5 := gh.fp (G' := G5) (F5.2 _ (by omega))
      have b5 := gb.fp (G' := G5) (F5.2 _ (by omega))
      have e19 := s5.1
      refine V_aload_n rfl (by first | rfl | assumption) ?_
      refine V_aload rfl (by first | rfl | assumption) ?_
      refine V_aload_n rfl (by first | rfl | assumption) ?_
      refine V_iload_n rfl (by first | rfl | assumption) ?_
      refine V_callV (M' := mX7_hide) (mc := 0) (ms := 0) (bc' := 0) (bs' := 0) rfl cw_X7_65 iv_X7_hide (by repeat (first | exact hup_eq | assumption | refine Eq.trans (hup_ne (by first | assumption | exact Ne.symm (by assumption) | decide | omega)) ?_)) rfl rfl (Nat.le_of_ble_eq_true rfl) ⟨Nat.le_of_ble_eq_true rfl, Nat.le_of_ble_eq_true rfl⟩ ⟨Nat.le_of_ble_eq_true rfl, Nat.le_of_ble_eq_true rfl⟩ (As := [.ref r, .ref k, .int (nI n)]) (c_hide (T := T) (f := f5) (Q := fun o G6 => o = .inl none ∧ FP (fun j => j = 21 ∨ j = 22 ∨ j = 23 ∨ j = d) G5 G6 ∧ smr G6 ∧ ∃ f', G6.1 d = some (BA 228 f') ∧ ∀ j, j < (pln p true).length → f' j = f5 j ^^^ ksm T h b n j) hT.2.2.2.1 hT.2.2.2.2 e19 s5.2.1 a1 a3 (by omega) (by omega) (by omega) qk h5 b5 (by omega) hn (fun G6 f' h1 h2 h3 h4 => ⟨rfl, h1, h2, f', h3, h4⟩)) (fun o G6 h => ?_) (fun E G' h => by cases h.1)
      obtain ⟨h0, F6, s6, f6, e6, e6'⟩ := h
      cases h0
      have hrd : r ≠ d := by rintro rfl; rw [gr] at gd; cases gd
      have r6 : Rw G6 r d 228 (hid T h b n (pln p true)) := Rw_hid (F6.get (by omega) a1) a2 e6 a4 a5 e6'
      generalize hX : hid T h b n (pln p true) = X at *
      have hXl : X.length ≤ 212 := by rw [← hX]; show (lst _ _).length ≤ 212; rw [lst_len]; exact m5
      have F6' : FP (fun j => (19 ≤ j ∧ j ≤ 31) ∨ j = r ∨ j = d) G' G6 := (F5.sub (fun x hx => Or.inr hx)).trans F6 (fun x hx => by omega)
      have t6 : tgr G6 := s5.2.2.1.fp (fun j a c => F6.2 j (by omega))
      have e19 : G6.1 19 = some SLO := F6.get (by omega) e19
      have e30 : G6.1 30 = some (ROB 31 n30) := F6.get (by omega) (F5.get (by omega) g30)
      have e31 : G6.1 31 = some (BA 228 b30) := F6.get (by omega) (F5.get (by omega) g31)
      have ek : G6.1 k = some (KYO kh kb true) := F6.get (by omega) qk
      obtain ⟨b9, eb, hb1, hb2⟩ := b5.fp (G' := G6) (F6.2 _ (by omega))
      clear e6' r5' a4 a5
      have e20 := s6.1
      refine V_aload_n rfl (by first | rfl | assumption) ?_
      refine V_getf rfl rfl rfl (by repeat (first | exact hup_eq | assumption | refine Eq.trans (hup_ne (by first | assumption | exact Ne.symm (by assumption) | decide | omega)) ?_)) (by first | rfl | assumption) ?_
      refine V_aload_n rfl (by first | rfl | assumption) ?_
      refine V_getf rfl rfl rfl (by repeat (first | exact hup_eq | assumption | refine Eq.trans (hup_ne (by first | assumption | exact Ne.symm (by assumption) | decide | omega)) ?_)) (by first | rfl | assumption) ?_
      refine V_iload_n rfl (by first | rfl | assumption) ?_
      refine V_i2lN rfl (by first | omega | decide) ?_
      refine V_iconst (v := nI 0) rfl (by decide) ?_
      refine V_callV (M' := mX8_make) (mc := 0) (ms := 0) (bc' := 0) (bs' := 0) rfl cw_X7_72 iv_X8_make (by repeat (first | exact hup_eq | assumption | refine Eq.trans (hup_ne (by first | assumption | exact Ne.symm (by assumption) | decide | omega)) ?_)) rfl rfl (Nat.le_of_ble_eq_true rfl) ⟨Nat.le_of_ble_eq_true rfl, Nat.le_of_ble_eq_true rfl⟩ ⟨Nat.le_of_ble_eq_true rfl, Nat.le_of_ble_eq_true rfl⟩ (As := [.ref kb, .long (lN n), .int (nI 0)]) (c_smake (key := b9) (Q := fun o G7 => o = .inl none ∧ ∃ s, FR [21, 22, 23] G6 G7 ∧ smr G7 ∧ G7.1 21 = some (BA 64 s) ∧ ∀ j, j < 64 → s j = STRM T.2.2 b n 0 j) hT.2.2.2.1 hT.2.2.2.2 s6 eb (by decide) (by omega) (fun j hj => by rw [hb1 j hj]; exact hb2 j hj) (by omega) (fun G7 s h1 h2 h3 h4 => ⟨rfl, s, h1, h2, h3, fun j hj => by rw [h4 j hj, STRM_congr hb1]⟩)) (fun o G7 h => ?_) (fun E G' h => by cases h.1)
      obtain ⟨h0, s, F7, s7, e21, hs7⟩ := h
      cases h0
      have F7p : FP (fun j => j = 21 ∨ j = 22 ∨ j = 23) G6 G7 := F7.P (by intro x hx; simp at hx; omega)
      have r7 : Rw G7 r d 228 X := r6.fp (F7p.2 _ (by omega)) (F7p.2 _ (by omega))
      have t7 : tgr G7 := t6.fp (fun j a c => F7p.2 j (by omega))
      have e19 : G7.1 19 = some SLO := F7p.get (by omega) e19
      have e30 : G7.1 30 = some (ROB 31 n30) := F7p.get (by omega) e30
      have e31 : G7.1 31 = some (BA 228 b30) := F7p.get (by omega) e31
      obtain ⟨a1, a2, f7, a3, a4, a5⟩ := id r7
      have e20 := s7.1
      have e24 := t7.1
      refine V_aload_n rfl (by first | rfl | assumption) ?_
      refine V_getf rfl rfl rfl (by repeat (first | exact hup_eq | assumption | refine Eq.trans (hup_ne (by first | assumption | exact Ne.symm (by assumption) | decide | omega)) ?_)) (by first | rfl | assumption) ?_
      refine V_aload rfl (by first | rfl | assumption) ?_
      refine V_getf rfl rfl rfl (by repeat (first | exact hup_eq | assumption | refine Eq.trans (hup_ne (by first | assumption | exact Ne.symm (by assumption) | decide | omega)) ?_)) (by first | rfl | assumption) ?_
      refine V_iconst (v := nI 0) rfl (by decide) ?_
      refine V_aload rfl (by first | rfl | assumption) ?_
      refine V_getf rfl rfl rfl (by repeat (first | exact hup_eq | assumption | refine Eq.trans (hup_ne (by first | assumption | exact Ne.symm (by assumption) | decide | omega)) ?_)) (by first | rfl | assumption) ?_
      refine V_aload_n rfl (by first | rfl | assumption) ?_
      refine V_getf rfl rfl rfl (by repeat (first | exact hup_eq | assumption | refine Eq.trans (hup_ne (by first | assumption | exact Ne.symm (by assumption) | decide | omega)) ?_)) (by first | rfl | assumption) ?_
      refine V_getf rfl rfl rfl (by repeat (first | exact hup_eq | assumption | refine Eq.trans (hup_ne (by first | assumption | exact Ne.symm (by assumption) | decide | omega)) ?_)) (by first | rfl | assumption) ?_
      refine V_callV (M' := mX9_make) (mc := 0) (ms := 0) (bc' := 0) (bs' := 0) rfl cw_X7_77 iv_X9_make (by repeat (first | exact hup_eq | assumption | refine Eq.trans (hup_ne (by first | assumption | exact Ne.symm (by assumption) | decide | omega)) ?_)) rfl rfl (Nat.le_of_ble_eq_true rfl) ⟨Nat.le_of_ble_eq_true rfl, Nat.le_of_ble_eq_true rfl⟩ ⟨Nat.le_of_ble_eq_true rfl, Nat.le_of_ble_eq_true rfl⟩ (As := [.ref d, .int (nI 0), .int (nI X.length), .ref 21]) (by
        have e := c_tmake (K := K) (G := G7) (a := d) (s := 0) (n := X.length) (k0 := 21) (key := s) (f := f7) (Q := fun o G8 => o = .inl none ∧ ∃ t, FR [25, 26, 27, 28, 29] G7 G8 ∧ tgr G8 ∧ G8.1 25 = some (BA 16 t) ∧ ∀ j, j < 16 → t j = TAG (gD X) X.length (STRM T.2.2 b n 0) j) t7 a3 (by omega) (by omega) (by decide) (fun j hj => by rw [Nat.zero_add]; exact a5 j hj) e21 (by omega) (by decide) (fun j hj => by rw [hs7 j (by omega)]; exact STRM_lt _ _ _ _ _) (fun G8 t h1 h2 h3 h4 => ⟨rfl, t, h1, h2, h3, fun j hj => by rw [h4 j hj]; exact TAG_congr (fun i hi => by rw [gD_of a4 hi, Nat.zero_add]) (fun i hi => hs7 i (by omega)) j⟩)
        rw [Nat.zero_add] at e
        exact e) (fun o G8 h => ?_) (fun E G' h => by cases h.1)
      obtain ⟨h0, t, F8, t8, e25, ht8⟩ := h
      cases h0
      have F8p : FP (fun j => 25 ≤ j ∧ j ≤ 29) G7 G8 := F8.P (by intro x hx; simp at hx; omega)
      have r8 : Rw G8 r d 228 X := r7.fp (F8p.2 _ (by omega)) (F8p.2 _ (by omega))
      have hr8 := r8.1
      have e19 : G8.1 19 = some SLO := F8p.get (by omega) e19
      have e30 : G8.1 30 = some (ROB 31 n30) := F8p.get (by omega) e30
      have e31 : G8.1 31 = some (BA 228 b30) := F8p.get (by omega) e31
      have e24 := t8.1
      have s8 : smr G8 := s7.fp (fun j a c => F8p.2 j (by omega))
      refine V_aload rfl (by first | rfl | assumption) ?_
      refine V_aload_n rfl (by first | rfl | assumption) ?_
      refine V_getf rfl rfl rfl (by repeat (first | exact hup_eq | assumption | refine Eq.trans (hup_ne (by first | assumption | exact Ne.symm (by assumption) | decide | omega)) ?_)) (by first | rfl | assumption) ?_
      refine V_getf rfl rfl rfl (by repeat (first | exact hup_eq | assumption | refine Eq.trans (hup_ne (by first | assumption | exact Ne.symm (by assumption) | decide | omega)) ?_)) (by first | rfl | assumption) ?_
      refine V_iconst (v := nI 0) rfl (by decide) ?_
      refine V_bipush (v := nI 16) rfl (by decide) ?_
      refine V_callV (M' := mX6_putAll) (mc := 0) (ms := 0) (bc' := 0) (bs' := 0) rfl cw_X7_61 iv_X6_putAll (by repeat (first | exact hup_eq | assumption | refine Eq.trans (hup_ne (by first | assumption | exact Ne.symm (by assumption) | decide | omega)) ?_)) rfl rfl (Nat.le_of_ble_eq_true rfl) ⟨Nat.le_of_ble_eq_true rfl, Nat.le_of_ble_eq_true rfl⟩ ⟨Nat.le_of_ble_eq_true rfl, Nat.le_of_ble_eq_true rfl⟩ (As := [.ref 25, .int (nI 0), .int (nI 16)]) (c_putAllL (g := t) (Q := fun o G9 => o = .inl none ∧ FP (fun j => j = r ∨ j = d) G8 G9 ∧ Rw G9 r d 228 (X ++ tgL T b n X)) r8 e25 (by decide) (by omega) (by decide) (by decide) (fun j hj => by rw [Nat.zero_add, ht8 j hj]; exact TAG_lt _ _ _ _) (fun G1 h1 h2 => ⟨rfl, h1, by unfold tgL; rw [lst_congr (g := TAG (gD X) X.length (STRM T.2.2 b n 0)) (fun j hj => by rw [Nat.zero_add, ht8 j hj])] at h2; exact h2⟩)) (fun o G9 h => ?_) (fun E G' h => by cases h.1)
      obtain ⟨h0, F9, r9⟩ := h
      cases h0
      refine V_vret rfl rfl (hq G9 (((F6'.trans F7p (fun x hx => by omega)).trans F8p (fun x hx => by omega)).trans F9 (fun x hx => by omega)) ⟨F9.get (by omega) e19, s8.fp (fun j a c => F9.2 j (by omega)), t8.fp (fun j a c => F9.2 j (by omega)), n30, b30, F9.get (by omega) e30, F9.get (by omega) e31⟩ ?_)
      unfold pkt
      rw [if_pos rfl, hX]
      exact r9
end CSeal3
