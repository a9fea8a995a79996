section CSeal5
variable {K : kK} {G : kG} {Q : kO → kG → Prop}
theorem opn_s {T : TB} {h b : Nat → Nat} {n : Nat} {l : List Nat} (hl : l.length < 22) : opn T true h b n l = none := by unfold opn; rw [if_pos rfl, if_pos hl]
theorem difA_lst {f g : Nat → Nat} {s L : Nat} (hf : ∀ j, j < L → f (s + j) < 256) (hg : ∀ j, j < L → g j < 256) : difA (fun j => nI (f j)) (fun j => nI (g j)) s L = 0 ↔ lst (fun j => f (s + j)) L = lst g L := by
  unfold difA
  constructor
  · intro h
    by_cases e : ∀ j, j < L → nI (f (s + j)) = nI (g j)
    · exact lst_congr (fun j hj => (nI_eq (by have := hf j hj; omega) (by have := hg j hj; omega)).mp (e j hj))
    · rw [if_neg e] at h
      exact absurd h (by decide)
  · intro h
    rw [if_pos]
    intro j hj
    show nI (f (s + j)) = nI (g j)
    rw [lst_inj h j hj]
set_option maxHeartbeats 16000000 in
theorem c_open {r d k kh kb n yr yd m0 : Nat} {l : List Nat} {y0 : Nat → Nat} {h b : Nat → Nat} {made : Bool} {T : TB} (hT : tbl K T) (hs : slr G) (hl : Rw G r d 228 l) (gk : G.1 k = some (KYO kh kb made)) (gh : Rb G kh 32 h) (gb : Rb G kb 32 b) (gr : G.1 yr = some (ROB yd m0)) (gd : G.1 yd = some (BA 200 y0))
    (hc : 31 < r ∧ 31 < d ∧ 31 < k ∧ 31 < kh ∧ 31 < kb ∧ 31 < yr ∧ 31 < yd) (hn : n < 2 ^ 31)
    (hq : ∀ G', FP (fun j => (19 ≤ j ∧ j ≤ 31) ∨ j = yr ∨ j = yd) G G' → slr G' → (∀ p, opn T made h b n l = some p → Rw G' yr yd 200 p) → (opn T made h b n l = none → G'.1 yr = G.1 yr ∧ G'.1 yd = G.1 yd) → Q (.inl (some (.int (bI (opn T made h b n l).isSome)))) G') : C K 0 0 mX7_open [.ref 19, .ref r, .ref k, .int (nI n), .ref yr] G Q := by
  obtain ⟨a1, a2, f, a3, a4, a5⟩ := id hl
  obtain ⟨g19, hsm, htg, n30, b30, g30, g31⟩ := id hs
  refine C_of okX7_open (Nat.le_of_ble_eq_true rfl) ?_
  refine V_aload_n rfl (by first | rfl | assumption) ?_
  refine V_getf rfl rfl rfl (by repeat (first | exact hup_eq | assumption | refine Eq.trans (hup_ne (by first | assumption | exact Ne.symm (by assumption) | decide | omega)) ?_)) (by first | rfl | assumption) ?_
  refine V_callV (M' := mX6_clear) (mc := 0) (ms := 0) (bc' := 0) (bs' := 0) rfl cw_X7_48 iv_X6_clear (by repeat (first | exact hup_eq | assumption | refine Eq.trans (hup_ne (by first | assumption | exact Ne.symm (by assumption) | decide | omega)) ?_)) rfl rfl (Nat.le_of_ble_eq_true rfl) ⟨Nat.le_of_ble_eq_true rfl, Nat.le_of_ble_eq_true rfl⟩ ⟨Nat.le_of_ble_eq_true rfl, Nat.le_of_ble_eq_true rfl⟩ (As := []) (c_clearU (Q := fun o G1 => o = .inl none ∧ FP (fun j => j = 30) G G1 ∧ Rw G1 30 31 228 []) g30 g31 (fun G1 h1 h2 => ⟨rfl, h1, h2⟩)) (fun o G1 h => ?_) (fun E G' h => by cases h.1)
  obtain ⟨h0, F1, r1⟩ := h
  cases h0
  have q1 := F1.get (by omega) a1
  have q2 := F1.get (by omega) a3
  have q19 := F1.get (by omega) g19
  have hr1 := r1.1
  refine V_aload_n rfl (by first | rfl | assumption) ?_
  refine V_getf rfl rfl rfl (by repeat (first | exact hup_eq | assumption | refine Eq.trans (hup_ne (by first | assumption | exact Ne.symm (by assumption) | decide | omega)) ?_)) (by first | rfl | assumption) ?_
  refine V_aload_n rfl (by first | rfl | assumption) ?_
  refine V_getf rfl rfl rfl (by repeat (first | exact hup_eq | assumption | refine Eq.trans (hup_ne (by first | assumption | exact Ne.symm (by assumption) | decide | omega)) ?_)) (by first | rfl | assumption) ?_
  refine V_iconst (v := nI 0) rfl (by decide) ?_
  refine V_aload_n rfl (by first | rfl | assumption) ?_
  refine V_getf rfl rfl rfl (by repeat (first | exact hup_eq | assumption | refine Eq.trans (hup_ne (by first | assumption | exact Ne.symm (by assumption) | decide | omega)) ?_)) (by first | rfl | assumption) ?_
  refine V_callV (M' := mX6_putAll) (mc := 0) (ms := 0) (bc' := 0) (bs' := 0) rfl cw_X7_61 iv_X6_putAll (by repeat (first | exact hup_eq | assumption | refine Eq.trans (hup_ne (by first | assumption | exact Ne.symm (by assumption) | decide | omega)) ?_)) rfl rfl (Nat.le_of_ble_eq_true rfl) ⟨Nat.le_of_ble_eq_true rfl, Nat.le_of_ble_eq_true rfl⟩ ⟨Nat.le_of_ble_eq_true rfl, Nat.le_of_ble_eq_true rfl⟩ (As := [.ref d, .int (nI 0), .int (nI l.length)]) (c_putAllL (g := f) (Q := fun o G4 => o = .inl none ∧ FP (fun j => j = 30 ∨ j = 31) G1 G4 ∧ Rw G4 30 31 228 l) r1 q2 (by omega) (show 0 + l.length ≤ 228 by omega) (by decide) (by decide) (fun j hj => by rw [Nat.zero_add]; exact a5 j hj) (fun G1 h1 h2 => ⟨rfl, h1, by rw [List.nil_append, lst_congr (g := f) (fun j _ => by rw [Nat.zero_add]), a4] at h2; exact h2⟩)) (fun o G2 h => ?_) (fun E G' h => by cases h.1)
  obtain ⟨h0, F2', r2⟩ := h
  cases h0
  have F2 : FP (fun j => j = 30 ∨ j = 31) G G2 := (F1.sub (fun x hx => Or.inl hx)).trans F2' (fun x hx => hx)
  have qk := F2.get (by omega) gk
  have q1 := F2.get (by omega) a1
  have q2 := F2.get (by omega) a3
  have q19 := F2.get (by omega) g19
  have s2 : smr G2 := hsm.fp (fun j a c => F2.2 j (by omega))
  have t2 : tgr G2 := htg.fp (fun j a c => F2.2 j (by omega))
  obtain ⟨z1, z2, f2, z3, z4, z5⟩ := id r2
  have qyr : G2.1 yr = some (ROB yd m0) := F2.get (by omega) gr
  have qyd : G2.1 yd = some (BA 200 y0) := F2.get (by omega) gd
  have SL : slr G2 := ⟨q19, s2, t2, _, _, z1, z3⟩
  clear F1 r1 hr1 F2'
  /- the last stretch: the plain row is read -/
  have last : ∀ (lc : kLo) (G3 : kG) (c : List Nat), lc 0 = some (.ref 19) → lc 2 = some (.ref k) → lc 4 = some (.ref yr) → FP (fun j => 19 ≤ j ∧ j ≤ 31) G G3 → slr G3 → Rw G3 30 31 228 c → opn T made h b n l = rdP made c → V K 0 0 mX7_open 119 lc [] G3 Q := by
    intro lc G3 c l0 l2 l4 F3 s3 r3 ho
    have e19 := s3.1
    have ek := F3.get (by omega) gk
    have eyr := F3.get (by omega) gr
    have eyd := F3.get (by omega) gd
    refine V_aload_n rfl (by first | rfl | assumption) ?_
    refine V_aload_n rfl (by first | rfl | assumption) ?_
    refine V_getf rfl rfl rfl (by repeat (first | exact hup_eq | assumption | refine Eq.trans (hup_ne (by first | assumption | exact Ne.symm (by assumption) | decide | omega)) ?_)) (by first | rfl | assumption) ?_
    refine V_aload rfl (by first | rfl | assumption) ?_
    refine V_callV (M' := mX7_readPlain) (mc := 0) (ms := 0) (bc' := 0) (bs' := 0) rfl cw_X7_85 iv_X7_readPlain (by repeat (first | exact hup_eq | assumption | refine Eq.trans (hup_ne (by first | assumption | exact Ne.symm (by assumption) | decide | omega)) ?_)) rfl rfl (Nat.le_of_ble_eq_true rfl) ⟨Nat.le_of_ble_eq_true rfl, Nat.le_of_ble_eq_true rfl⟩ ⟨Nat.le_of_ble_eq_true rfl, Nat.le_of_ble_eq_true rfl⟩ (As := [.int (bI made), .ref yr]) (c_readPlain (c := c) (made := made) (Q := fun o G4 => o = .inl (some (.int (bI (rdP made c).isSome))) ∧ FP (fun j => j = yr ∨ j = yd) G3 G4 ∧ (∀ p, rdP made c = some p → Rw G4 yr yd 200 p) ∧ (rdP made c = none → G4 = G3)) e19 r3 eyr eyd (by omega) (fun G4 h1 h2 h3 => ⟨rfl, h1, h2, h3⟩)) (fun o G4 h => ?_) (fun E G' h => by cases h.1)
    obtain ⟨h0, F4, p1, p2⟩ := h
    cases h0
    have := hq G4 ((F3.sub (fun x hx => Or.inl hx)).trans F4 (fun x hx => Or.inr hx)) (s3.fp (fun j a c => F4.2 j (by omega))) (fun p hp => p1 p (by rw [← ho]; exact hp)) (fun e => by rw [p2 (by rw [← ho]; exact e)]; exact ⟨F3.2 _ (by omega), F3.2 _ (by omega)⟩)
    rw [ho] at this
    exact V_zret rfl rfl (bI_01 _) this
  have hno : ∀ G3, FP (fun j => 19 ≤ j ∧ j ≤ 31) G G3 → slr G3 → opn T made h b n l = none → Q (.inl (some (.int 0))) G3 := fun G3 F3 s3 e => by
    have := hq G3 (F3.sub (fun x hx => Or.inl hx)) s3 (fun p hp => by rw [e] at hp; cases hp) (fun _ => ⟨F3.2 _ (by omega), F3.2 _ (by omega)⟩)
    rw [e] at this
    exact this
  refine V_aload_n rfl (by first | rfl | assumption) ?_
  refine V_getf rfl rfl rfl (by repeat (first | exact hup_eq | assumption | refine Eq.trans (hup_ne (by first | assumption | exact Ne.symm (by assumption) | decide | omega)) ?_)) (by first | rfl | assumption) ?_
  cases made with
  | false =>
    refine V_if_eq rfl (fun _ => ?_) (fun h => absurd rfl h)
    exact last _ G2 l rfl rfl rfl (F2.sub (fun x hx => by omega)) SL r2 (by unfold opn; rw [if_neg (by decide)])
  | true =>
    refine V_if_eq rfl (fun h => absurd h (by decide)) (fun _ => ?_)
    refine V_aload_n rfl (by first | rfl | assumption) ?_
    refine V_getf rfl rfl rfl (by repeat (first | exact hup_eq | assumption | refine Eq.trans (hup_ne (by first | assumption | exact Ne.symm (by assumption) | decide | omega)) ?_)) (by first | rfl | assumption) ?_
    refine V_bipush (v := nI 16) rfl (by decide) ?_
    by_cases h16 : l.length < 16
    · refine V_isub rfl ?_
      have neg := pk_sneg (a := l.length) (b := 16) (by decide) h16
      generalize nI l.length - nI 16 = x at *
      refine V_istore rfl (by decide) ?_
      refine V_iload rfl (by first | rfl | assumption) ?_
      refine V_iconst (v := nI 4) rfl (by decide) ?_
      refine V_icmp_ge rfl (fun h => absurd (Int32.lt_trans neg (by decide : (0 : Int32) < nI 4)) (Int32.not_lt.mpr h)) (fun _ => ?_)
      refine V_iconst (v := 0) rfl (by decide) ?_
      exact V_zret rfl rfl (Or.inl rfl) (hno G2 (F2.sub (fun x hx => by omega)) SL (opn_s (by omega)))
    refine V_isubN rfl (by omega) ?_
    obtain ⟨t, ht⟩ : ∃ t, t = l.length - 16 := ⟨_, rfl⟩
    rw [← ht]
    refine V_istore rfl (by decide) ?_
    refine V_iload rfl (by first | rfl | assumption) ?_
    refine V_iconst (v := nI 4) rfl (by decide) ?_
    refine V_icmp_geN rfl (by omega) (by decide) (fun h4 => ?_) (fun h4 => ?_)
    rotate_left
    · refine V_iconst (v := 0) rfl (by decide) ?_
      exact V_zret rfl rfl (Or.inl rfl) (hno G2 (F2.sub (fun x hx => by omega)) SL (opn_s (by omega)))
    obtain ⟨b9, eb, hb1, hb2⟩ := gb.fp (G' := G2) (F2.2 _ (by omega))
    have e20 := s2.1
    refine V_aload_n rfl (by first | rfl | assumption) ?_
    refine V_getf rfl rfl rfl (by repeat (first | exact hup_eq | assumption | refine Eq.trans (hup_ne (by first | assumption | exact Ne.symm (by assumption) | decide | omega)) ?_)) (by first | rfl | assumption) ?_
    refine V_aload_n rfl (by first | rfl | assumption) ?_
    refine V_getf rfl rfl rfl (by repeat (first | exact hup_eq | assumption | refine Eq.trans (hup_ne (by first | assumption | exact Ne.symm (by assumption) | decide | omega)) ?_)) (by first | rfl | assumption) ?_
    refine V_iload_n rfl (by first | rfl | assumption) ?_
    refine V_i2lN rfl (by first | omega | decide) ?_
    refine V_iconst (v := nI 0) rfl (by decide) ?_
    refine V_callV (M' := mX8_make) (mc := 0) (ms := 0) (bc' := 0) (bs' := 0) rfl cw_X7_72 iv_X8_make (by repeat (first | exact hup_eq | assumption | refine Eq.trans (hup_ne (by first | assumption | exact Ne.symm (by assumption) | decide | omega)) ?_)) rfl rfl (Nat.le_of_ble_eq_true rfl) ⟨Nat.le_of_ble_eq_true rfl, Nat.le_of_ble_eq_true rfl⟩ ⟨Nat.le_of_ble_eq_true rfl, Nat.le_of_ble_eq_true rfl⟩ (As := [.ref kb, .long (lN n), .int (nI 0)]) (c_smake (key := b9) (Q := fun o G7 => o = .inl none ∧ ∃ s, FR [21, 22, 23] G2 G7 ∧ smr G7 ∧ G7.1 21 = some (BA 64 s) ∧ ∀ j, j < 64 → s j = STRM T.2.2 b n 0 j) hT.2.2.2.1 hT.2.2.2.2 s2 eb (by decide) (by omega) (fun j hj => by rw [hb1 j hj]; exact hb2 j hj) (by omega) (fun G7 s h1 h2 h3 h4 => ⟨rfl, s, h1, h2, h3, fun j hj => by rw [h4 j hj, STRM_congr hb1]⟩)) (fun o G3 h => ?_) (fun E G' h => by cases h.1)
    obtain ⟨h0, s, F3r, s3, e21, hs3⟩ := h
    cases h0
    have F3p : FP (fun j => j = 21 ∨ j = 22 ∨ j = 23) G2 G3 := F3r.P (by intro x hx; simp at hx; omega)
    have r3 : Rw G3 30 31 228 l := r2.fp (F3p.2 _ (by omega)) (F3p.2 _ (by omega))
    have t3 : tgr G3 := t2.fp (fun j a c => F3p.2 j (by omega))
    have e19 := F3p.get (by omega) q19
    have e1 := F3p.get (by omega) q1
    have e2 := F3p.get (by omega) q2
    have e20 := s3.1
    have e24 := t3.1
    have tk : l.take t = lst f t := by rw [← a4, lst_take (by omega)]
    have tkl : (l.take t).length = t := by rw [tk, lst_len]
    have tkg : ∀ j, j < t → gD (l.take t) j = f j := fun j hj => by rw [tk, gD_lst hj]
    refine V_aload_n rfl (by first | rfl | assumption) ?_
    refine V_getf rfl rfl rfl (by repeat (first | exact hup_eq | assumption | refine Eq.trans (hup_ne (by first | assumption | exact Ne.symm (by assumption) | decide | omega)) ?_)) (by first | rfl | assumption) ?_
    refine V_aload_n rfl (by first | rfl | assumption) ?_
    refine V_getf rfl rfl rfl (by repeat (first | exact hup_eq | assumption | refine Eq.trans (hup_ne (by first | assumption | exact Ne.symm (by assumption) | decide | omega)) ?_)) (by first | rfl | assumption) ?_
    refine V_iconst (v := nI 0) rfl (by decide) ?_
    refine V_iload rfl (by first | rfl | assumption) ?_
    refine V_aload_n rfl (by first | rfl | assumption) ?_
    refine V_getf rfl rfl rfl (by repeat (first | exact hup_eq | assumption | refine Eq.trans (hup_ne (by first | assumption | exact Ne.symm (by assumption) | decide | omega)) ?_)) (by first | rfl | assumption) ?_
    refine V_getf rfl rfl rfl (by repeat (first | exact hup_eq | assumption | refine Eq.trans (hup_ne (by first | assumption | exact Ne.symm (by assumption) | decide | omega)) ?_)) (by first | rfl | assumption) ?_
    refine V_callV (M' := mX9_make) (mc := 0) (ms := 0) (bc' := 0) (bs' := 0) rfl cw_X7_77 iv_X9_make (by repeat (first | exact hup_eq | assumption | refine Eq.trans (hup_ne (by first | assumption | exact Ne.symm (by assumption) | decide | omega)) ?_)) rfl rfl (Nat.le_of_ble_eq_true rfl) ⟨Nat.le_of_ble_eq_true rfl, Nat.le_of_ble_eq_true rfl⟩ ⟨Nat.le_of_ble_eq_true rfl, Nat.le_of_ble_eq_true rfl⟩ (As := [.ref d, .int (nI 0), .int (nI t), .ref 21]) (by
      have e := c_tmake (K := K) (G := G3) (a := d) (s := 0) (n := t) (k0 := 21) (key := s) (f := f) (Q := fun o G8 => o = .inl none ∧ ∃ x, FR [25, 26, 27, 28, 29] G3 G8 ∧ tgr G8 ∧ G8.1 25 = some (BA 16 x) ∧ ∀ j, j < 16 → x j = TAG (gD (l.take t)) t (STRM T.2.2 b n 0) j) t3 e2 (by omega) (by omega) (by decide) (fun j hj => by rw [Nat.zero_add]; exact a5 j (by omega)) e21 (by omega) (by decide) (fun j hj => by rw [hs3 j (by omega)]; exact STRM_lt _ _ _ _ _) (fun G8 x h1 h2 h3 h4 => ⟨rfl, x, h1, h2, h3, fun j hj => by rw [h4 j hj]; exact TAG_congr (fun i hi => by rw [tkg i hi, Nat.zero_add]) (fun i hi => hs3 i (by omega)) j⟩)
      rw [Nat.zero_add] at e
      exact e) (fun o G4 h => ?_) (fun E G' h => by cases h.1)
    obtain ⟨h0, x, F4r, t4, e25, hx⟩ := h
    cases h0
    have F4p : FP (fun j => 25 ≤ j ∧ j ≤ 29) G3 G4 := F4r.P (by intro x hx; simp at hx; omega)
    have r4 : Rw G4 30 31 228 l := r3.fp (F4p.2 _ (by omega)) (F4p.2 _ (by omega))
    have e19 := F4p.get (by omega) e19
    have e1 := F4p.get (by omega) e1
    have e2 := F4p.get (by omega) e2
    have e24 := t4.1
    have s4 : smr G4 := s3.fp (fun j a c => F4p.2 j (by omega))
    obtain ⟨z1, z2, f4, z3, z4, z5⟩ := id r4
    have SL4 : slr G4 := ⟨e19, s4, t4, _, _, z1, z3⟩
    have F4 : FP (fun j => 19 ≤ j ∧ j ≤ 31) G G4 := ((F2.sub (P' := fun j => 19 ≤ j ∧ j ≤ 31) (fun x hx => by omega)).trans F3p (fun x hx => by omega)).trans F4p (fun x hx => by omega)
    have hxl : ∀ j, j < 16 → x j < 256 := fun j hj => by rw [hx j hj]; exact TAG_lt _ _ _ _
    refine V_aload_n rfl (by first | rfl | assumption) ?_
    refine V_iload rfl (by first | rfl | assumption) ?_
    refine V_aload_n rfl (by first | rfl | assumption) ?_
    refine V_getf rfl rfl rfl (by repeat (first | exact hup_eq | assumption | refine Eq.trans (hup_ne (by first | assumption | exact Ne.symm (by assumption) | decide | omega)) ?_)) (by first | rfl | assumption) ?_
    refine V_getf rfl rfl rfl (by repeat (first | exact hup_eq | assumption | refine Eq.trans (hup_ne (by first | assumption | exact Ne.symm (by assumption) | decide | omega)) ?_)) (by first | rfl | assumption) ?_
    refine V_callV (M' := mX6_differsAt) (mc := 0) (ms := 0) (bc' := 0) (bs' := 0) rfl cw_X7_81 iv_X6_differsAt (by repeat (first | exact hup_eq | assumption | refine Eq.trans (hup_ne (by first | assumption | exact Ne.symm (by assumption) | decide | omega)) ?_)) rfl rfl (Nat.le_of_ble_eq_true rfl) ⟨Nat.le_of_ble_eq_true rfl, Nat.le_of_ble_eq_true rfl⟩ ⟨Nat.le_of_ble_eq_true rfl, Nat.le_of_ble_eq_true rfl⟩ (As := [.int (nI t), .ref 25]) (c_Row_differsAt (Q := fun o G5 => o = .inl (some (.int (difA (fun j => nI (f j)) (fun j => nI (x j)) t 16))) ∧ G5 = G4) e1 e2 e25 a2 (by omega) (by decide) ⟨rfl, rfl⟩) (fun o G5 h => ?_) (fun E G' h => by cases h.1)
    obtain ⟨h0, rfl⟩ := h
    cases h0
    have hdl := difA_lst (f := f) (g := x) (s := t) (L := 16) (fun j hj => a5 _ (by omega)) hxl
    have hdr : l.drop t = lst (fun j => f (t + j)) 16 := by rw [← a4, lst_drop (by omega), show l.length - t = 16 by omega]
    have htg : tgL T b n (l.take t) = lst x 16 := by
      unfold tgL
      rw [tkl]
      exact lst_congr (fun j hj => (hx j hj).symm)
    have U : opn T true h b n l = if l.length < 22 then none else if lst (fun j => f (t + j)) 16 = lst x 16 then rdP true (hid T h b n (l.take t)) else none := by
      unfold opn
      rw [if_pos rfl, ← ht, hdr, htg]
    refine V_if_eq rfl (fun h9 => ?_) (fun h9 => ?_)
    rotate_left
    · refine V_iconst (v := 0) rfl (by decide) ?_
      refine V_zret rfl rfl (Or.inl rfl) (hno G5 F4 SL4 ?_)
      rw [U]
      by_cases e : l.length < 22
      · rw [if_pos e]
      · rw [if_neg e, if_neg (fun q => h9 (hdl.mpr q))]
    rw [if_pos (hdl.mp h9)] at U
    refine V_aload_n rfl (by first | rfl | assumption) ?_
    refine V_getf rfl rfl rfl (by repeat (first | exact hup_eq | assumption | refine Eq.trans (hup_ne (by first | assumption | exact Ne.symm (by assumption) | decide | omega)) ?_)) (by first | rfl | assumption) ?_
    refine V_iload rfl (by first | rfl | assumption) ?_
    refine V_putf rfl rfl rfl rfl (by repeat (first | exact hup_eq | assumption | refine Eq.trans (hup_ne (by first | assumption | exact Ne.symm (by assumption) | decide | omega)) ?_)) (Nat.le_of_ble_eq_true rfl) (by first | exact ⟨rfl, rfl⟩ | (constructor <;> decide)) ?_
    show V K 0 0 _ _ _ _ (hup G5 30 (ROB 31 t)) Q
    obtain ⟨G6, hG6⟩ : ∃ G6, G6 = hup G5 30 (ROB 31 t) := ⟨_, rfl⟩
    rw [← hG6]
    have e30 : G6.1 30 = some (ROB 31 t) := by rw [hG6]; exact hup_eq
    have e31 : G6.1 31 = some (BA 228 f4) := by rw [hG6, hup_ne (by decide)]; exact z3
    have s5 : smr G6 := s4.fp (fun j a c => by rw [hG6, hup_ne (by omega)])
    have t5 : tgr G6 := t4.fp (fun j a c => by rw [hG6, hup_ne (by omega)])
    have F5 : FP (fun j => 19 ≤ j ∧ j ≤ 31) G G6 := by rw [hG6]; exact F4.hup (by omega)
    have e195 : G6.1 19 = some SLO := by rw [hG6, hup_ne (by decide)]; exact e19
    clear hG6
    have r5 : Rw G6 30 31 228 (l.take t) := by
      refine ⟨by rw [tkl]; exact e30, by omega, f4, e31, ?_, fun j hj => z5 j (by omega)⟩
      rw [tkl]
      conv => rhs; rw [← z4]
      rw [lst_take (by omega)]
    obtain ⟨y1, y2, f5, y3, y4, y5⟩ := id r5
    have ek6 := F5.get (by omega) gk
    have eh6 := gh.fp (F5.2 _ (by omega))
    have eb6 := gb.fp (F5.2 _ (by omega))
    refine V_aload_n rfl (by first | rfl | assumption) ?_
    refine V_aload_n rfl (by first | rfl | assumption) ?_
    refine V_getf rfl rfl rfl (by repeat (first | exact hup_eq | assumption | refine Eq.trans (hup_ne (by first | assumption | exact Ne.symm (by assumption) | decide | omega)) ?_)) (by first | rfl | assumption) ?_
    refine V_aload_n rfl (by first | rfl | assumption) ?_
    refine V_iload_n rfl (by first | rfl | assumption) ?_
    refine V_callV (M' := mX7_hide) (mc := 0) (ms := 0) (bc' := 0) (bs' := 0) rfl cw_X7_65 iv_X7_hide (by repeat (first | exact hup_eq | assumption | refine Eq.trans (hup_ne (by first | assumption | exact Ne.symm (by assumption) | decide | omega)) ?_)) rfl rfl (Nat.le_of_ble_eq_true rfl) ⟨Nat.le_of_ble_eq_true rfl, Nat.le_of_ble_eq_true rfl⟩ ⟨Nat.le_of_ble_eq_true rfl, Nat.le_of_ble_eq_true rfl⟩ (As := [.ref 30, .ref k, .int (nI n)]) (c_hide (T := T) (f := f5) (Q := fun o G7 => o = .inl none ∧ FP (fun j => j = 21 ∨ j = 22 ∨ j = 23 ∨ j = 31) G6 G7 ∧ smr G7 ∧ ∃ f', G7.1 31 = some (BA 228 f') ∧ ∀ j, j < (l.take t).length → f' j = f5 j ^^^ ksm T h b n j) hT.2.2.2.1 hT.2.2.2.2 e195 s5 y1 y3 (by omega) (by omega) (by omega) ek6 eh6 eb6 (by omega) hn (fun G6 f' h1 h2 h3 h4 => ⟨rfl, h1, h2, f', h3, h4⟩)) (fun o G7 h => ?_) (fun E G' h => by cases h.1)
    obtain ⟨h0, F7, s7, f7, e7, e7'⟩ := h
    cases h0
    have r7 : Rw G7 30 31 228 (hid T h b n (l.take t)) := Rw_hid (F7.get (by omega) y1) y2 e7 y4 y5 e7'
    have w1 := r7.1
    have w2 := e7
    refine last _ G7 (hid T h b n (l.take t)) rfl rfl rfl (F5.trans F7 (fun x hx => by omega)) ⟨F7.get (by omega) e195, s7, t5.fp (fun j a c => F7.2 j (by omega)), _, _, w1, w2⟩ r7 ?_
    rw [U]
    by_cases e : l.length < 22
    · rw [if_pos e, rdP_short]
      show (lst _ _).length < 6
      rw [lst_len, tkl]
      omega
    · rw [if_neg e]
end CSeal5
