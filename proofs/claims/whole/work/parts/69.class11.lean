section CClass11
variable {K : kK} {G : kG} {Q : kO → kG → Prop}
/-- the tape is another, nothing else -/
theorem RC.tape {S : SG} {G' : kG} {l : List Nat} (h : RC S G) (e : ∀ j, j ≠ 0 → ¬ (136 ≤ j ∧ j ≤ 139) → G'.1 j = G.1 j) (ht : TP (S.2.1, S.2.2.1, l) G') : RC (sT S l) G' := by
  obtain ⟨⟨h1, h2, h3, h4, h5, h6, h7, ⟨m8, b8, h8, h8'⟩, ⟨m9, b9, h9, h9'⟩, h10⟩, hE⟩ := h
  refine ⟨⟨h1.fp (fun j a c => e j (by omega) (by omega)), h2.fp (fun j a c => e j (by omega) (by omega)), h3.fp (fun j a c => e j (by omega) (by omega)), h4.fp (e _ (by omega) (by omega)), h5.fp (e _ (by omega) (by omega)), fun c a d => ?_, h7.fp (e _ (by omega) (by omega)) (e _ (by omega) (by omega)), ⟨m8, b8, (e _ (by omega) (by omega)).trans h8, (e _ (by omega) (by omega)).trans h8'⟩, ⟨m9, b9, (e _ (by omega) (by omega)).trans h9, (e _ (by omega) (by omega)).trans h9'⟩, ht⟩, fun k hk => (hE k hk).fp (fun j a c => e j (by unfold EB at a c; omega) (by unfold EB at a c; omega))⟩
  obtain ⟨b, hb⟩ := h6 c a d
  exact ⟨b, (e _ (by omega) (by omega)).trans hb⟩
/-- the tools have worked, the last result is another -/
theorem RC.lo {S : SG} {G' : kG} {l : List Nat} (h : RC S G) (hc : crv G') (hh : hsr G') (hs : slr G') (ho : Rw G' 130 131 64 l) (e : ∀ j, j = 0 ∨ (32 ≤ j ∧ j ≤ 129) ∨ (132 ≤ j ∧ j ≤ 139) → G'.1 j = G.1 j) : RC (sO S l) G' := by
  obtain ⟨⟨h1, h2, h3, h4, h5, h6, h7, ⟨m8, b8, h8, h8'⟩, ⟨m9, b9, h9, h9'⟩, h10⟩, hE⟩ := h
  refine ⟨⟨hc, hh, hs, h4.fp (e _ (by omega)), h5.fp (e _ (by omega)), fun c a d => ?_, ho, ⟨m8, b8, (e _ (by omega)).trans h8, (e _ (by omega)).trans h8'⟩, ⟨m9, b9, (e _ (by omega)).trans h9, (e _ (by omega)).trans h9'⟩, ?_⟩, fun k hk => (hE k hk).fp (fun j a c => e j (by unfold EB at a c; omega))⟩
  · obtain ⟨b, hb⟩ := h6 c a d
    exact ⟨b, (e _ (by omega)).trans hb⟩
  · exact TP.fp (g := (S.2.1, S.2.2.1, S.2.2.2)) h10 (e _ (by omega)) (fun j a c => e j (by omega))
theorem c_takeTape {S : SG} (h : RC S G) (hq : ∀ G' tk tp, (tk = 136 ∧ tp = 138 ∨ tk = 138 ∧ tp = 136) → FP (fun j => j = 0 ∨ j = 136 ∨ j = 138) G G' → RC (tkn S) G' → Rw G' tk (tk + 1) 600 (tpe S) → G'.1 0 = some (SWO tp tk) → Q (.inl (some (.ref tk))) G') : C K 0 0 mX11_takeTape [.ref 0] G Q := by
  obtain ⟨tp, sp, htp, g0, rt, m, b, s1, s2⟩ := id h.1.2.2.2.2.2.2.2.2.2
  have n1 : tp ≠ 0 := by omega
  have n2 : sp ≠ 0 := by omega
  refine C_of okX11_takeTape (Nat.le_of_ble_eq_true rfl) ?_
  refine V_aload_n rfl (by first | rfl | assumption) ?_
  refine V_getf rfl rfl rfl (by repeat (first | exact hup_eq | assumption | refine Eq.trans (hup_ne (by first | assumption | exact Ne.symm (by assumption) | decide | omega)) ?_)) (by first | rfl | assumption) ?_
  refine V_astore_n rfl (by decide) ?_
  refine V_aload_n rfl (by first | rfl | assumption) ?_
  refine V_aload_n rfl (by first | rfl | assumption) ?_
  refine V_getf rfl rfl rfl (by repeat (first | exact hup_eq | assumption | refine Eq.trans (hup_ne (by first | assumption | exact Ne.symm (by assumption) | decide | omega)) ?_)) (by first | rfl | assumption) ?_
  refine V_putf rfl rfl rfl rfl (by repeat (first | exact hup_eq | assumption | refine Eq.trans (hup_ne (by first | assumption | exact Ne.symm (by assumption) | decide | omega)) ?_)) (Nat.le_of_ble_eq_true rfl) ⟨narrow_ref _ _, rfl⟩ ?_
  refine V_aload_n rfl (by first | rfl | assumption) ?_
  refine V_aload_n rfl (by first | rfl | assumption) ?_
  refine V_putf rfl rfl rfl rfl (by repeat (first | exact hup_eq | assumption | refine Eq.trans (hup_ne (by first | assumption | exact Ne.symm (by assumption) | decide | omega)) ?_)) (Nat.le_of_ble_eq_true rfl) ⟨narrow_ref _ _, rfl⟩ ?_
  rw [hup_hup]
  show V K 0 0 _ _ _ _ (hup G 0 (SWO sp tp)) Q
  obtain ⟨G1, hG1⟩ : ∃ G1, G1 = hup G 0 (SWO sp tp) := ⟨_, rfl⟩
  rw [← hG1]
  have F1 : FP (fun j => j = 0) G G1 := by rw [hG1]; exact FP.rf.hup rfl
  have q0 : G1.1 0 = some (SWO sp tp) := by rw [hG1]; exact hup_eq
  clear hG1
  have s1 := F1.get n2 s1
  have s2 := F1.get (by omega) s2
  have rt := rt.fp (F1.2 _ n1) (F1.2 _ (by omega))
  refine V_aload_n rfl (by first | rfl | assumption) ?_
  refine V_getf rfl rfl rfl (by repeat (first | exact hup_eq | assumption | refine Eq.trans (hup_ne (by first | assumption | exact Ne.symm (by assumption) | decide | omega)) ?_)) (by first | rfl | assumption) ?_
  refine V_callV (M' := mX6_clear) (mc := 0) (ms := 0) (bc' := 0) (bs' := 0) rfl cw_X11_139 iv_X6_clear (by repeat (first | exact hup_eq | assumption | refine Eq.trans (hup_ne (by first | assumption | exact Ne.symm (by assumption) | decide | omega)) ?_)) rfl rfl (Nat.le_of_ble_eq_true rfl) ⟨Nat.le_of_ble_eq_true rfl, Nat.le_of_ble_eq_true rfl⟩ ⟨Nat.le_of_ble_eq_true rfl, Nat.le_of_ble_eq_true rfl⟩ (As := []) (c_clearU (Q := fun o G2 => o = .inl none ∧ FP (fun j => j = sp) G1 G2 ∧ Rw G2 sp (sp + 1) 600 []) s1 s2 (fun G2 h1 h2 => ⟨rfl, h1, h2⟩)) (fun o G2 h => ?_) (fun E G' h => by cases h.1)
  obtain ⟨h0, F2, r2⟩ := h
  cases h0
  have rt := rt.fp (F2.2 _ (by omega)) (F2.2 _ (by omega))
  have q0 := F2.get (by omega) q0
  refine V_aload_n rfl (by first | rfl | assumption) ?_
  refine V_aret rfl rfl (Or.inl ⟨_, rfl⟩) (hq G2 tp sp (by omega) ((F1.sub (fun x hx => Or.inl hx)).trans F2 (fun x hx => by omega)) ?_ rt q0)
  exact h.tape (fun j a c => (F2.2 j (by omega)).trans (F1.2 j (by omega))) ⟨sp, tp, by omega, q0, r2, rt.ex⟩
theorem c_endOf {S : SG} {x : Int32} (h : RC S G) (hq : ∀ e : Nat, e < 2 → x.toInt = (e : Int) → Q (.inl (some (.ref (EB e)))) G) (hx : ¬ (x.toInt = 0 ∨ x.toInt = 1) → Q (.inr ENS) (G.1, none)) : C K 1 6 mX11_endOf [.ref 0, .int x] G Q := by
  obtain ⟨tp, sp, g0⟩ := h.sw
  refine C_of okX11_endOf (Nat.le_of_ble_eq_true rfl) ?_
  have go : ∀ e : Nat, e < 2 → x.toInt = (e : Int) → V K 1 6 mX11_endOf 17 (kla [.ref 0, .int x]) [] G Q := by
    intro e he hxe
    refine V_iload_n rfl (by rfl) ?_
    refine V_if_neZ rfl hxe (fun z => ?_) (fun z => ?_)
    · have : e = 1 := by omega
      subst this
      refine V_aload_n rfl (by first | rfl | assumption) ?_
      refine V_getf rfl rfl rfl (by repeat (first | exact hup_eq | assumption | refine Eq.trans (hup_ne (by first | assumption | exact Ne.symm (by assumption) | decide | omega)) ?_)) (by first | rfl | assumption) ?_
      exact V_aret rfl rfl (Or.inl ⟨_, rfl⟩) (hq 1 he hxe)
    · have : e = 0 := by omega
      subst this
      refine V_aload_n rfl (by first | rfl | assumption) ?_
      refine V_getf rfl rfl rfl (by repeat (first | exact hup_eq | assumption | refine Eq.trans (hup_ne (by first | assumption | exact Ne.symm (by assumption) | decide | omega)) ?_)) (by first | rfl | assumption) ?_
      refine V_goto rfl ?_
      exact V_aret rfl rfl (Or.inl ⟨_, rfl⟩) (hq 0 he hxe)
  refine V_iload_n rfl (by rfl) ?_
  refine V_if_eqZ rfl rfl (fun z => ?_) (fun z => ?_)
  · exact go 0 (by decide) z
  refine V_iload_n rfl (by rfl) ?_
  refine V_iconst (v := 1) rfl (by decide) ?_
  refine V_icmp_eqZ (b := 1) rfl rfl (by decide) (fun z1 => ?_) (fun z1 => ?_)
  · exact go 1 (by decide) z1
  exact V_throw (E := ENS) rfl rfl rfl rfl (by decide +kernel) kl_X11_241 kk_X11_243 (Nat.le_of_ble_eq_true rfl) (Nat.le_of_ble_eq_true rfl) ⟨by decide, by decide⟩ (hx (by omega))
theorem c_byteOf {r d N : Nat} {l : List Nat} {x : Int32} (h : Rw G r d N l) (hN : N < 2 ^ 20) (hq : 0 ≤ x.toInt → x.toInt < l.length → Q (.inl (some (.int (nI (gD l x.toInt.toNat))))) G) (hx : x.toInt < 0 ∨ (l.length : Int) ≤ x.toInt → Q (.inr EIO) (G.1, none)) : C K 1 6 mX11_byteOf [.ref r, .int x] G Q := by
  obtain ⟨g1, g2, b, g3, g4, g5⟩ := h
  refine C_of okX11_byteOf (Nat.le_of_ble_eq_true rfl) ?_
  refine V_aload_n rfl (by first | rfl | assumption) ?_
  refine V_iload_n rfl (by first | rfl | assumption) ?_
  refine V_callV (M' := mX6_holds) (mc := 0) (ms := 0) (bc' := 1) (bs' := 6) rfl cw_X11_208 iv_X6_holds (by repeat (first | exact hup_eq | assumption | refine Eq.trans (hup_ne (by first | assumption | exact Ne.symm (by assumption) | decide | omega)) ?_)) rfl rfl (Nat.le_of_ble_eq_true rfl) ⟨Nat.le_of_ble_eq_true rfl, Nat.le_of_ble_eq_true rfl⟩ ⟨Nat.le_of_ble_eq_true rfl, Nat.le_of_ble_eq_true rfl⟩ (As := [.int x]) (c_Row_holds (Q := fun o G2 => o = .inl (some (.int (if x < 0 ∨ nI l.length ≤ x then 0 else 1))) ∧ G2 = G) g1 ⟨rfl, rfl⟩) (fun o G2 h => ?_) (fun E G' h => by cases h.1)
  obtain ⟨h0, rfl⟩ := h
  cases h0
  have e1 : (x < 0 ∨ nI l.length ≤ x) ↔ (x.toInt < 0 ∨ (l.length : Int) ≤ x.toInt) := by
    rw [Int32.lt_iff_toInt_lt, Int32.le_iff_toInt_le, nI_toInt (by omega)]
    exact Iff.rfl
  by_cases hc : x < 0 ∨ nI l.length ≤ x
  · rw [if_pos hc]
    refine V_if_ne rfl (fun z => absurd rfl z) (fun _ => ?_)
    exact V_throw (E := EIO) rfl rfl rfl rfl (by decide +kernel) kl_X11_91 kk_X11_93 (Nat.le_of_ble_eq_true rfl) (Nat.le_of_ble_eq_true rfl) ⟨by decide, by decide⟩ (hx (e1.mp hc))
  · rw [if_neg hc]
    refine V_if_ne rfl (fun _ => ?_) (fun z => absurd z (by decide))
    have hc2 : ¬ (x.toInt < 0 ∨ (l.length : Int) ≤ x.toInt) := fun z => hc (e1.mpr z)
    obtain ⟨hx1, hx2⟩ := i32_n (x := x) (by omega)
    have hv := hq (by omega) (by omega)
    obtain ⟨m, hm⟩ : ∃ m, m = x.toInt.toNat := ⟨_, rfl⟩
    rw [← hm] at hx1 hx2 hv
    have hml : m < l.length := by omega
    rw [gD_of g4 hml] at hv
    clear hm hc2 hc e1 hq hx
    subst hx1
    refine V_aload_n rfl (by first | rfl | assumption) ?_
    refine V_getf rfl rfl rfl (by repeat (first | exact hup_eq | assumption | refine Eq.trans (hup_ne (by first | assumption | exact Ne.symm (by assumption) | decide | omega)) ?_)) (by first | rfl | assumption) ?_
    refine V_iload_n rfl (by first | rfl | assumption) ?_
    refine V_ialdN rfl (by repeat (first | exact hup_eq | assumption | refine Eq.trans (hup_ne (by first | assumption | exact Ne.symm (by assumption) | decide | omega)) ?_)) rfl (by first | omega | decide) (by first | omega | decide) ?_
    exact V_iret rfl rfl hv
theorem c_packetOf {e : Nat} {S : SG} {x : Int32} (he : e < 2) (h : RC S G) (hq : ∀ r d, 0 ≤ x.toInt → x.toInt < (wi (S.1 e)).length → EB e + 8 ≤ r → r ≤ EB e + 30 → d = r + 1 → Rw G r d 228 (pkA S e x.toInt.toNat) → (∀ G' l', FP (fun j => j = d) G G' → Rw G' r d 228 l' → WR (EB e) G' ((wi (S.1 e)).set x.toInt.toNat l')) → Q (.inl (some (.ref r))) G) (hx : x.toInt < 0 ∨ ((wi (S.1 e)).length : Int) ≤ x.toInt → Q (.inr ENS) (G.1, none)) : C K 1 6 mX11_packetOf [.ref (EB e), .int x] G Q := by
  obtain ⟨x1, x2, x3, x4, x5, x6, x7, x8⟩ := id (h.2 e he)
  obtain ⟨fi, f, w1, w2, w3, w4, w5, w6, w7⟩ := id x6
  have hEe : EB e = 32 + 46 * e := rfl
  refine C_of okX11_packetOf (Nat.le_of_ble_eq_true rfl) ?_
  have bad : x.toInt < 0 ∨ ((wi (S.1 e)).length : Int) ≤ x.toInt → V K 1 6 mX11_packetOf 15 (kla [.ref (EB e), .int x]) [] G Q := fun z =>
    V_throw (E := ENS) rfl rfl rfl rfl (by decide +kernel) kl_X11_241 kk_X11_243 (Nat.le_of_ble_eq_true rfl) (Nat.le_of_ble_eq_true rfl) ⟨by decide, by decide⟩ (hx z)
  refine V_iload_n rfl (by rfl) ?_
  refine V_if_ltZ rfl rfl (fun z => bad (Or.inl z)) (fun z => ?_)
  refine V_iload_n rfl (by first | rfl | assumption) ?_
  refine V_aload_n rfl (by first | rfl | assumption) ?_
  refine V_getf rfl rfl rfl (by repeat (first | exact hup_eq | assumption | refine Eq.trans (hup_ne (by first | assumption | exact Ne.symm (by assumption) | decide | omega)) ?_)) (by first | rfl | assumption) ?_
  refine V_getf rfl rfl rfl (by repeat (first | exact hup_eq | assumption | refine Eq.trans (hup_ne (by first | assumption | exact Ne.symm (by assumption) | decide | omega)) ?_)) (by first | rfl | assumption) ?_
  refine V_icmp_ltZ rfl rfl (nI_toInt (by omega)) (fun z2 => ?_) (fun z2 => bad (Or.inr (by omega)))
  obtain ⟨hx1, hx2⟩ := i32_n (x := x) (by omega)
  obtain ⟨m, hm⟩ : ∃ m, m = x.toInt.toNat := ⟨_, rfl⟩
  have hmx : x.toInt = m := by omega
  rw [← hm] at hx1 hx2
  have hq9 := fun r d => hq r d (by omega) (by omega)
  rw [← hm] at hq9
  clear hq hx bad z
  subst hx1
  have hml : m < (wi (S.1 e)).length := by omega
  refine V_aload_n rfl (by first | rfl | assumption) ?_
  refine V_getf rfl rfl rfl (by repeat (first | exact hup_eq | assumption | refine Eq.trans (hup_ne (by first | assumption | exact Ne.symm (by assumption) | decide | omega)) ?_)) (by first | rfl | assumption) ?_
  refine V_iload_n rfl (by first | rfl | assumption) ?_
  refine V_callV (M' := mX10_at) (mc := 0) (ms := 0) (bc' := 1) (bs' := 6) rfl cw_X11_244 iv_X10_at (by repeat (first | exact hup_eq | assumption | refine Eq.trans (hup_ne (by first | assumption | exact Ne.symm (by assumption) | decide | omega)) ?_)) rfl rfl (Nat.le_of_ble_eq_true rfl) ⟨Nat.le_of_ble_eq_true rfl, Nat.le_of_ble_eq_true rfl⟩ ⟨Nat.le_of_ble_eq_true rfl, Nat.le_of_ble_eq_true rfl⟩ (As := [.int (nI m)]) (c_wat (E := EB e) (Q := fun o G2 => o = .inl (some (.ref (EB e + 8 + 2 * ((fi + m) % 12)))) ∧ G2 = G) w3 w4 w5 w1 (by omega) ⟨rfl, rfl⟩) (fun o G2 h => ?_) (fun E G' h => by cases h.1)
  obtain ⟨h0, rfl⟩ := h
  cases h0
  refine V_aret rfl rfl (Or.inl ⟨_, rfl⟩) (hq9 _ (EB e + 9 + 2 * ((fi + m) % 12)) (by omega) (by omega) (by omega) (w7 m hml) ?_)
  intro G' l' F r'
  refine ⟨fi, f, w1, by rw [List.length_set]; exact w2, by rw [List.length_set]; exact F.get (by omega) w3, F.get (by omega) w4, w5, fun j hj => ?_, fun i hi => ?_⟩
  · by_cases ej : j = (fi + m) % 12
    · subst ej
      exact r'.ex
    · obtain ⟨m9, b9, k1, k2⟩ := w6 j hj
      exact ⟨m9, b9, F.get (by omega) k1, F.get (by omega) k2⟩
  · rw [List.length_set] at hi
    by_cases ei : i = m
    · subst ei
      have : (List.set (wi (S.1 e)) i l').getD i [] = l' := by
        rw [List.getD_eq_getElem?_getD, List.getElem?_set_self hi]
        rfl
      rw [this]
      exact r'
    · have : (List.set (wi (S.1 e)) m l').getD i [] = (wi (S.1 e)).getD i [] := by
        rw [List.getD_eq_getElem?_getD, List.getElem?_set_ne (fun q => ei q.symm), List.getD_eq_getElem?_getD]
      rw [this]
      exact (w7 i hi).fp (F.2 _ (by omega)) (F.2 _ (by omega))
theorem c_maySend {e m : Nat} {S : SG} (he : e < 2) (h : RC S G) (hm : m < 256) (hq : Q (.inl (some (.int (bI (mSd (S.1 e) m))))) G) : C K 0 0 mX11_maySend [.ref (EB e), .int (nI m)] G Q := by
  obtain ⟨x1, x2, x3, x4, x5, x6, x7, x8⟩ := id (h.2 e he)
  have k1 := x8.1
  refine C_of okX11_maySend (Nat.le_of_ble_eq_true rfl) ?_
  have no : mSd (S.1 e) m = false → V K 0 0 mX11_maySend 31 (kla [.ref (EB e), .int (nI m)]) [] G Q := by
    intro z
    rw [z] at hq
    refine V_iconst (v := 0) rfl (by decide) ?_
    exact V_zret rfl rfl (Or.inl rfl) hq
  refine V_aload_n rfl (by first | rfl | assumption) ?_
  refine V_getf rfl rfl rfl (by repeat (first | exact hup_eq | assumption | refine Eq.trans (hup_ne (by first | assumption | exact Ne.symm (by assumption) | decide | omega)) ?_)) (by first | rfl | assumption) ?_
  refine V_if_eqB rfl (fun z => no (by unfold mSd; rw [z]; rfl)) (fun z0 => ?_)
  refine V_iload_n rfl (by first | rfl | assumption) ?_
  refine V_bipush (v := nI 20) rfl (by decide) ?_
  refine V_icmp_eqN rfl (by omega) (by decide) (fun z => no (by unfold mSd; rw [z]; simp)) (fun m20 => ?_)
  refine V_iload_n rfl (by first | rfl | assumption) ?_
  refine V_bipush (v := nI 21) rfl (by decide) ?_
  refine V_icmp_eqN rfl (by omega) (by decide) (fun z => no (by unfold mSd; rw [z]; simp)) (fun m21 => ?_)
  refine V_iload_n rfl (by first | rfl | assumption) ?_
  refine V_bipush (v := nI 30) rfl (by decide) ?_
  refine V_icmp_eqN rfl (by omega) (by decide) (fun z => no (by unfold mSd; rw [z]; simp)) (fun m30 => ?_)
  refine V_iload_n rfl (by first | rfl | assumption) ?_
  refine V_bipush (v := nI 31) rfl (by decide) ?_
  refine V_icmp_neN rfl (by omega) (by decide) (fun m31 => ?_) (fun z => no (by unfold mSd; rw [z]; simp))
  have U : mSd (S.1 e) m = (!(fl (S.1 e) 2 && !fl (S.1 e) 5) || decide (m = 1) || decide (m = 2) || decide (m = 3)) := by unfold mSd; rw [z0, decide_eq_false m20, decide_eq_false m21, decide_eq_false m30, decide_eq_false m31]; rfl
  rw [U] at hq
  clear no U
  have fin9 : ∀ (bt : Bool), bt = (fl (S.1 e) 2 && !fl (S.1 e) 5) → V K 0 0 mX11_maySend 58 (kla [.ref (EB e), .int (nI m)]) [.int (bI bt)] G Q := by
    intro bt hbt
    rw [← hbt] at hq
    refine V_istore_n rfl (by decide) ?_
    refine V_iload_n rfl (by rfl) ?_
    have yes : (!bt || decide (m = 1) || decide (m = 2) || decide (m = 3)) = true → V K 0 0 mX11_maySend 78 (ls1 (kla [.ref (EB e), .int (nI m)]) 2 (.int (bI bt))) [] G Q := by
      intro z
      rw [z] at hq
      refine V_iconst (v := 1) rfl (by decide) ?_
      refine V_goto rfl ?_
      exact V_zret rfl rfl (Or.inr rfl) hq
    refine V_if_eqB rfl (fun z => yes (by rw [z]; rfl)) (fun z => ?_)
    refine V_iload_n rfl (by rfl) ?_
    refine V_iconst (v := nI 1) rfl (by decide) ?_
    refine V_icmp_eqN rfl (by omega) (by decide) (fun z => yes (by rw [z]; simp)) (fun m1 => ?_)
    refine V_iload_n rfl (by rfl) ?_
    refine V_iconst (v := nI 2) rfl (by decide) ?_
    refine V_icmp_eqN rfl (by omega) (by decide) (fun z => yes (by rw [z]; simp)) (fun m2 => ?_)
    refine V_iload_n rfl (by rfl) ?_
    refine V_iconst (v := nI 3) rfl (by decide) ?_
    refine V_icmp_neN rfl (by omega) (by decide) (fun m3 => ?_) (fun z => yes (by rw [z]; simp))
    have N : (!bt || decide (m = 1) || decide (m = 2) || decide (m = 3)) = false := by rw [z, decide_eq_false m1, decide_eq_false m2, decide_eq_false m3]; rfl
    rw [N] at hq
    refine V_iconst (v := 0) rfl (by decide) ?_
    exact V_zret rfl rfl (Or.inl rfl) hq
  refine V_aload_n rfl (by first | rfl | assumption) ?_
  refine V_getf rfl rfl rfl (by repeat (first | exact hup_eq | assumption | refine Eq.trans (hup_ne (by first | assumption | exact Ne.symm (by assumption) | decide | omega)) ?_)) (by first | rfl | assumption) ?_
  refine V_getf rfl rfl rfl (by repeat (first | exact hup_eq | assumption | refine Eq.trans (hup_ne (by first | assumption | exact Ne.symm (by assumption) | decide | omega)) ?_)) (by first | rfl | assumption) ?_
  refine V_if_eqB rfl (fun z => ?_) (fun z => ?_)
  · refine V_iconst (v := bI false) rfl (by decide) ?_
    exact fin9 false (by rw [z]; rfl)
  refine V_aload_n rfl (by first | rfl | assumption) ?_
  refine V_getf rfl rfl rfl (by repeat (first | exact hup_eq | assumption | refine Eq.trans (hup_ne (by first | assumption | exact Ne.symm (by assumption) | decide | omega)) ?_)) (by first | rfl | assumption) ?_
  refine V_getf rfl rfl rfl (by repeat (first | exact hup_eq | assumption | refine Eq.trans (hup_ne (by first | assumption | exact Ne.symm (by assumption) | decide | omega)) ?_)) (by first | rfl | assumption) ?_
  refine V_if_neB rfl (fun z5 => ?_) (fun z5 => ?_)
  · refine V_iconst (v := bI false) rfl (by decide) ?_
    exact fin9 false (by rw [z, z5]; rfl)
  · refine V_iconst (v := bI true) rfl (by decide) ?_
    refine V_goto rfl ?_
    exact fin9 true (by rw [z, z5]; rfl)
end CClass11
