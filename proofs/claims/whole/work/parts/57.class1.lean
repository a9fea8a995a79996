section CClass1
variable {K : kK} {G : kG} {Q : kO → kG → Prop}
def EB (e : Nat) : Nat := 32 + 46 * e
abbrev SWO (tp sp : Nat) : kE := .inr (10, [.ref 1, .ref 14, .ref 19, .ref 32, .ref 78, .ref 124, .ref 125, .ref 126, .ref 127, .ref 128, .ref 129, .ref 130, .ref 132, .ref 134, .ref tp, .ref sp])
def TP (g : (Nat → Nat → Nat) × List Nat × List Nat) (G : kG) : Prop := ∃ tp sp, ((tp = 136 ∧ sp = 138) ∨ (tp = 138 ∧ sp = 136)) ∧ G.1 0 = some (SWO tp sp) ∧ Rw G tp (tp + 1) 600 g.2.2 ∧ ∃ m b, G.1 sp = some (ROB (sp + 1) m) ∧ G.1 (sp + 1) = some (BA 600 b)
def TL (g : (Nat → Nat → Nat) × List Nat × List Nat) (G : kG) : Prop := crv G ∧ hsr G ∧ slr G ∧ Rb G 124 32 (g.1 0) ∧ Rb G 125 32 (g.1 1) ∧ (∀ c, 126 ≤ c → c ≤ 129 → ∃ b, G.1 c = some (BA 32 b)) ∧ Rw G 130 131 64 g.2.1 ∧ (∃ m b, G.1 132 = some (ROB 133 m) ∧ G.1 133 = some (BA 200 b)) ∧ (∃ m b, G.1 134 = some (ROB 135 m) ∧ G.1 135 = some (BA 200 b)) ∧ TP g G
def RC (S : SG) (G : kG) : Prop := TL S.2 G ∧ ∀ e, e < 2 → RE (EB e) (S.1 e) G
theorem crv.fp {G' : kG} (h : crv G) (e : ∀ j, 1 ≤ j → j ≤ 13 → G'.1 j = G.1 j) : crv G' := by
  obtain ⟨h1, ⟨f, h2⟩, h3, w, h4⟩ := h
  refine ⟨(e _ (by omega) (by omega)).trans h1, ⟨f, (e _ (by omega) (by omega)).trans h2⟩, fun r hr => ?_, w, (e _ (by omega) (by omega)).trans h4⟩
  obtain ⟨z, hz⟩ := h3 r hr
  refine ⟨z, (e _ ?_ ?_).trans hz⟩
  · simp at hr; omega
  · simp at hr; omega
theorem hsr.fp {G' : kG} (h : hsr G) (e : ∀ j, 14 ≤ j → j ≤ 18 → G'.1 j = G.1 j) : hsr G' := by
  obtain ⟨h1, ⟨f, h2⟩, ⟨w, h3⟩, n, b, h4, h5⟩ := h
  exact ⟨(e _ (by omega) (by omega)).trans h1, ⟨f, (e _ (by omega) (by omega)).trans h2⟩, ⟨w, (e _ (by omega) (by omega)).trans h3⟩, n, b, (e _ (by omega) (by omega)).trans h4, (e _ (by omega) (by omega)).trans h5⟩
theorem TP.fp {g : (Nat → Nat → Nat) × List Nat × List Nat} {G' : kG} (h : TP g G) (e0 : G'.1 0 = G.1 0) (e : ∀ j, 136 ≤ j → j ≤ 139 → G'.1 j = G.1 j) : TP g G' := by
  obtain ⟨tp, sp, h1, h2, h3, m, b, h4, h5⟩ := h
  exact ⟨tp, sp, h1, e0.trans h2, h3.fp (e _ (by omega) (by omega)) (e _ (by omega) (by omega)), m, b, (e _ (by omega) (by omega)).trans h4, (e _ (by omega) (by omega)).trans h5⟩
/-- the tools and rows, when tools may have worked and rows of results and of payloads may be others -/
theorem TL.up {g : (Nat → Nat → Nat) × List Nat × List Nat} {G' : kG} (h : TL g G) (hc : crv G') (hh : hsr G') (hs : slr G') (hr : ∀ c, 126 ≤ c → c ≤ 129 → ∃ b, G'.1 c = some (BA 32 b)) (hi : ∃ m b, G'.1 132 = some (ROB 133 m) ∧ G'.1 133 = some (BA 200 b)) (ho : ∃ m b, G'.1 134 = some (ROB 135 m) ∧ G'.1 135 = some (BA 200 b)) (e : ∀ j, j = 0 ∨ j = 124 ∨ j = 125 ∨ j = 130 ∨ j = 131 ∨ (136 ≤ j ∧ j ≤ 139) → G'.1 j = G.1 j) : TL g G' := by
  obtain ⟨h1, h2, h3, h4, h5, h6, h7, h8, h9, h10⟩ := h
  exact ⟨hc, hh, hs, h4.fp (e _ (by omega)), h5.fp (e _ (by omega)), hr, h7.fp (e _ (by omega)) (e _ (by omega)), hi, ho, h10.fp (e _ (by omega)) (fun j a c => e j (by omega))⟩
/-- only the sealer has worked, and the ends' cells and the outgoing row may be others -/
theorem TL.sl {g : (Nat → Nat → Nat) × List Nat × List Nat} {G' : kG} (h : TL g G) (hs : slr G') (ho : ∃ m b, G'.1 134 = some (ROB 135 m) ∧ G'.1 135 = some (BA 200 b)) (e : ∀ j, j < 19 ∨ (124 ≤ j ∧ j ≠ 134 ∧ j ≠ 135) → G'.1 j = G.1 j) : TL g G' := by
  obtain ⟨m, b, hi1, hi2⟩ := h.2.2.2.2.2.2.2.1
  exact h.up (h.1.fp (fun j a c => e j (by omega))) (h.2.1.fp (fun j a c => e j (by omega))) hs (fun c a d => by obtain ⟨b, hb⟩ := h.2.2.2.2.2.1 c a d; exact ⟨b, (e c (by omega)).trans hb⟩) ⟨m, b, (e _ (by omega)).trans hi1, (e _ (by omega)).trans hi2⟩ ho (fun j hj => e j (by omega))
theorem Rw.ex {r d N : Nat} {l : List Nat} (h : Rw G r d N l) : ∃ m b, G.1 r = some (ROB d m) ∧ G.1 d = some (BA N b) := ⟨_, _, h.1, h.2.2.choose_spec.1⟩
set_option maxHeartbeats 16000000 in
theorem c_emit {e : Nat} {S : SG} {p : List Nat} {T : TB} (he : e < 2) (hT : tbl K T) (h : RC S G) (hp : Rw G 134 135 200 p) (hsent : nm (S.1 e) 0 < 2 ^ 31) (hq : ∀ G', FP (fun j => 19 ≤ j ∧ j ≤ 123) G G' → RC (emt T S e p) G' → Q (.inl none) G') : C K 0 0 mX11_emit [.ref 0, .ref (EB e)] G Q := by
  obtain ⟨hTL, hE⟩ := id h
  obtain ⟨tp, sp, htp, g0, -⟩ := hTL.2.2.2.2.2.2.2.2.2
  have he1 := hE e he
  have ho1 := hE (1 - e) (by omega)
  obtain ⟨x1, x2, x3, x4, x5, x6, x7, x8⟩ := id he1
  obtain ⟨fi, f, w1, w2, w3, w4, w5, w6, w7⟩ := id ho1.2.2.2.2.2.1
  have c0 := (hE 0 (by decide)).1
  have c1 := (hE 1 (by decide)).1
  have hEe : EB e = 32 + 46 * e := rfl
  have hEo : EB (1 - e) = 32 + 46 * (1 - e) := rfl
  refine C_of okX11_emit (Nat.le_of_ble_eq_true rfl) ?_
  refine V_aload_n rfl (by first | rfl | assumption) ?_
  refine V_getf rfl rfl rfl (by repeat (first | exact hup_eq | assumption | refine Eq.trans (hup_ne (by first | assumption | exact Ne.symm (by assumption) | decide | omega)) ?_)) (by first | rfl | assumption) ?_
  by_cases hl : fl (S.1 e) 0 = false
  · rw [hl]
    refine V_if_ne rfl (fun h => absurd rfl h) (fun _ => ?_)
    refine V_vret rfl rfl (hq G FP.rf ?_)
    unfold emt
    rw [if_pos hl]
    exact h
  have hl1 : fl (S.1 e) 0 = true := by cases hh : fl (S.1 e) 0 with | true => rfl | false => exact absurd hh hl
  rw [hl1]
  refine V_if_ne rfl (fun _ => ?_) (fun h => absurd h (by decide))
  have hw6 : ((S.1 (1 - e)).2.2.2.2.2).length = (wi (S.1 (1 - e))).length := rfl
  have go : ∀ lc : kLo, lc 0 = some (.ref 0) → lc 1 = some (.ref (EB e)) → lc 2 = some (.ref (EB (1 - e) + 6)) → V K 0 0 mX11_emit 34 lc [] G Q := by
    intro lc l0 l1 l2
    refine V_aload_n rfl (by first | rfl | assumption) ?_
    refine V_getf rfl rfl rfl (by repeat (first | exact hup_eq | assumption | refine Eq.trans (hup_ne (by first | assumption | exact Ne.symm (by assumption) | decide | omega)) ?_)) (by first | rfl | assumption) ?_
    refine V_bipush (v := nI 12) rfl (by decide) ?_
    refine V_icmp_neN rfl (by omega) (by decide) (fun h12 => ?_) (fun h12 => ?_)
    rotate_left
    · refine V_aload_n rfl (by first | rfl | assumption) ?_
      refine V_iconst (v := nI 0) rfl (by decide) ?_
      refine V_putf rfl rfl rfl rfl (by repeat (first | exact hup_eq | assumption | refine Eq.trans (hup_ne (by first | assumption | exact Ne.symm (by assumption) | decide | omega)) ?_)) (Nat.le_of_ble_eq_true rfl) (by first | exact ⟨rfl, rfl⟩ | (constructor <;> decide)) ?_
      refine V_vret rfl rfl (hq _ (FP.rf.hup (by omega)) ?_)
      unfold emt
      rw [if_neg hl, if_pos h12]
      refine ⟨hTL.sl (hTL.2.2.1.fp (fun j a c => hup_ne (by omega))) (by obtain ⟨m, b, q1, q2⟩ := hTL.2.2.2.2.2.2.2.2.1; exact ⟨m, b, (hup_ne (by omega)).trans q1, (hup_ne (by omega)).trans q2⟩) (fun j hj => hup_ne (by omega)), fun k hk => ?_⟩
      by_cases ek : k = e
      · subst ek
        show RE (EB k) (up S.1 k _ k) _
        rw [up_eq]
        refine he1.obj (fun j a c => hup_ne (by omega)) ?_ (fun k a => up_ne (by omega)) rfl rfl rfl
        rw [hup_eq]
        rfl
      · show RE (EB k) (up S.1 e _ k) _
        rw [up_ne ek]
        exact (hE k hk).fp (fun j a c => hup_ne (by unfold EB at a c ⊢; omega))
    · obtain ⟨G1, hG1⟩ : ∃ G1, G1 = hup G (EB (1 - e) + 6) (WIO (EB (1 - e)) fi ((wi (S.1 (1 - e))).length + 1)) := ⟨_, rfl⟩
      have F1 : FP (fun j => j = EB (1 - e) + 6) G G1 := by rw [hG1]; exact FP.rf.hup rfl
      have i6 : G1.1 (EB (1 - e) + 6) = some (WIO (EB (1 - e)) fi ((wi (S.1 (1 - e))).length + 1)) := by rw [hG1]; exact hup_eq
      obtain ⟨ri, hri⟩ : ∃ ri, ri = (fi + (wi (S.1 (1 - e))).length) % 12 := ⟨_, rfl⟩
      have hri2 : ri < 12 := by omega
      refine V_aload_n rfl (by first | rfl | assumption) ?_
      refine V_getf rfl rfl rfl (by repeat (first | exact hup_eq | assumption | refine Eq.trans (hup_ne (by first | assumption | exact Ne.symm (by assumption) | decide | omega)) ?_)) (by first | rfl | assumption) ?_
      refine V_aload_n rfl (by first | rfl | assumption) ?_
      refine V_getf rfl rfl rfl (by repeat (first | exact hup_eq | assumption | refine Eq.trans (hup_ne (by first | assumption | exact Ne.symm (by assumption) | decide | omega)) ?_)) (by first | rfl | assumption) ?_
      refine V_aload_n rfl (by first | rfl | assumption) ?_
      refine V_getf rfl rfl rfl (by repeat (first | exact hup_eq | assumption | refine Eq.trans (hup_ne (by first | assumption | exact Ne.symm (by assumption) | decide | omega)) ?_)) (by first | rfl | assumption) ?_
      refine V_aload_n rfl (by first | rfl | assumption) ?_
      refine V_getf rfl rfl rfl (by repeat (first | exact hup_eq | assumption | refine Eq.trans (hup_ne (by first | assumption | exact Ne.symm (by assumption) | decide | omega)) ?_)) (by first | rfl | assumption) ?_
      refine V_aload_n rfl (by first | rfl | assumption) ?_
      refine V_callV (M' := mX10_append) (mc := 0) (ms := 0) (bc' := 0) (bs' := 0) rfl cw_X11_255 iv_X10_append (by repeat (first | exact hup_eq | assumption | refine Eq.trans (hup_ne (by first | assumption | exact Ne.symm (by assumption) | decide | omega)) ?_)) rfl rfl (Nat.le_of_ble_eq_true rfl) ⟨Nat.le_of_ble_eq_true rfl, Nat.le_of_ble_eq_true rfl⟩ ⟨Nat.le_of_ble_eq_true rfl, Nat.le_of_ble_eq_true rfl⟩ (As := []) (c_append (E := EB (1 - e)) (Q := fun o G2 => o = .inl (some (.ref (EB (1 - e) + 8 + 2 * ri))) ∧ G2 = G1) w3 w4 w5 w1 (by omega) ⟨by rw [hri], hG1.symm⟩) (fun o G2 h => ?_) (fun E G' h => by cases h.1)
      obtain ⟨h0, rfl⟩ := h
      cases h0
      have s1 : slr G2 := hTL.2.2.1.fp (fun j a c => F1.2 j (by omega))
      have p1 : Rw G2 134 135 200 p := hp.fp (F1.2 _ (by omega)) (F1.2 _ (by omega))
      obtain ⟨⟨y1, y2, y3⟩, y4, y5, y6⟩ := x7.fp (G' := G2) (fun j a c => F1.2 j (by omega))
      obtain ⟨m0, b0, z1, z2⟩ := w6 ri hri2
      have z1' : G2.1 (EB (1 - e) + 8 + 2 * ri) = some (ROB (EB (1 - e) + 9 + 2 * ri) m0) := F1.get (by omega) z1
      have z2' : G2.1 (EB (1 - e) + 9 + 2 * ri) = some (BA 228 b0) := F1.get (by omega) z2
      have q19 := s1.1
      refine V_callV (M' := mX7_close) (mc := 0) (ms := 0) (bc' := 0) (bs' := 0) rfl cw_X11_258 iv_X7_close (by repeat (first | exact hup_eq | assumption | refine Eq.trans (hup_ne (by first | assumption | exact Ne.symm (by assumption) | decide | omega)) ?_)) rfl rfl (Nat.le_of_ble_eq_true rfl) ⟨Nat.le_of_ble_eq_true rfl, Nat.le_of_ble_eq_true rfl⟩ ⟨Nat.le_of_ble_eq_true rfl, Nat.le_of_ble_eq_true rfl⟩ (As := [.ref 134, .ref (EB e + 32), .int (nI (nm (S.1 e) 0)), .ref (EB (1 - e) + 8 + 2 * ri)]) (c_close (T := T) (Q := fun o G3 => o = .inl none ∧ FP (fun j => (19 ≤ j ∧ j ≤ 31) ∨ j = EB (1 - e) + 8 + 2 * ri ∨ j = EB (1 - e) + 9 + 2 * ri) G2 G3 ∧ slr G3 ∧ Rw G3 (EB (1 - e) + 8 + 2 * ri) (EB (1 - e) + 9 + 2 * ri) 228 (pkt T (fl (S.1 e) 6) (rw9 (S.1 e) 6) (rw9 (S.1 e) 7) (nm (S.1 e) 0) p)) hT s1 p1 y1 y2 y3 z1' z2' (by omega) (by omega) hsent (fun G3 h1 h2 h3 => ⟨rfl, h1, h2, h3⟩)) (fun o G3 h => ?_) (fun E G' h => by cases h.1)
      obtain ⟨h0, F3, s3, r3⟩ := h
      cases h0
      have F3' : FP (fun j => (19 ≤ j ∧ j ≤ 31) ∨ (EB (1 - e) + 6 ≤ j ∧ j ≤ EB (1 - e) + 31)) G G3 := (F1.sub (P' := fun j => (19 ≤ j ∧ j ≤ 31) ∨ (EB (1 - e) + 6 ≤ j ∧ j ≤ EB (1 - e) + 31)) (fun x hx => by omega)).trans F3 (fun x hx => by omega)
      have x13 := F3'.get (j := EB e) (by omega) x1
      refine V_aload_n rfl (by first | rfl | assumption) ?_
      refine V_dup rfl rfl ?_
      refine V_getf rfl rfl rfl (by repeat (first | exact hup_eq | assumption | refine Eq.trans (hup_ne (by first | assumption | exact Ne.symm (by assumption) | decide | omega)) ?_)) (by first | rfl | assumption) ?_
      refine V_iconst (v := nI 1) rfl (by decide) ?_
      refine V_iaddN rfl ?_
      refine V_putf rfl rfl rfl rfl (by repeat (first | exact hup_eq | assumption | refine Eq.trans (hup_ne (by first | assumption | exact Ne.symm (by assumption) | decide | omega)) ?_)) (Nat.le_of_ble_eq_true rfl) (by first | exact ⟨rfl, rfl⟩ | (constructor <;> decide)) ?_
      obtain ⟨G4, hG4⟩ : ∃ G4, G4 = hup G3 (EB e) (ENO (EB e) (snm (S.1 e) 0 (nm (S.1 e) 0 + 1))) := ⟨_, rfl⟩
      show V K 0 0 _ _ _ _ (hup G3 (EB e) (ENO (EB e) (snm (S.1 e) 0 (nm (S.1 e) 0 + 1)))) Q
      rw [← hG4]
      have F4 : FP (fun j => j = EB e) G3 G4 := by rw [hG4]; exact FP.rf.hup rfl
      have i4 : G4.1 (EB e) = some (ENO (EB e) (snm (S.1 e) 0 (nm (S.1 e) 0 + 1))) := by rw [hG4]; exact hup_eq
      clear hG4
      refine V_vret rfl rfl (hq G4 ((F3'.sub (P' := fun j => 19 ≤ j ∧ j ≤ 123) (fun x hx => by omega)).trans F4 (fun x hx => by omega)) ?_)
      unfold emt
      rw [if_neg hl, if_neg h12]
      refine ⟨hTL.sl (s3.fp (fun j a c => F4.2 j (by omega))) (by obtain ⟨m, b, q1, q2⟩ := hTL.2.2.2.2.2.2.2.2.1; exact ⟨m, b, F4.get (by omega) (F3'.get (by omega) q1), F4.get (by omega) (F3'.get (by omega) q2)⟩) (fun j hj => (F4.2 j (by omega)).trans (F3'.2 j (by omega))), fun k hk => ?_⟩
      by_cases ek : k = e
      · subst ek
        show RE (EB k) (up (up S.1 (1 - k) _) k _ k) _
        rw [up_eq]
        exact he1.obj (fun j a c => (F4.2 j (by omega)).trans (F3'.2 j (by omega))) i4 (fun k a => rfl) rfl rfl rfl
      · have ek2 : k = 1 - e := by omega
        subst ek2
        show RE (EB (1 - e)) (up (up S.1 (1 - e) _) e _ (1 - e)) _
        rw [up_ne (by omega), up_eq]
        have D : ∀ j, ¬ ((19 ≤ j ∧ j ≤ 31) ∨ (EB (1 - e) + 6 ≤ j ∧ j ≤ EB (1 - e) + 31)) → j ≠ EB e → G4.1 j = G.1 j := fun j a c => (F4.2 j c).trans (F3'.2 j a)
        obtain ⟨v1, v2, v3, v4, v5, v6, v7, v8⟩ := ho1
        refine ⟨(D _ (by omega) (by omega)).trans v1, v2.fp (D _ (by omega) (by omega)), v3.fp (D _ (by omega) (by omega)), v4.fp (D _ (by omega) (by omega)), v5.fp (D _ (by omega) (by omega)) (D _ (by omega) (by omega)), ?_, (v7.fp (fun j a c => D _ (by omega) (by omega))).sta (fun _ _ _ => rfl) (fun _ _ _ => rfl), (v8.fp (fun j a c => D _ (by omega) (by omega))).sta (fun _ _ => rfl) rfl⟩
        have D2 : ∀ j, EB (1 - e) + 7 ≤ j → j ≤ EB (1 - e) + 31 → j ≠ EB (1 - e) + 8 + 2 * ri → j ≠ EB (1 - e) + 9 + 2 * ri → G4.1 j = G.1 j := fun j a b c d => (F4.2 j (by omega)).trans ((F3.2 j (by omega)).trans (F1.2 j (by omega)))
        have r4 := r3.fp (G' := G4) (F4.2 _ (by omega)) (F4.2 _ (by omega))
        refine WR.snoc (fi := fi) (f := f) w1 (by omega) ?_ ((D2 _ (by omega) (by omega) (by omega) (by omega)).trans w4) w5 (fun j hj => ?_) (fun i hi => ?_) ?_
        · exact F4.get (by omega) (F3.get (by omega) i6)
        · by_cases ej : j = ri
          · rw [ej]
            exact r4.ex
          · obtain ⟨m, b, k1, k2⟩ := w6 j hj
            exact ⟨m, b, (D2 _ (by omega) (by omega) (by omega) (by omega)).trans k1, (D2 _ (by omega) (by omega) (by omega) (by omega)).trans k2⟩
        · exact (w7 i hi).fp (D2 _ (by omega) (by omega) (by omega) (by omega)) (D2 _ (by omega) (by omega) (by omega) (by omega))
        · rw [hri] at r4
          exact r4
  have hcs : e = 0 ∨ e = 1 := by omega
  rcases hcs with rfl | rfl
  · refine V_aload_n rfl (by first | rfl | assumption) ?_
    refine V_aload_n rfl (by first | rfl | assumption) ?_
    refine V_getf rfl rfl rfl (by repeat (first | exact hup_eq | assumption | refine Eq.trans (hup_ne (by first | assumption | exact Ne.symm (by assumption) | decide | omega)) ?_)) (by first | rfl | assumption) ?_
    refine V_acmp_ne rfl (by decide) (by decide) (fun h => absurd rfl h) (fun _ => ?_)
    refine V_aload_n rfl (by first | rfl | assumption) ?_
    refine V_getf rfl rfl rfl (by repeat (first | exact hup_eq | assumption | refine Eq.trans (hup_ne (by first | assumption | exact Ne.symm (by assumption) | decide | omega)) ?_)) (by first | rfl | assumption) ?_
    refine V_getf rfl rfl rfl (by repeat (first | exact hup_eq | assumption | refine Eq.trans (hup_ne (by first | assumption | exact Ne.symm (by assumption) | decide | omega)) ?_)) (by first | rfl | assumption) ?_
    refine V_goto rfl ?_
    refine V_astore_n rfl (by decide) ?_
    exact go _ rfl rfl rfl
  · refine V_aload_n rfl (by first | rfl | assumption) ?_
    refine V_aload_n rfl (by first | rfl | assumption) ?_
    refine V_getf rfl rfl rfl (by repeat (first | exact hup_eq | assumption | refine Eq.trans (hup_ne (by first | assumption | exact Ne.symm (by assumption) | decide | omega)) ?_)) (by first | rfl | assumption) ?_
    refine V_acmp_ne rfl (by decide) (by decide) (fun _ => ?_) (fun h => absurd h (by decide))
    refine V_aload_n rfl (by first | rfl | assumption) ?_
    refine V_getf rfl rfl rfl (by repeat (first | exact hup_eq | assumption | refine Eq.trans (hup_ne (by first | assumption | exact Ne.symm (by assumption) | decide | omega)) ?_)) (by first | rfl | assumption) ?_
    refine V_getf rfl rfl rfl (by repeat (first | exact hup_eq | assumption | refine Eq.trans (hup_ne (by first | assumption | exact Ne.symm (by assumption) | decide | omega)) ?_)) (by first | rfl | assumption) ?_
    refine V_astore_n rfl (by decide) ?_
    exact go _ rfl rfl rfl
end CClass1
