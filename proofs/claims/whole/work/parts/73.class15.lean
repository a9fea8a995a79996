section CClass15
variable {K : kK} {G : kG} {Q : kO → kG → Prop}
set_option maxHeartbeats 4000000 in
theorem c_send {S : SG} {T : TB} {x : Int32} {B : Nat} (hT : tbl K T) (h : RC S G) (hB : bnd S B) (hB2 : B < 2 ^ 20) (hq : ∀ G', Kp G G' → RC (aSd T S x.toInt).2.2 G' → Q (oV [ENS, EIA, EIS] (aSd T S x.toInt).1) G') : C K 2 12 mX11_send [.ref 0, .int x] G Q := by
  obtain ⟨tp0, sp0, g0⟩ := h.sw
  refine C_of okX11_send (Nat.le_of_ble_eq_true rfl) ?_
  refine V_aload_n rfl (by first | rfl | assumption) ?_
  refine V_callV (M' := mX11_takeTape) (mc := 0) (ms := 0) (bc' := 2) (bs' := 12) rfl cw_X11_87 iv_X11_takeTape (by repeat (first | exact hup_eq | assumption | refine Eq.trans (hup_ne (by first | assumption | exact Ne.symm (by assumption) | decide | omega)) ?_)) rfl rfl (Nat.le_of_ble_eq_true rfl) ⟨Nat.le_of_ble_eq_true rfl, Nat.le_of_ble_eq_true rfl⟩ ⟨Nat.le_of_ble_eq_true rfl, Nat.le_of_ble_eq_true rfl⟩ (As := []) (c_takeTape (S := S) (Q := fun o G1 => ∃ tk tp : Nat, o = .inl (some (.ref tk)) ∧ (tk = 136 ∧ tp = 138 ∨ tk = 138 ∧ tp = 136) ∧ FP (fun j => j = 0 ∨ j = 136 ∨ j = 138) G G1 ∧ RC (tkn S) G1 ∧ Rw G1 tk (tk + 1) 600 (tpe S) ∧ G1.1 0 = some (SWO tp tk)) h (fun G1 tk tp h1 h2 h3 h4 h5 => ⟨tk, tp, rfl, h1, h2, h3, h4, h5⟩)) (fun o G1 h => ?_) (fun E G' h => by obtain ⟨_, _, h, _⟩ := h; cases h)
  obtain ⟨tk, tp, h0, htk, F1, R1, rt, q0⟩ := h
  cases h0
  have kp1 : Kp G G1 := F1.kp (fun x hx => by omega)
  obtain ⟨g1, g2, b, g3, g4, g5⟩ := id rt
  refine V_astore_n rfl (by decide) ?_
  refine V_aload_n rfl (by first | rfl | assumption) ?_
  refine V_iload_n rfl (by first | rfl | assumption) ?_
  refine V_callV (M' := mX11_endOf) (mc := 1) (ms := 6) (bc' := 1) (bs' := 6) rfl cw_X11_160 iv_X11_endOf (by repeat (first | exact hup_eq | assumption | refine Eq.trans (hup_ne (by first | assumption | exact Ne.symm (by assumption) | decide | omega)) ?_)) rfl rfl (Nat.le_of_ble_eq_true rfl) ⟨Nat.le_of_ble_eq_true rfl, Nat.le_of_ble_eq_true rfl⟩ ⟨Nat.le_of_ble_eq_true rfl, Nat.le_of_ble_eq_true rfl⟩ (As := [.int x]) (c_endQ R1) (fun o G2 h1 => ?_) (fun E G' h1 => ?_)
  rotate_left
  · rcases h1 with ⟨e, a, b, c, d⟩ | ⟨a, b, rfl⟩
    · cases c
    · cases a
      have U : aSd T S x.toInt = (1, 0, tkn S) := by unfold aSd; rw [if_pos b]
      rw [U] at hq
      exact hq _ kp1.nn R1.nn
  rcases h1 with ⟨e, he, hxe, a, rfl⟩ | ⟨a, _⟩
  rotate_left
  · cases a
  cases a
  rw [hxe] at hq
  have U0 : aSd T S (e : Int) = if (tpe S).length < 1 ∨ 200 < (tpe S).length then (2, 0, tkn S) else if mSd (S.1 e) (gD (tpe S) 0) = false then (3, 0, tkn S) else (0, 0, snd T (tkn S) e (tpe S)) := by unfold aSd; rw [if_neg (eok he)]; rfl
  rw [U0] at hq
  have hEe : EB e = 32 + 46 * e := rfl
  refine V_astore_n rfl (by decide) ?_
  have bad : (tpe S).length < 1 ∨ 200 < (tpe S).length → V K 1 6 mX11_send 29 (ls1 (ls1 (kla [.ref 0, .int x]) 2 (.ref tk)) 3 (.ref (EB e))) [] G2 Q := by
    intro z
    rw [if_pos z] at hq
    exact V_throw (E := EIA) rfl rfl rfl rfl (by decide +kernel) kl_X11_102 kk_X11_104 (Nat.le_of_ble_eq_true rfl) (Nat.le_of_ble_eq_true rfl) ⟨by decide, by decide⟩ (hq _ kp1.nn R1.nn)
  refine V_aload_n rfl (by first | rfl | assumption) ?_
  refine V_getf rfl rfl rfl (by repeat (first | exact hup_eq | assumption | refine Eq.trans (hup_ne (by first | assumption | exact Ne.symm (by assumption) | decide | omega)) ?_)) (by first | rfl | assumption) ?_
  refine V_iconst (v := nI 1) rfl (by decide) ?_
  refine V_icmp_ltN rfl (by omega) (by decide) (fun z => bad (Or.inl z)) (fun z1 => ?_)
  refine V_aload_n rfl (by first | rfl | assumption) ?_
  refine V_getf rfl rfl rfl (by repeat (first | exact hup_eq | assumption | refine Eq.trans (hup_ne (by first | assumption | exact Ne.symm (by assumption) | decide | omega)) ?_)) (by first | rfl | assumption) ?_
  refine V_sipush (v := nI 200) rfl (by decide) ?_
  refine V_icmp_leN rfl (by omega) (by decide) (fun z2 => ?_) (fun z => bad (Or.inr (by omega)))
  clear bad
  rw [if_neg (by omega)] at hq
  have hg0 : gD (tpe S) 0 = b 0 := gD_of g4 (by omega)
  have hb0 : b 0 < 256 := g5 0 (by omega)
  rw [hg0] at hq
  refine V_aload_n rfl (by first | rfl | assumption) ?_
  refine V_getf rfl rfl rfl (by repeat (first | exact hup_eq | assumption | refine Eq.trans (hup_ne (by first | assumption | exact Ne.symm (by assumption) | decide | omega)) ?_)) (by first | rfl | assumption) ?_
  refine V_iconst (v := nI 0) rfl (by decide) ?_
  refine V_ialdN rfl (by repeat (first | exact hup_eq | assumption | refine Eq.trans (hup_ne (by first | assumption | exact Ne.symm (by assumption) | decide | omega)) ?_)) rfl (by first | omega | decide) (by first | omega | decide) ?_
  refine V_istore rfl (by decide) ?_
  refine V_aload_n rfl (by first | rfl | assumption) ?_
  refine V_iload rfl (by first | rfl | assumption) ?_
  refine V_callS (M' := mX11_maySend) (mc := 0) (ms := 0) (bc' := 1) (bs' := 6) rfl cw_X11_187 is_X11_maySend rfl (Nat.le_of_ble_eq_true rfl) ⟨Nat.le_of_ble_eq_true rfl, Nat.le_of_ble_eq_true rfl⟩ ⟨Nat.le_of_ble_eq_true rfl, Nat.le_of_ble_eq_true rfl⟩ (As := [.ref (EB e), .int (nI (b 0))]) (c_maySend (S := tkn S) (Q := fun o G3 => o = .inl (some (.int (bI (mSd (S.1 e) (b 0))))) ∧ G3 = G2) he R1 hb0 ⟨rfl, rfl⟩) (fun o G3 h1 => ?_) (fun E G' h1 => by cases h1.1)
  obtain ⟨h0, rfl⟩ := h1
  cases h0
  refine V_if_neB rfl (fun z3 => ?_) (fun z3 => ?_)
  rotate_left
  · rw [if_pos z3] at hq
    exact V_throw (E := EIS) rfl rfl rfl rfl (by decide +kernel) kl_X11_177 kk_X11_179 (Nat.le_of_ble_eq_true rfl) (Nat.le_of_ble_eq_true rfl) ⟨by decide, by decide⟩ (hq _ kp1.nn R1.nn)
  rw [if_neg (by rw [z3]; decide)] at hq
  obtain ⟨m9, b9, o1, o2⟩ := R1.1.2.2.2.2.2.2.2.2.1
  refine V_aload_n rfl (by first | rfl | assumption) ?_
  refine V_getf rfl rfl rfl (by repeat (first | exact hup_eq | assumption | refine Eq.trans (hup_ne (by first | assumption | exact Ne.symm (by assumption) | decide | omega)) ?_)) (by first | rfl | assumption) ?_
  refine V_callV (M' := mX6_clear) (mc := 0) (ms := 0) (bc' := 1) (bs' := 6) rfl cw_X11_139 iv_X6_clear (by repeat (first | exact hup_eq | assumption | refine Eq.trans (hup_ne (by first | assumption | exact Ne.symm (by assumption) | decide | omega)) ?_)) rfl rfl (Nat.le_of_ble_eq_true rfl) ⟨Nat.le_of_ble_eq_true rfl, Nat.le_of_ble_eq_true rfl⟩ ⟨Nat.le_of_ble_eq_true rfl, Nat.le_of_ble_eq_true rfl⟩ (As := []) (c_clearU (Q := fun o G2 => o = .inl none ∧ FP (fun j => j = 134) G3 G2 ∧ Rw G2 134 135 200 []) o1 o2 (fun G1 h1 h2 => ⟨rfl, h1, h2⟩)) (fun o G4 h1 => ?_) (fun E G' h => by cases h.1)
  obtain ⟨h0, F4, r4⟩ := h1
  cases h0
  have q0 := F4.get (by omega) q0
  have r41 := r4.1
  have rt := rt.fp (F4.2 _ (by omega)) (F4.2 _ (by omega))
  have g1 := F4.get (by omega) g1
  refine V_aload_n rfl (by first | rfl | assumption) ?_
  refine V_getf rfl rfl rfl (by repeat (first | exact hup_eq | assumption | refine Eq.trans (hup_ne (by first | assumption | exact Ne.symm (by assumption) | decide | omega)) ?_)) (by first | rfl | assumption) ?_
  refine V_aload_n rfl (by first | rfl | assumption) ?_
  refine V_getf rfl rfl rfl (by repeat (first | exact hup_eq | assumption | refine Eq.trans (hup_ne (by first | assumption | exact Ne.symm (by assumption) | decide | omega)) ?_)) (by first | rfl | assumption) ?_
  refine V_iconst (v := nI 0) rfl (by decide) ?_
  refine V_aload_n rfl (by first | rfl | assumption) ?_
  refine V_getf rfl rfl rfl (by repeat (first | exact hup_eq | assumption | refine Eq.trans (hup_ne (by first | assumption | exact Ne.symm (by assumption) | decide | omega)) ?_)) (by first | rfl | assumption) ?_
  refine V_callV (M' := mX6_putAll) (mc := 0) (ms := 0) (bc' := 1) (bs' := 6) rfl cw_X11_143 iv_X6_putAll (by repeat (first | exact hup_eq | assumption | refine Eq.trans (hup_ne (by first | assumption | exact Ne.symm (by assumption) | decide | omega)) ?_)) rfl rfl (Nat.le_of_ble_eq_true rfl) ⟨Nat.le_of_ble_eq_true rfl, Nat.le_of_ble_eq_true rfl⟩ ⟨Nat.le_of_ble_eq_true rfl, Nat.le_of_ble_eq_true rfl⟩ (As := [.ref (tk + 1), .int (nI 0), .int (nI (tpe S).length)]) (c_putSg (Q := fun o G3 => o = .inl none ∧ FP (fun j => j = 134 ∨ j = 135) G4 G3 ∧ Rw G3 134 135 200 ([] ++ lst (sft (gD (tpe S)) 0) (tpe S).length)) r4 (rt.sg (s := 0) (n := (tpe S).length) (by decide) (by omega)) (by show 0 + _ ≤ _; omega) (by decide) (fun G2 h1 h2 => ⟨rfl, h1, h2⟩)) (fun o G5 h1 => ?_) (fun E G' h => by cases h.1)
  obtain ⟨h0, F5, r5⟩ := h1
  cases h0
  rw [List.nil_append, lst_congr (g := gD (tpe S)) (fun j hj => by show gD _ (0 + j) = _; rw [Nat.zero_add]), lst_gD] at r5
  have R5 := R1.out ((F4.sub (fun x hx => Or.inl hx)).trans F5 (fun x hx => hx)) r5
  have q0 := F5.get (by omega) q0
  have hb2 : nm ((tkn S).1 e) 0 < 2 ^ 31 := by
    have := hB e he 0 (by decide)
    show nm (S.1 e) 0 < _
    omega
  refine V_aload_n rfl (by first | rfl | assumption) ?_
  refine V_aload_n rfl (by first | rfl | assumption) ?_
  refine V_callV (M' := mX11_emit) (mc := 0) (ms := 0) (bc' := 1) (bs' := 6) rfl cw_X11_184 iv_X11_emit (by repeat (first | exact hup_eq | assumption | refine Eq.trans (hup_ne (by first | assumption | exact Ne.symm (by assumption) | decide | omega)) ?_)) rfl rfl (Nat.le_of_ble_eq_true rfl) ⟨Nat.le_of_ble_eq_true rfl, Nat.le_of_ble_eq_true rfl⟩ ⟨Nat.le_of_ble_eq_true rfl, Nat.le_of_ble_eq_true rfl⟩ (As := [.ref (EB e)]) (c_emit (T := T) (S := tkn S) (p := tpe S) (Q := fun o G3 => o = .inl none ∧ FP (fun j => 19 ≤ j ∧ j ≤ 123) G5 G3 ∧ RC (emt T (tkn S) e (tpe S)) G3) he hT R5 r5 hb2 (fun G3 h1 h2 => ⟨rfl, h1, h2⟩)) (fun o G6 h1 => ?_) (fun E G' h => by cases h.1)
  obtain ⟨h0, F6, R6⟩ := h1
  cases h0
  have kp6 : Kp G G6 := kp1.tr ((F4.kp (fun x hx => by omega)).tr ((F5.kp (fun x hx => by omega)).tr (F6.kp (fun x hx => by omega))))
  have x1 := (R6.2 e he).1
  refine V_iload rfl (by first | rfl | assumption) ?_
  refine V_iconst (v := nI 1) rfl (by decide) ?_
  refine V_icmp_neN rfl (by omega) (by decide) (fun z => ?_) (fun z => ?_)
  · have U : snd T (tkn S) e (tpe S) = emt T (tkn S) e (tpe S) := by unfold snd; rw [hg0, if_neg z]
    rw [U] at hq
    exact V_vret rfl rfl (hq _ kp6 R6)
  · have U : snd T (tkn S) e (tpe S) = sE (emt T (tkn S) e (tpe S)) e (sfl ((emt T (tkn S) e (tpe S)).1 e) 0 false) := by unfold snd; rw [hg0, if_pos z]
    rw [U] at hq
    refine V_aload_n rfl (by first | rfl | assumption) ?_
    refine V_iconst (v := nI 0) rfl (by decide) ?_
    refine V_putf rfl rfl rfl rfl (by repeat (first | exact hup_eq | assumption | refine Eq.trans (hup_ne (by first | assumption | exact Ne.symm (by assumption) | decide | omega)) ?_)) (Nat.le_of_ble_eq_true rfl) (by first | exact ⟨rfl, rfl⟩ | (constructor <;> decide)) ?_
    exact V_vret rfl rfl (hq _ (fun j hj => (hup_ne (by omega)).trans (kp6 j hj)) (R6.dead he rfl))
/-- what packetOf comes to -/
def QP (S : SG) (e : Nat) (x : Int32) (G : kG) (o : kO) (G1 : kG) : Prop := (∃ r d : Nat, 0 ≤ x.toInt ∧ x.toInt < (wi (S.1 e)).length ∧ EB e + 8 ≤ r ∧ r ≤ EB e + 30 ∧ d = r + 1 ∧ Rw G r d 228 (pkA S e x.toInt.toNat) ∧ (∀ G' l', FP (fun j => j = d) G G' → Rw G' r d 228 l' → WR (EB e) G' ((wi (S.1 e)).set x.toInt.toNat l')) ∧ o = .inl (some (.ref r)) ∧ G1 = G) ∨ (o = .inr ENS ∧ (x.toInt < 0 ∨ ((wi (S.1 e)).length : Int) ≤ x.toInt) ∧ G1 = (G.1, none))
theorem c_packetQ {S : SG} {e : Nat} {x : Int32} (he : e < 2) (h : RC S G) : C K 1 6 mX11_packetOf [.ref (EB e), .int x] G (QP S e x G) :=
  c_packetOf he h (fun r d a b c c2 d2 f g => Or.inl ⟨r, d, a, b, c, c2, d2, f, g, rfl, rfl⟩) (fun hx => Or.inr ⟨rfl, hx, rfl⟩)
/-- what byteOf comes to -/
def QB (l : List Nat) (x : Int32) (G : kG) (o : kO) (G1 : kG) : Prop := (0 ≤ x.toInt ∧ x.toInt < l.length ∧ o = .inl (some (.int (nI (gD l x.toInt.toNat)))) ∧ G1 = G) ∨ (o = .inr EIO ∧ (x.toInt < 0 ∨ (l.length : Int) ≤ x.toInt) ∧ G1 = (G.1, none))
theorem c_byteQ {r d N : Nat} {l : List Nat} {x : Int32} (h : Rw G r d N l) (hN : N < 2 ^ 20) : C K 1 6 mX11_byteOf [.ref r, .int x] G (QB l x G) :=
  c_byteOf h hN (fun a b => Or.inl ⟨a, b, rfl, rfl⟩) (fun hx => Or.inr ⟨rfl, hx, rfl⟩)
theorem c_packet {S : SG} {x y z : Int32} (h : RC S G) (hq : ∀ G', Kp G G' → RC (aPk S x.toInt y.toInt z.toInt).2.2 G' → Q (oI [ENS, EIO] (aPk S x.toInt y.toInt z.toInt).1 (aPk S x.toInt y.toInt z.toInt).2.1) G') : C K 3 18 mX11_packet [.ref 0, .int x, .int y, .int z] G Q := by
  obtain ⟨tp0, sp0, g0⟩ := h.sw
  refine C_of okX11_packet (Nat.le_of_ble_eq_true rfl) ?_
  refine V_aload_n rfl (by first | rfl | assumption) ?_
  refine V_iload_n rfl (by first | rfl | assumption) ?_
  refine V_callV (M' := mX11_endOf) (mc := 1) (ms := 6) (bc' := 2) (bs' := 12) rfl cw_X11_160 iv_X11_endOf (by repeat (first | exact hup_eq | assumption | refine Eq.trans (hup_ne (by first | assumption | exact Ne.symm (by assumption) | decide | omega)) ?_)) rfl rfl (Nat.le_of_ble_eq_true rfl) ⟨Nat.le_of_ble_eq_true rfl, Nat.le_of_ble_eq_true rfl⟩ ⟨Nat.le_of_ble_eq_true rfl, Nat.le_of_ble_eq_true rfl⟩ (As := [.int x]) (c_endQ h) (fun o G1 h1 => ?_) (fun E G' h1 => ?_)
  rotate_left
  · rcases h1 with ⟨e, a, b, c, d⟩ | ⟨a, b, rfl⟩
    · cases c
    · cases a
      have U : aPk S x.toInt y.toInt z.toInt = (1, 0, S) := by unfold aPk; rw [if_pos b]
      rw [U] at hq
      exact hq _ Kp.rf.nn h.nn
  rcases h1 with ⟨e, he, hxe, a, rfl⟩ | ⟨a, _⟩
  rotate_left
  · cases a
  cases a
  rw [hxe] at hq
  have U0 : aPk S (e : Int) y.toInt z.toInt = if y.toInt < 0 ∨ ((wi (S.1 e)).length : Int) ≤ y.toInt then (1, 0, S) else if z.toInt < -1 ∨ ((pkA S e y.toInt.toNat).length : Int) ≤ z.toInt then (2, 0, S) else (0, if z.toInt = -1 then nI (pkA S e y.toInt.toNat).length else nI (gD (pkA S e y.toInt.toNat) z.toInt.toNat), S) := by unfold aPk; rw [if_neg (eok he)]; rfl
  rw [U0] at hq
  clear U0
  refine V_iload_n rfl (by rfl) ?_
  refine V_callS (M' := mX11_packetOf) (mc := 1) (ms := 6) (bc' := 1) (bs' := 6) rfl cw_X11_204 is_X11_packetOf rfl (Nat.le_of_ble_eq_true rfl) ⟨Nat.le_of_ble_eq_true rfl, Nat.le_of_ble_eq_true rfl⟩ ⟨Nat.le_of_ble_eq_true rfl, Nat.le_of_ble_eq_true rfl⟩ (As := [.ref (EB e), .int y]) (c_packetQ he h) (fun o G2 h1 => ?_) (fun E G' h1 => ?_)
  rotate_left
  · rcases h1 with ⟨_, _, _, _, _, _, _, _, _, c, d⟩ | ⟨a, b, rfl⟩
    · cases c
    · cases a
      rw [if_pos b] at hq
      exact hq _ Kp.rf.nn h.nn
  rcases h1 with ⟨r, d, a1, a2, a3, a4, a5, a6, a7, a, rfl⟩ | ⟨a, _⟩
  rotate_left
  · cases a
  cases a
  rw [if_neg (by omega)] at hq
  have a61 := a6.1
  have a62 := a6.2.1
  refine V_astore rfl (by decide) ?_
  refine V_iload_n rfl (by rfl) ?_
  refine V_iconst (v := -1) rfl (by decide) ?_
  refine V_icmp_neZ (b := -1) rfl rfl (by decide) (fun z1 => ?_) (fun z1 => ?_)
  · refine V_aload rfl (by rfl) ?_
    refine V_iload_n rfl (by rfl) ?_
    refine V_callS (M' := mX11_byteOf) (mc := 1) (ms := 6) (bc' := 0) (bs' := 0) rfl cw_X11_156 is_X11_byteOf rfl (Nat.le_of_ble_eq_true rfl) ⟨Nat.le_of_ble_eq_true rfl, Nat.le_of_ble_eq_true rfl⟩ ⟨Nat.le_of_ble_eq_true rfl, Nat.le_of_ble_eq_true rfl⟩ (As := [.ref r, .int z]) (c_byteQ a6 (by decide)) (fun o G2 h1 => ?_) (fun E G' h1 => ?_)
    · rcases h1 with ⟨b1, b2, b, rfl⟩ | ⟨a, _⟩
      · cases b
        rw [if_neg (by omega), if_neg z1] at hq
        exact V_iret rfl rfl (hq _ Kp.rf h)
      · cases a
    · rcases h1 with ⟨_, _, b, _⟩ | ⟨a, b, rfl⟩
      · cases b
      · cases a
        rw [if_pos (by omega)] at hq
        exact hq _ Kp.rf.nn h.nn
  · rw [if_neg (by omega), if_pos z1] at hq
    refine V_aload rfl (by rfl) ?_
    refine V_getf rfl rfl rfl a61 (by rfl) ?_
    refine V_goto rfl ?_
    exact V_iret rfl rfl (hq _ Kp.rf h)
set_option maxHeartbeats 4000000 in
theorem c_damage {S : SG} {x y z u : Int32} (h : RC S G) (hq : ∀ G', Kp G G' → RC (aDm S x.toInt y.toInt z.toInt u.toInt).2.2 G' → Q (oV [ENS, EIO, EIA] (aDm S x.toInt y.toInt z.toInt u.toInt).1) G') : C K 3 18 mX11_damage [.ref 0, .int x, .int y, .int z, .int u] G Q := by
  obtain ⟨tp0, sp0, g0⟩ := h.sw
  refine C_of okX11_damage (Nat.le_of_ble_eq_true rfl) ?_
  refine V_aload_n rfl (by first | rfl | assumption) ?_
  refine V_iload_n rfl (by first | rfl | assumption) ?_
  refine V_callV (M' := mX11_endOf) (mc := 1) (ms := 6) (bc' := 2) (bs' := 12) rfl cw_X11_160 iv_X11_endOf (by repeat (first | exact hup_eq | assumption | refine Eq.trans (hup_ne (by first | assumption | exact Ne.symm (by assumption) | decide | omega)) ?_)) rfl rfl (Nat.le_of_ble_eq_true rfl) ⟨Nat.le_of_ble_eq_true rfl, Nat.le_of_ble_eq_true rfl⟩ ⟨Nat.le_of_ble_eq_true rfl, Nat.le_of_ble_eq_true rfl⟩ (As := [.int x]) (c_endQ h) (fun o G1 h1 => ?_) (fun E G' h1 => ?_)
  rotate_left
  · rcases h1 with ⟨e, a, b, c, d⟩ | ⟨a, b, rfl⟩
    · cases c
    · cases a
      have U : aDm S x.toInt y.toInt z.toInt u.toInt = (1, 0, S) := by unfold aDm; rw [if_pos b]
      rw [U] at hq
      exact hq _ Kp.rf.nn h.nn
  rcases h1 with ⟨e, he, hxe, a, rfl⟩ | ⟨a, _⟩
  rotate_left
  · cases a
  cases a
  rw [hxe] at hq
  have U0 : aDm S (e : Int) y.toInt z.toInt u.toInt = if y.toInt < 0 ∨ ((wi (S.1 e)).length : Int) ≤ y.toInt then (1, 0, S) else if z.toInt < 0 ∨ ((pkA S e y.toInt.toNat).length : Int) ≤ z.toInt then (2, 0, S) else if u.toInt < 0 ∨ 255 < u.toInt then (3, 0, S) else (0, 0, dmg S e y.toInt.toNat z.toInt.toNat u.toInt.toNat) := by unfold aDm; rw [if_neg (eok he)]; rfl
  rw [U0] at hq
  clear U0
  refine V_iload_n rfl (by rfl) ?_
  refine V_callS (M' := mX11_packetOf) (mc := 1) (ms := 6) (bc' := 1) (bs' := 6) rfl cw_X11_204 is_X11_packetOf rfl (Nat.le_of_ble_eq_true rfl) ⟨Nat.le_of_ble_eq_true rfl, Nat.le_of_ble_eq_true rfl⟩ ⟨Nat.le_of_ble_eq_true rfl, Nat.le_of_ble_eq_true rfl⟩ (As := [.ref (EB e), .int y]) (c_packetQ he h) (fun o G2 h1 => ?_) (fun E G' h1 => ?_)
  rotate_left
  · rcases h1 with ⟨_, _, _, _, _, _, _, _, _, c, d⟩ | ⟨a, b, rfl⟩
    · cases c
    · cases a
      rw [if_pos b] at hq
      exact hq _ Kp.rf.nn h.nn
  rcases h1 with ⟨r, d, a1, a2, a3, a4, a5, a6, a7, a, rfl⟩ | ⟨a, _⟩
  rotate_left
  · cases a
  cases a
  rw [if_neg (by omega)] at hq
  have hEe : EB e = 32 + 46 * e := rfl
  obtain ⟨l, hl⟩ : ∃ l, l = pkA S e y.toInt.toNat := ⟨_, rfl⟩
  obtain ⟨k, hk⟩ : ∃ k, k = y.toInt.toNat := ⟨_, rfl⟩
  rw [← hl] at hq a6
  rw [← hk] at hq a7 hl
  have hkl : k < (wi (S.1 e)).length := by omega
  clear hk
  obtain ⟨g1, g2, b, g3, g4, g5⟩ := id a6
  refine V_astore rfl (by decide) ?_
  refine V_aload rfl (by rfl) ?_
  refine V_iload_n rfl (by rfl) ?_
  refine V_callV (M' := mX6_holds) (mc := 0) (ms := 0) (bc' := 1) (bs' := 6) rfl cw_X11_208 iv_X6_holds (by repeat (first | exact hup_eq | assumption | refine Eq.trans (hup_ne (by first | assumption | exact Ne.symm (by assumption) | decide | omega)) ?_)) rfl rfl (Nat.le_of_ble_eq_true rfl) ⟨Nat.le_of_ble_eq_true rfl, Nat.le_of_ble_eq_true rfl⟩ ⟨Nat.le_of_ble_eq_true rfl, Nat.le_of_ble_eq_true rfl⟩ (As := [.int z]) (c_Row_holds (Q := fun o G3 => o = .inl (some (.int (if z < 0 ∨ nI l.length ≤ z then 0 else 1))) ∧ G3 = G2) g1 ⟨rfl, rfl⟩) (fun o G3 h1 => ?_) (fun E G' h => by cases h.1)
  obtain ⟨h0, rfl⟩ := h1
  cases h0
  have e1 : (z < 0 ∨ nI l.length ≤ z) ↔ (z.toInt < 0 ∨ (l.length : Int) ≤ z.toInt) := by
    rw [Int32.lt_iff_toInt_lt, Int32.le_iff_toInt_le, nI_toInt (by omega)]
    exact Iff.rfl
  by_cases hc : z < 0 ∨ nI l.length ≤ z
  · rw [if_pos hc]
    rw [if_pos (e1.mp hc)] at hq
    refine V_if_ne rfl (fun z => absurd rfl z) (fun _ => ?_)
    exact V_throw (E := EIO) rfl rfl rfl rfl (by decide +kernel) kl_X11_91 kk_X11_93 (Nat.le_of_ble_eq_true rfl) (Nat.le_of_ble_eq_true rfl) ⟨by decide, by decide⟩ (hq _ Kp.rf.nn h.nn)
  rw [if_neg hc]
  have hc2 : ¬ (z.toInt < 0 ∨ (l.length : Int) ≤ z.toInt) := fun q => hc (e1.mpr q)
  rw [if_neg hc2] at hq
  refine V_if_ne rfl (fun _ => ?_) (fun z => absurd z (by decide))
  have bad : u.toInt < 0 ∨ 255 < u.toInt → V K 1 6 mX11_damage 41 (ls1 (kla [.ref 0, .int x, .int y, .int z, .int u]) 5 (.ref r)) [] G3 Q := by
    intro z
    rw [if_pos z] at hq
    exact V_throw (E := EIA) rfl rfl rfl rfl (by decide +kernel) kl_X11_102 kk_X11_104 (Nat.le_of_ble_eq_true rfl) (Nat.le_of_ble_eq_true rfl) ⟨by decide, by decide⟩ (hq _ Kp.rf.nn h.nn)
  refine V_iload rfl (by rfl) ?_
  refine V_if_ltZ rfl rfl (fun z => bad (Or.inl z)) (fun u1 => ?_)
  refine V_iload rfl (by rfl) ?_
  refine V_sipush (v := 255) rfl (by decide) ?_
  refine V_icmp_leZ (b := 255) rfl rfl (by decide) (fun u2 => ?_) (fun z => bad (Or.inr (by omega)))
  clear bad
  rw [if_neg (by omega)] at hq
  obtain ⟨hz1, hz2⟩ := i32_n (x := z) (by omega)
  obtain ⟨hu1, hu2⟩ := i32_n (x := u) (by omega)
  obtain ⟨i, hi⟩ : ∃ i, i = z.toInt.toNat := ⟨_, rfl⟩
  obtain ⟨v, hv⟩ : ∃ v, v = u.toInt.toNat := ⟨_, rfl⟩
  rw [← hi] at hq hz1 hz2
  rw [← hv] at hq hu1 hu2
  have hil : i < l.length := by omega
  have hv2 : v < 256 := by omega
  clear hi hv u1 u2 e1 hc hc2
  subst hz1 hu1
  refine V_aload rfl (by first | rfl | assumption) ?_
  refine V_getf rfl rfl rfl (by repeat (first | exact hup_eq | assumption | refine Eq.trans (hup_ne (by first | assumption | exact Ne.symm (by assumption) | decide | omega)) ?_)) (by first | rfl | assumption) ?_
  refine V_iload_n rfl (by first | rfl | assumption) ?_
  refine V_dup2 rfl rfl rfl ?_
  refine V_ialdN rfl g3 rfl (by omega) (by decide) ?_
  refine V_iload rfl (by rfl) ?_
  refine V_ixor rfl ?_
  rw [nI_xor]
  refine V_iastN rfl g3 rfl (by omega) (by decide) ?_
  have F : FP (fun j => j = d) G3 (hup G3 d (BA 228 (updN b i (b i ^^^ v)))) := FP.rf.hup rfl
  refine V_vret rfl rfl (hq _ (F.kp (fun x hx => by omega)) ?_)
  have gl : gD l i = b i := gD_of g4 hil
  have rl : Rw (hup G3 d (BA 228 (updN b i (b i ^^^ v)))) r d 228 (l.set i (gD l i ^^^ v)) := by
    refine ⟨by rw [List.length_set]; exact F.get (by omega) g1, by rw [List.length_set]; exact g2, _, hup_eq, ?_, ?_⟩
    · refine lst_ext rfl (fun j hj => ?_)
      rw [List.length_set] at hj
      by_cases e : j = i
      · subst e
        rw [updN_eq]
        unfold gD
        rw [List.getD_eq_getElem?_getD, List.getElem?_set_self hj]
        show _ = gD l j ^^^ v
        rw [gl]
      · rw [updN_ne e, ← gD_of g4 hj]
        unfold gD
        rw [List.getD_eq_getElem?_getD, List.getD_eq_getElem?_getD, List.getElem?_set_ne (fun q => e q.symm)]
    · intro j hj
      rw [List.length_set] at hj
      by_cases e : j = i
      · subst e
        rw [updN_eq]
        exact xor_b (g5 j hj) hv2
      · rw [updN_ne e]
        exact g5 j hj
  have W := a7 _ _ F rl
  unfold dmg
  rw [← hl]
  obtain ⟨v1, v2, v3, v4, v5, v6, v7, v8⟩ := id (h.2 e he)
  exact h.one he (F.sub (fun x hx => by omega)) ⟨F.get (by omega) v1, v2.fp (F.2 _ (by omega)), v3.fp (F.2 _ (by omega)), v4.fp (F.2 _ (by omega)), v5.fp (F.2 _ (by omega)) (F.2 _ (by omega)), W, (v7.fp (fun j a c => F.2 j (by omega))).sta (fun _ _ _ => rfl) (fun _ _ _ => rfl), (v8.fp (fun j a c => F.2 j (by omega))).sta (fun _ _ => rfl) rfl⟩
theorem c_got {S : SG} {x y : Int32} (h : RC S G) (hq : ∀ G', Kp G G' → RC (aGt S x.toInt y.toInt).2.2 G' → Q (oI [ENS, EIO] (aGt S x.toInt y.toInt).1 (aGt S x.toInt y.toInt).2.1) G') : C K 2 12 mX11_got [.ref 0, .int x, .int y] G Q := by
  obtain ⟨tp0, sp0, g0⟩ := h.sw
  refine C_of okX11_got (Nat.le_of_ble_eq_true rfl) ?_
  refine V_aload_n rfl (by first | rfl | assumption) ?_
  refine V_iload_n rfl (by first | rfl | assumption) ?_
  refine V_callV (M' := mX11_endOf) (mc := 1) (ms := 6) (bc' := 1) (bs' := 6) rfl cw_X11_160 iv_X11_endOf (by repeat (first | exact hup_eq | assumption | refine Eq.trans (hup_ne (by first | assumption | exact Ne.symm (by assumption) | decide | omega)) ?_)) rfl rfl (Nat.le_of_ble_eq_true rfl) ⟨Nat.le_of_ble_eq_true rfl, Nat.le_of_ble_eq_true rfl⟩ ⟨Nat.le_of_ble_eq_true rfl, Nat.le_of_ble_eq_true rfl⟩ (As := [.int x]) (c_endQ h) (fun o G1 h1 => ?_) (fun E G' h1 => ?_)
  rotate_left
  · rcases h1 with ⟨e, a, b, c, d⟩ | ⟨a, b, rfl⟩
    · cases c
    · cases a
      have U : aGt S x.toInt y.toInt = (1, 0, S) := by unfold aGt; rw [if_pos b]
      rw [U] at hq
      exact hq _ Kp.rf.nn h.nn
  rcases h1 with ⟨e, he, hxe, a, rfl⟩ | ⟨a, _⟩
  rotate_left
  · cases a
  cases a
  rw [hxe] at hq
  have U0 : aGt S (e : Int) y.toInt = if y.toInt < 0 ∨ ((gt (S.1 e)).length : Int) ≤ y.toInt then (2, 0, S) else (0, nI (gD (gt (S.1 e)) y.toInt.toNat), S) := by unfold aGt; rw [if_neg (eok he)]; rfl
  rw [U0] at hq
  have v1 := (h.2 e he).1
  have v5 := (h.2 e he).2.2.2.2.1
  refine V_getf rfl rfl rfl v1 (by rfl) ?_
  refine V_iload_n rfl (by rfl) ?_
  refine V_callS (M' := mX11_byteOf) (mc := 1) (ms := 6) (bc' := 0) (bs' := 0) rfl cw_X11_156 is_X11_byteOf rfl (Nat.le_of_ble_eq_true rfl) ⟨Nat.le_of_ble_eq_true rfl, Nat.le_of_ble_eq_true rfl⟩ ⟨Nat.le_of_ble_eq_true rfl, Nat.le_of_ble_eq_true rfl⟩ (As := [.ref (EB e + 4), .int y]) (c_byteQ v5 (by decide)) (fun o G2 h1 => ?_) (fun E G' h1 => ?_)
  · rcases h1 with ⟨b1, b2, b, rfl⟩ | ⟨a, _⟩
    · cases b
      rw [if_neg (by omega)] at hq
      exact V_iret rfl rfl (hq _ Kp.rf h)
    · cases a
  · rcases h1 with ⟨_, _, b, _⟩ | ⟨a, b, rfl⟩
    · cases b
    · cases a
      rw [if_pos b] at hq
      exact hq _ Kp.rf.nn h.nn
set_option maxHeartbeats 4000000 in
theorem c_about {S : SG} {x y : Int32} (h : RC S G) (hq : ∀ G', Kp G G' → RC (aAb S x.toInt y.toInt).2.2 G' → Q (oI [ENS, EIO] (aAb S x.toInt y.toInt).1 (aAb S x.toInt y.toInt).2.1) G') : C K 2 12 mX11_about [.ref 0, .int x, .int y] G Q := by
  obtain ⟨tp0, sp0, g0⟩ := h.sw
  refine C_of okX11_about (Nat.le_of_ble_eq_true rfl) ?_
  refine V_aload_n rfl (by first | rfl | assumption) ?_
  refine V_iload_n rfl (by first | rfl | assumption) ?_
  refine V_callV (M' := mX11_endOf) (mc := 1) (ms := 6) (bc' := 1) (bs' := 6) rfl cw_X11_160 iv_X11_endOf (by repeat (first | exact hup_eq | assumption | refine Eq.trans (hup_ne (by first | assumption | exact Ne.symm (by assumption) | decide | omega)) ?_)) rfl rfl (Nat.le_of_ble_eq_true rfl) ⟨Nat.le_of_ble_eq_true rfl, Nat.le_of_ble_eq_true rfl⟩ ⟨Nat.le_of_ble_eq_true rfl, Nat.le_of_ble_eq_true rfl⟩ (As := [.int x]) (c_endQ h) (fun o G1 h1 => ?_) (fun E G' h1 => ?_)
  rotate_left
  · rcases h1 with ⟨e, a, b, c, d⟩ | ⟨a, b, rfl⟩
    · cases c
    · cases a
      have U : aAb S x.toInt y.toInt = (1, 0, S) := by unfold aAb; rw [if_pos b]
      rw [U] at hq
      exact hq _ Kp.rf.nn h.nn
  rcases h1 with ⟨e, he, hxe, a, rfl⟩ | ⟨a, _⟩
  rotate_left
  · cases a
  cases a
  rw [hxe] at hq
  have U0 : aAb S (e : Int) y.toInt = if y.toInt < 0 ∨ 8 < y.toInt then (2, 0, S) else (0, abV (S.1 e) y.toInt.toNat, S) := by unfold aAb; rw [if_neg (eok he)]; rfl
  rw [U0] at hq
  obtain ⟨v1, v2, v3, v4, v5, v6, v7, v8⟩ := id (h.2 e he)
  obtain ⟨fi, f, w1, w2, w3, -⟩ := id v6
  have v51 := v5.1
  have v81 := v8.1
  refine V_astore_n rfl (by decide) ?_
  refine V_iload_n rfl (by rfl) ?_
  by_cases hb : y.toInt < 0 ∨ 8 < y.toInt
  · rw [if_pos hb] at hq
    refine V_tableOut (g := 137) rfl hb (by decide) ?_
    exact V_throw (E := EIO) rfl rfl rfl rfl (by decide +kernel) kl_X11_91 kk_X11_93 (Nat.le_of_ble_eq_true rfl) (Nat.le_of_ble_eq_true rfl) ⟨by decide, by decide⟩ (hq _ Kp.rf.nn h.nn)
  rw [if_neg hb] at hq
  have hq9 := hq _ Kp.rf h
  clear hq U0
  obtain ⟨hy1, hy2⟩ := i32_n (x := y) (by omega)
  obtain ⟨i, hi⟩ : ∃ i, i = y.toInt.toNat := ⟨_, rfl⟩
  rw [← hi] at hq9 hy1 hy2
  have hi9 : i < 9 := by omega
  clear hi hb hy2
  subst hy1
  have : i = 0 ∨ i = 1 ∨ i = 2 ∨ i = 3 ∨ i = 4 ∨ i = 5 ∨ i = 6 ∨ i = 7 ∨ i = 8 := by omega
  rcases this with rfl | rfl | rfl | rfl | rfl | rfl | rfl | rfl | rfl
  · refine V_tableIn (o := 49) (g := 56) rfl (by decide) (by decide) (by decide) (by decide) ?_
    replace hq9 : Q (.inl (some (.int (bI (fl (S.1 e) 0))))) G1 := hq9
    refine V_aload_n rfl (by first | rfl | assumption) ?_
    refine V_getf rfl rfl rfl (by repeat (first | exact hup_eq | assumption | refine Eq.trans (hup_ne (by first | assumption | exact Ne.symm (by assumption) | decide | omega)) ?_)) (by first | rfl | assumption) ?_
    refine V_if_eqB rfl (fun z => ?_) (fun z => ?_)
    · rw [z] at hq9
      refine V_iconst (v := 0) rfl (by decide) ?_
      exact V_iret rfl rfl hq9
    · rw [z] at hq9
      refine V_iconst (v := 1) rfl (by decide) ?_
      refine V_goto rfl ?_
      exact V_iret rfl rfl hq9
  · refine V_tableIn (o := 62) (g := 69) rfl (by decide) (by decide) (by decide) (by decide) ?_
    refine V_aload_n rfl (by first | rfl | assumption) ?_
    refine V_getf rfl rfl rfl (by repeat (first | exact hup_eq | assumption | refine Eq.trans (hup_ne (by first | assumption | exact Ne.symm (by assumption) | decide | omega)) ?_)) (by first | rfl | assumption) ?_
    exact V_iret rfl rfl hq9
  · refine V_tableIn (o := 67) (g := 74) rfl (by decide) (by decide) (by decide) (by decide) ?_
    refine V_aload_n rfl (by first | rfl | assumption) ?_
    refine V_getf rfl rfl rfl (by repeat (first | exact hup_eq | assumption | refine Eq.trans (hup_ne (by first | assumption | exact Ne.symm (by assumption) | decide | omega)) ?_)) (by first | rfl | assumption) ?_
    exact V_iret rfl rfl hq9
  · refine V_tableIn (o := 72) (g := 79) rfl (by decide) (by decide) (by decide) (by decide) ?_
    refine V_aload_n rfl (by first | rfl | assumption) ?_
    refine V_getf rfl rfl rfl (by repeat (first | exact hup_eq | assumption | refine Eq.trans (hup_ne (by first | assumption | exact Ne.symm (by assumption) | decide | omega)) ?_)) (by first | rfl | assumption) ?_
    refine V_getf rfl rfl rfl (by repeat (first | exact hup_eq | assumption | refine Eq.trans (hup_ne (by first | assumption | exact Ne.symm (by assumption) | decide | omega)) ?_)) (by first | rfl | assumption) ?_
    exact V_iret rfl rfl hq9
  · refine V_tableIn (o := 80) (g := 87) rfl (by decide) (by decide) (by decide) (by decide) ?_
    refine V_aload_n rfl (by first | rfl | assumption) ?_
    refine V_getf rfl rfl rfl (by repeat (first | exact hup_eq | assumption | refine Eq.trans (hup_ne (by first | assumption | exact Ne.symm (by assumption) | decide | omega)) ?_)) (by first | rfl | assumption) ?_
    exact V_iret rfl rfl hq9
  · refine V_tableIn (o := 85) (g := 92) rfl (by decide) (by decide) (by decide) (by decide) ?_
    refine V_aload_n rfl (by first | rfl | assumption) ?_
    refine V_getf rfl rfl rfl (by repeat (first | exact hup_eq | assumption | refine Eq.trans (hup_ne (by first | assumption | exact Ne.symm (by assumption) | decide | omega)) ?_)) (by first | rfl | assumption) ?_
    refine V_getf rfl rfl rfl (by repeat (first | exact hup_eq | assumption | refine Eq.trans (hup_ne (by first | assumption | exact Ne.symm (by assumption) | decide | omega)) ?_)) (by first | rfl | assumption) ?_
    exact V_iret rfl rfl hq9
  · refine V_tableIn (o := 93) (g := 100) rfl (by decide) (by decide) (by decide) (by decide) ?_
    replace hq9 : Q (.inl (some (.int (bI (fl (S.1 e) 2))))) G1 := hq9
    refine V_aload_n rfl (by first | rfl | assumption) ?_
    refine V_getf rfl rfl rfl (by repeat (first | exact hup_eq | assumption | refine Eq.trans (hup_ne (by first | assumption | exact Ne.symm (by assumption) | decide | omega)) ?_)) (by first | rfl | assumption) ?_
    refine V_getf rfl rfl rfl (by repeat (first | exact hup_eq | assumption | refine Eq.trans (hup_ne (by first | assumption | exact Ne.symm (by assumption) | decide | omega)) ?_)) (by first | rfl | assumption) ?_
    refine V_if_eqB rfl (fun z => ?_) (fun z => ?_)
    · rw [z] at hq9
      refine V_iconst (v := 0) rfl (by decide) ?_
      exact V_iret rfl rfl hq9
    · rw [z] at hq9
      refine V_iconst (v := 1) rfl (by decide) ?_
      refine V_goto rfl ?_
      exact V_iret rfl rfl hq9
  · refine V_tableIn (o := 109) (g := 116) rfl (by decide) (by decide) (by decide) (by decide) ?_
    replace hq9 : Q (.inl (some (.int (bI (fl (S.1 e) 3))))) G1 := hq9
    refine V_aload_n rfl (by first | rfl | assumption) ?_
    refine V_getf rfl rfl rfl (by repeat (first | exact hup_eq | assumption | refine Eq.trans (hup_ne (by first | assumption | exact Ne.symm (by assumption) | decide | omega)) ?_)) (by first | rfl | assumption) ?_
    refine V_getf rfl rfl rfl (by repeat (first | exact hup_eq | assumption | refine Eq.trans (hup_ne (by first | assumption | exact Ne.symm (by assumption) | decide | omega)) ?_)) (by first | rfl | assumption) ?_
    refine V_if_eqB rfl (fun z => ?_) (fun z => ?_)
    · rw [z] at hq9
      refine V_iconst (v := 0) rfl (by decide) ?_
      exact V_iret rfl rfl hq9
    · rw [z] at hq9
      refine V_iconst (v := 1) rfl (by decide) ?_
      refine V_goto rfl ?_
      exact V_iret rfl rfl hq9
  · refine V_tableIn (o := 125) (g := 132) rfl (by decide) (by decide) (by decide) (by decide) ?_
    refine V_aload_n rfl (by first | rfl | assumption) ?_
    refine V_getf rfl rfl rfl (by repeat (first | exact hup_eq | assumption | refine Eq.trans (hup_ne (by first | assumption | exact Ne.symm (by assumption) | decide | omega)) ?_)) (by first | rfl | assumption) ?_
    exact V_iret rfl rfl hq9
theorem c_session {S : SG} {x y : Int32} (h : RC S G) (hq : ∀ G', Kp G G' → RC (aSs S x.toInt y.toInt).2.2 G' → Q (oI [ENS, EIO, EIS] (aSs S x.toInt y.toInt).1 (aSs S x.toInt y.toInt).2.1) G') : C K 2 12 mX11_session [.ref 0, .int x, .int y] G Q := by
  obtain ⟨tp0, sp0, g0⟩ := h.sw
  refine C_of okX11_session (Nat.le_of_ble_eq_true rfl) ?_
  refine V_aload_n rfl (by first | rfl | assumption) ?_
  refine V_iload_n rfl (by first | rfl | assumption) ?_
  refine V_callV (M' := mX11_endOf) (mc := 1) (ms := 6) (bc' := 1) (bs' := 6) rfl cw_X11_160 iv_X11_endOf (by repeat (first | exact hup_eq | assumption | refine Eq.trans (hup_ne (by first | assumption | exact Ne.symm (by assumption) | decide | omega)) ?_)) rfl rfl (Nat.le_of_ble_eq_true rfl) ⟨Nat.le_of_ble_eq_true rfl, Nat.le_of_ble_eq_true rfl⟩ ⟨Nat.le_of_ble_eq_true rfl, Nat.le_of_ble_eq_true rfl⟩ (As := [.int x]) (c_endQ h) (fun o G1 h1 => ?_) (fun E G' h1 => ?_)
  rotate_left
  · rcases h1 with ⟨e, a, b, c, d⟩ | ⟨a, b, rfl⟩
    · cases c
    · cases a
      have U : aSs S x.toInt y.toInt = (1, 0, S) := by unfold aSs; rw [if_pos b]
      rw [U] at hq
      exact hq _ Kp.rf.nn h.nn
  rcases h1 with ⟨e, he, hxe, a, rfl⟩ | ⟨a, _⟩
  rotate_left
  · cases a
  cases a
  rw [hxe] at hq
  have U0 : aSs S (e : Int) y.toInt = if y.toInt < 0 ∨ 31 < y.toInt then (2, 0, S) else if fl (S.1 e) 1 = false then (3, 0, S) else (0, nI (rw9 (S.1 e) 2 y.toInt.toNat), S) := by unfold aSs; rw [if_neg (eok he)]; rfl
  rw [U0] at hq
  clear U0
  obtain ⟨v1, v2, v3, ⟨b, g3, g4, g5⟩, -⟩ := id (h.2 e he)
  refine V_astore_n rfl (by decide) ?_
  have bad : y.toInt < 0 ∨ 31 < y.toInt → V K 1 6 mX11_session 16 (ls1 (kla [.ref 0, .int x, .int y]) 3 (.ref (EB e))) [] G1 Q := by
    intro z
    rw [if_pos z] at hq
    exact V_throw (E := EIO) rfl rfl rfl rfl (by decide +kernel) kl_X11_91 kk_X11_93 (Nat.le_of_ble_eq_true rfl) (Nat.le_of_ble_eq_true rfl) ⟨by decide, by decide⟩ (hq _ Kp.rf.nn h.nn)
  refine V_iload_n rfl (by rfl) ?_
  refine V_if_ltZ rfl rfl (fun z => bad (Or.inl z)) (fun y1 => ?_)
  refine V_iload_n rfl (by rfl) ?_
  refine V_bipush (v := 32) rfl (by decide) ?_
  refine V_icmp_ltZ (b := 32) rfl rfl (by decide) (fun y2 => ?_) (fun z => bad (Or.inr (by omega)))
  clear bad
  rw [if_neg (by omega)] at hq
  refine V_aload_n rfl (by rfl) ?_
  refine V_getf rfl rfl rfl v1 (by rfl) ?_
  refine V_if_neB rfl (fun z => ?_) (fun z => ?_)
  rotate_left
  · rw [if_pos z] at hq
    exact V_throw (E := EIS) rfl rfl rfl rfl (by decide +kernel) kl_X11_177 kk_X11_179 (Nat.le_of_ble_eq_true rfl) (Nat.le_of_ble_eq_true rfl) ⟨by decide, by decide⟩ (hq _ Kp.rf.nn h.nn)
  rw [if_neg (by rw [z]; decide)] at hq
  have hq9 := hq _ Kp.rf h
  clear hq
  obtain ⟨hy1, hy2⟩ := i32_n (x := y) (by omega)
  obtain ⟨i, hi⟩ : ∃ i, i = y.toInt.toNat := ⟨_, rfl⟩
  rw [← hi] at hq9 hy1 hy2
  have hi9 : i < 32 := by omega
  clear hi hy2 y1 y2
  subst hy1
  refine V_aload_n rfl (by rfl) ?_
  refine V_getf rfl rfl rfl v1 (by rfl) ?_
  refine V_iload_n rfl (by rfl) ?_
  refine V_ialdN rfl g3 rfl (by omega) (by decide) ?_
  rw [g4 i hi9]
  exact V_iret rfl rfl hq9
end CClass15
