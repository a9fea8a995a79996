section CClass12
variable {K : kK} {G : kG} {Q : kO → kG → Prop}
theorem XR.st2 {E : Nat} {s s' : ES} (h : XR E s G) (h1 : ∀ k, 2 ≤ k → fl s' k = fl s k) (h2 : ∀ k, 3 ≤ k → rw9 s' k = rw9 s k) : XR E s' G := by
  have hp : pub s' = pub s := by unfold pub; rw [h2 3 (by decide)]
  unfold XR at h ⊢
  rw [h1 2 (by decide), h1 3 (by decide), h1 4 (by decide), h1 8 (by decide), h1 5 (by decide), h2 4 (by decide), h2 5 (by decide), h2 3 (by decide), h2 10 (by decide), h2 11 (by decide), hp]
  exact h
theorem RC.row0 {S : SG} {e : Nat} {r : Nat → Nat} {G' : kG} (he : e < 2) (h : RC S G) (F : FP (fun j => j = EB e + 1) G G') (hr : Rb G' (EB e + 1) 32 r) : RC (sE S e (srw (S.1 e) 0 r)) G' := by
  have hEe : EB e = 32 + 46 * e := rfl
  obtain ⟨v1, v2, v3, v4, v5, v6, v7, v8⟩ := id (h.2 e he)
  refine h.one he (F.sub (fun x hx => by omega)) ⟨F.get (by omega) v1, ?_, ?_, ?_, v5.fp (F.2 _ (by omega)) (F.2 _ (by omega)), v6.fp (fun j a c => F.2 j (by omega)), (v7.fp (fun j a c => F.2 j (by omega))).sta (fun _ _ _ => rfl) (fun k a c => up_ne (by omega)), (v8.fp (fun j a c => F.2 j (by omega))).st2 (fun _ _ => rfl) (fun k a => up_ne (by omega))⟩
  · show Rb G' _ 32 (up (rw9 (S.1 e)) 0 r 0)
    rw [up_eq]
    exact hr
  · show Rb G' _ 8 (up _ 0 r 1)
    rw [up_ne (by decide)]
    exact v3.fp (F.2 _ (by omega))
  · show Rb G' _ 32 (up _ 0 r 2)
    rw [up_ne (by decide)]
    exact v4.fp (F.2 _ (by omega))
theorem RC.row1 {S : SG} {e : Nat} {r : Nat → Nat} {G' : kG} (he : e < 2) (h : RC S G) (F : FP (fun j => j = EB e + 2) G G') (hr : Rb G' (EB e + 2) 8 r) : RC (sE S e (srw (S.1 e) 1 r)) G' := by
  have hEe : EB e = 32 + 46 * e := rfl
  obtain ⟨v1, v2, v3, v4, v5, v6, v7, v8⟩ := id (h.2 e he)
  refine h.one he (F.sub (fun x hx => by omega)) ⟨F.get (by omega) v1, ?_, ?_, ?_, v5.fp (F.2 _ (by omega)) (F.2 _ (by omega)), v6.fp (fun j a c => F.2 j (by omega)), (v7.fp (fun j a c => F.2 j (by omega))).sta (fun _ _ _ => rfl) (fun k a c => up_ne (by omega)), (v8.fp (fun j a c => F.2 j (by omega))).st2 (fun _ _ => rfl) (fun k a => up_ne (by omega))⟩
  · show Rb G' _ 32 (up _ 1 r 0)
    rw [up_ne (by decide)]
    exact v2.fp (F.2 _ (by omega))
  · show Rb G' _ 8 (up (rw9 (S.1 e)) 1 r 1)
    rw [up_eq]
    exact hr
  · show Rb G' _ 32 (up _ 1 r 2)
    rw [up_ne (by decide)]
    exact v4.fp (F.2 _ (by omega))
theorem RC.host {S : SG} {k : Nat} {r : Nat → Nat} {G' : kG} (hk : k < 2) (h : RC S G) (F : FP (fun j => j = 124 + k) G G') (hr : Rb G' (124 + k) 32 r) : RC (sH S k r) G' := by
  obtain ⟨⟨h1, h2, h3, h4, h5, h6, h7, ⟨m8, b8, h8, h8'⟩, ⟨m9, b9, h9, h9'⟩, h10⟩, hE⟩ := h
  refine ⟨⟨h1.fp (fun j a c => F.2 j (by omega)), h2.fp (fun j a c => F.2 j (by omega)), h3.fp (fun j a c => F.2 j (by omega)), ?_, ?_, fun c a d => ?_, h7.fp (F.2 _ (by omega)) (F.2 _ (by omega)), ⟨m8, b8, F.get (by omega) h8, F.get (by omega) h8'⟩, ⟨m9, b9, F.get (by omega) h9, F.get (by omega) h9'⟩, ?_⟩, fun k hk => (hE k hk).fp (fun j a c => F.2 j (by unfold EB at a c; omega))⟩
  · show Rb G' 124 32 (up S.2.1 k r 0)
    by_cases e : k = 0
    · subst e
      rw [up_eq]
      exact hr
    · rw [up_ne (fun q => e q.symm)]
      exact h4.fp (F.2 _ (by omega))
  · show Rb G' 125 32 (up S.2.1 k r 1)
    by_cases e : k = 1
    · subst e
      rw [up_eq]
      exact hr
    · rw [up_ne (fun q => e q.symm)]
      exact h5.fp (F.2 _ (by omega))
  · obtain ⟨b, hb⟩ := h6 c a d
    exact ⟨b, F.get (by omega) hb⟩
  · exact TP.fp (g := (S.2.1, S.2.2.1, S.2.2.2)) h10 (F.2 _ (by omega)) (fun j a c => F.2 j (by omega))
def sce (i : Nat) : Nat := if i = 0 then 33 else if i = 1 then 79 else if i = 2 then 124 else if i = 3 then 125 else if i = 4 then 34 else 80
theorem c_settable {S : SG} {i : Nat} (hi : i < 6) (h : RC S G) (hq : Q (.inl (some (.ref (sce i)))) G) : C K 0 0 mX11_settable [.ref 0, .int (nI i)] G Q := by
  obtain ⟨tp, sp, g0⟩ := h.sw
  have c0 := (h.2 0 (by decide)).1
  have c1 := (h.2 1 (by decide)).1
  refine C_of okX11_settable (Nat.le_of_ble_eq_true rfl) ?_
  refine V_iload_n rfl (by rfl) ?_
  have : i = 0 ∨ i = 1 ∨ i = 2 ∨ i = 3 ∨ i = 4 ∨ i = 5 := by omega
  rcases this with rfl | rfl | rfl | rfl | rfl | rfl
  · refine V_tableIn (o := 35) (g := 36) rfl (by decide) (by decide) (by decide) (by decide) ?_
    refine V_aload_n rfl (by first | rfl | assumption) ?_
    refine V_getf rfl rfl rfl (by repeat (first | exact hup_eq | assumption | refine Eq.trans (hup_ne (by first | assumption | exact Ne.symm (by assumption) | decide | omega)) ?_)) (by first | rfl | assumption) ?_
    refine V_getf rfl rfl rfl (by repeat (first | exact hup_eq | assumption | refine Eq.trans (hup_ne (by first | assumption | exact Ne.symm (by assumption) | decide | omega)) ?_)) (by first | rfl | assumption) ?_
    exact V_aret rfl rfl (Or.inr ⟨_, rfl⟩) hq
  · refine V_tableIn (o := 43) (g := 44) rfl (by decide) (by decide) (by decide) (by decide) ?_
    refine V_aload_n rfl (by first | rfl | assumption) ?_
    refine V_getf rfl rfl rfl (by repeat (first | exact hup_eq | assumption | refine Eq.trans (hup_ne (by first | assumption | exact Ne.symm (by assumption) | decide | omega)) ?_)) (by first | rfl | assumption) ?_
    refine V_getf rfl rfl rfl (by repeat (first | exact hup_eq | assumption | refine Eq.trans (hup_ne (by first | assumption | exact Ne.symm (by assumption) | decide | omega)) ?_)) (by first | rfl | assumption) ?_
    exact V_aret rfl rfl (Or.inr ⟨_, rfl⟩) hq
  · refine V_tableIn (o := 51) (g := 52) rfl (by decide) (by decide) (by decide) (by decide) ?_
    refine V_aload_n rfl (by first | rfl | assumption) ?_
    refine V_getf rfl rfl rfl (by repeat (first | exact hup_eq | assumption | refine Eq.trans (hup_ne (by first | assumption | exact Ne.symm (by assumption) | decide | omega)) ?_)) (by first | rfl | assumption) ?_
    exact V_aret rfl rfl (Or.inr ⟨_, rfl⟩) hq
  · refine V_tableIn (o := 56) (g := 57) rfl (by decide) (by decide) (by decide) (by decide) ?_
    refine V_aload_n rfl (by first | rfl | assumption) ?_
    refine V_getf rfl rfl rfl (by repeat (first | exact hup_eq | assumption | refine Eq.trans (hup_ne (by first | assumption | exact Ne.symm (by assumption) | decide | omega)) ?_)) (by first | rfl | assumption) ?_
    exact V_aret rfl rfl (Or.inr ⟨_, rfl⟩) hq
  · refine V_tableIn (o := 61) (g := 62) rfl (by decide) (by decide) (by decide) (by decide) ?_
    refine V_aload_n rfl (by first | rfl | assumption) ?_
    refine V_getf rfl rfl rfl (by repeat (first | exact hup_eq | assumption | refine Eq.trans (hup_ne (by first | assumption | exact Ne.symm (by assumption) | decide | omega)) ?_)) (by first | rfl | assumption) ?_
    refine V_getf rfl rfl rfl (by repeat (first | exact hup_eq | assumption | refine Eq.trans (hup_ne (by first | assumption | exact Ne.symm (by assumption) | decide | omega)) ?_)) (by first | rfl | assumption) ?_
    exact V_aret rfl rfl (Or.inr ⟨_, rfl⟩) hq
  · refine V_tableOut (g := 70) rfl (by decide) (by decide) ?_
    refine V_aload_n rfl (by first | rfl | assumption) ?_
    refine V_getf rfl rfl rfl (by repeat (first | exact hup_eq | assumption | refine Eq.trans (hup_ne (by first | assumption | exact Ne.symm (by assumption) | decide | omega)) ?_)) (by first | rfl | assumption) ?_
    refine V_getf rfl rfl rfl (by repeat (first | exact hup_eq | assumption | refine Eq.trans (hup_ne (by first | assumption | exact Ne.symm (by assumption) | decide | omega)) ?_)) (by first | rfl | assumption) ?_
    exact V_aret rfl rfl (Or.inr ⟨_, rfl⟩) hq
theorem RC.set {S : SG} {i : Nat} {r : List Nat} {G' : kG} (hi : i < 6) (h : RC S G) (F : FP (fun j => j = sce i) G G') (hr : Rb G' (sce i) (if i < 4 then 32 else 8) (gD r)) : RC (sRw S (i : Int) r) G' := by
  have : i = 0 ∨ i = 1 ∨ i = 2 ∨ i = 3 ∨ i = 4 ∨ i = 5 := by omega
  rcases this with rfl | rfl | rfl | rfl | rfl | rfl
  · exact h.row0 (e := 0) (by decide) F hr
  · exact h.row0 (e := 1) (by decide) F hr
  · exact h.host (k := 0) (by decide) F hr
  · exact h.host (k := 1) (by decide) F hr
  · exact h.row1 (e := 0) (by decide) F hr
  · exact h.row1 (e := 1) (by decide) F hr
theorem RC.setc {S : SG} {i : Nat} (hi : i < 6) (h : RC S G) : ∃ b, G.1 (sce i) = some (BA (if i < 4 then 32 else 8) b) := by
  have : i = 0 ∨ i = 1 ∨ i = 2 ∨ i = 3 ∨ i = 4 ∨ i = 5 := by omega
  rcases this with rfl | rfl | rfl | rfl | rfl | rfl
  · exact (h.2 0 (by decide)).2.1.c
  · exact (h.2 1 (by decide)).2.1.c
  · exact h.1.2.2.2.1.c
  · exact h.1.2.2.2.2.1.c
  · exact (h.2 0 (by decide)).2.2.1.c
  · exact (h.2 1 (by decide)).2.2.1.c
set_option maxHeartbeats 4000000 in
theorem c_set {S : SG} {x : Int32} (h : RC S G) (hq : ∀ G', Kp G G' → RC (aSt S x.toInt).2.2 G' → Q (oV [EIO, EIA] (aSt S x.toInt).1) G') : C K 1 6 mX11_set [.ref 0, .int x] G Q := by
  obtain ⟨tp0, sp0, g0⟩ := h.sw
  refine C_of okX11_set (Nat.le_of_ble_eq_true rfl) ?_
  refine V_aload_n rfl (by first | rfl | assumption) ?_
  refine V_callV (M' := mX11_takeTape) (mc := 0) (ms := 0) (bc' := 1) (bs' := 6) rfl cw_X11_87 iv_X11_takeTape (by repeat (first | exact hup_eq | assumption | refine Eq.trans (hup_ne (by first | assumption | exact Ne.symm (by assumption) | decide | omega)) ?_)) rfl rfl (Nat.le_of_ble_eq_true rfl) ⟨Nat.le_of_ble_eq_true rfl, Nat.le_of_ble_eq_true rfl⟩ ⟨Nat.le_of_ble_eq_true rfl, Nat.le_of_ble_eq_true rfl⟩ (As := []) (c_takeTape (S := S) (Q := fun o G1 => ∃ tk tp : Nat, o = .inl (some (.ref tk)) ∧ (tk = 136 ∧ tp = 138 ∨ tk = 138 ∧ tp = 136) ∧ FP (fun j => j = 0 ∨ j = 136 ∨ j = 138) G G1 ∧ RC (tkn S) G1 ∧ Rw G1 tk (tk + 1) 600 (tpe S) ∧ G1.1 0 = some (SWO tp tk)) h (fun G1 tk tp h1 h2 h3 h4 h5 => ⟨tk, tp, rfl, h1, h2, h3, h4, h5⟩)) (fun o G1 h => ?_) (fun E G' h => by obtain ⟨_, _, h, _⟩ := h; cases h)
  obtain ⟨tk, tp, h0, htk, F1, R1, rt, q0⟩ := h
  cases h0
  have kp1 : Kp G G1 := F1.kp (fun x hx => by omega)
  refine V_astore_n rfl (by decide) ?_
  have bad : x.toInt < 0 ∨ 5 < x.toInt → V K 1 6 mX11_set 14 (ls1 (kla [.ref 0, .int x]) 2 (.ref tk)) [] G1 Q := by
    intro z
    have U : aSt S x.toInt = (1, 0, tkn S) := by unfold aSt; rw [if_pos z]
    rw [U] at hq
    exact V_throw (E := EIO) rfl rfl rfl rfl (by decide +kernel) kl_X11_91 kk_X11_93 (Nat.le_of_ble_eq_true rfl) (Nat.le_of_ble_eq_true rfl) ⟨by decide, by decide⟩ (hq _ kp1.nn R1.nn)
  refine V_iload_n rfl (by rfl) ?_
  refine V_if_ltZ rfl rfl (fun z => bad (Or.inl z)) (fun z => ?_)
  refine V_iload_n rfl (by rfl) ?_
  refine V_iconst (v := 5) rfl (by decide) ?_
  refine V_icmp_leZ (b := 5) rfl rfl (by decide) (fun z2 => ?_) (fun z2 => bad (Or.inr (by omega)))
  clear bad
  have U0 : aSt S x.toInt = if (tpe S).length ≠ (if x.toInt < 4 then 32 else 8) then (2, 0, tkn S) else (0, 0, sRw (tkn S) x.toInt (tpe S)) := by unfold aSt; rw [if_neg (by omega)]
  rw [U0] at hq
  clear U0
  obtain ⟨hx1, hx2⟩ := i32_n (x := x) (by omega)
  obtain ⟨i, hi⟩ : ∃ i, i = x.toInt.toNat := ⟨_, rfl⟩
  have hix : x.toInt = (i : Int) := by omega
  rw [← hi] at hx1 hx2
  rw [hix] at hq
  have hi6 : i < 6 := by omega
  clear hi hix z z2
  subst hx1
  obtain ⟨b0, c0⟩ := R1.setc hi6
  obtain ⟨N, hN⟩ : ∃ N, N = (if i < 4 then 32 else 8) := ⟨_, rfl⟩
  have hNi : (if (i : Int) < 4 then 32 else 8) = N := by
    rw [hN]
    by_cases z : i < 4
    · rw [if_pos z, if_pos (by omega)]
    · rw [if_neg z, if_neg (by omega)]
  have hN2 : N = 32 ∨ N = 8 := by rw [hN]; split <;> simp
  rw [hNi] at hq
  rw [← hN] at c0
  refine V_aload_n rfl (by first | rfl | assumption) ?_
  refine V_iload_n rfl (by first | rfl | assumption) ?_
  refine V_callV (M' := mX11_settable) (mc := 0) (ms := 0) (bc' := 1) (bs' := 6) rfl cw_X11_94 iv_X11_settable (by repeat (first | exact hup_eq | assumption | refine Eq.trans (hup_ne (by first | assumption | exact Ne.symm (by assumption) | decide | omega)) ?_)) rfl rfl (Nat.le_of_ble_eq_true rfl) ⟨Nat.le_of_ble_eq_true rfl, Nat.le_of_ble_eq_true rfl⟩ ⟨Nat.le_of_ble_eq_true rfl, Nat.le_of_ble_eq_true rfl⟩ (As := [.int (nI i)]) (c_settable (S := tkn S) (Q := fun o G2 => o = .inl (some (.ref (sce i))) ∧ G2 = G1) hi6 R1 ⟨rfl, rfl⟩) (fun o G2 h => ?_) (fun E G' h => by cases h.1)
  obtain ⟨h0, rfl⟩ := h
  cases h0
  obtain ⟨g1, g2, b, g3, g4, g5⟩ := id rt
  refine V_astore_n rfl (by decide) ?_
  refine V_aload_n rfl (by first | rfl | assumption) ?_
  refine V_getf rfl rfl rfl (by repeat (first | exact hup_eq | assumption | refine Eq.trans (hup_ne (by first | assumption | exact Ne.symm (by assumption) | decide | omega)) ?_)) (by first | rfl | assumption) ?_
  refine V_aload_n rfl (by first | rfl | assumption) ?_
  refine V_alen rfl (by repeat (first | exact hup_eq | assumption | refine Eq.trans (hup_ne (by first | assumption | exact Ne.symm (by assumption) | decide | omega)) ?_)) (by decide) ?_
  refine V_icmp_eqN rfl (by omega) (by omega) (fun z => ?_) (fun z => ?_)
  · rw [if_neg (fun q => q z)] at hq
    refine V_aload_n rfl (by first | rfl | assumption) ?_
    refine V_getf rfl rfl rfl (by repeat (first | exact hup_eq | assumption | refine Eq.trans (hup_ne (by first | assumption | exact Ne.symm (by assumption) | decide | omega)) ?_)) (by first | rfl | assumption) ?_
    refine V_iconst (v := nI 0) rfl (by decide) ?_
    refine V_aload_n rfl (by first | rfl | assumption) ?_
    refine V_iconst (v := nI 0) rfl (by decide) ?_
    refine V_aload_n rfl (by first | rfl | assumption) ?_
    refine V_alen rfl (by repeat (first | exact hup_eq | assumption | refine Eq.trans (hup_ne (by first | assumption | exact Ne.symm (by assumption) | decide | omega)) ?_)) (by decide) ?_
    refine V_copyi (st := []) rfl ⟨kk_X11_108, k_ac⟩ g3 c0 (nI_pos (by decide)) (nI_pos (by decide)) (nI_pos (by omega)) (by rw [nI_clamp (n := 0) (by decide), nI_clamp (n := N) (by omega)]; omega) (by rw [nI_clamp (n := 0) (by decide), nI_clamp (n := N) (by omega)]; omega) (by decide) (by decide) ?_
    rw [nI_clamp (n := 0) (by decide), nI_clamp (n := N) (by omega), cpyB]
    have hs14 : sce i < 140 := by unfold sce; repeat (split <;> try decide)
    refine V_vret rfl rfl (hq _ (fun j hj => (hup_ne (by omega)).trans (kp1 j hj)) ?_)
    refine R1.set hi6 (FP.rf.hup rfl) ?_
    rw [← hN]
    refine ⟨_, hup_eq, fun j hj => ?_, fun j hj => ?_⟩
    · rw [if_pos hj, gD_of g4 (by omega)]
    · rw [gD_of g4 (by omega)]
      exact g5 j (by omega)
  · rw [if_pos z] at hq
    exact V_throw (E := EIA) rfl rfl rfl rfl (by decide +kernel) kl_X11_102 kk_X11_104 (Nat.le_of_ble_eq_true rfl) (Nat.le_of_ble_eq_true rfl) ⟨by decide, by decide⟩ (hq _ kp1.nn R1.nn)
theorem Rw.set {r d N : Nat} {b : Nat → Nat} {n : Nat} {f : Nat → Nat} {G' : kG} (h1 : G'.1 r = some (ROB d n)) (h2 : n ≤ N) (h3 : G'.1 d = some (BA N b)) (h4 : ∀ j, j < n → b j = f j) (h5 : ∀ j, j < n → f j < 256) : Rw G' r d N (lst f n) := by
  refine ⟨by rw [lst_len]; exact h1, by rw [lst_len]; exact h2, b, h3, by rw [lst_len]; exact lst_congr h4, fun j hj => ?_⟩
  rw [lst_len] at hj
  rw [h4 j hj]
  exact h5 j hj
set_option maxHeartbeats 4000000 in
theorem c_multiply {S : SG} (h : RC S G) (hq : ∀ G', Kp G G' → RC (aMu S).2.2 G' → Q (oV [EIA] (aMu S).1) G') : C K 1 6 mX11_multiply [.ref 0] G Q := by
  obtain ⟨tp0, sp0, g0⟩ := h.sw
  refine C_of okX11_multiply (Nat.le_of_ble_eq_true rfl) ?_
  refine V_aload_n rfl (by first | rfl | assumption) ?_
  refine V_callV (M' := mX11_takeTape) (mc := 0) (ms := 0) (bc' := 1) (bs' := 6) rfl cw_X11_87 iv_X11_takeTape (by repeat (first | exact hup_eq | assumption | refine Eq.trans (hup_ne (by first | assumption | exact Ne.symm (by assumption) | decide | omega)) ?_)) rfl rfl (Nat.le_of_ble_eq_true rfl) ⟨Nat.le_of_ble_eq_true rfl, Nat.le_of_ble_eq_true rfl⟩ ⟨Nat.le_of_ble_eq_true rfl, Nat.le_of_ble_eq_true rfl⟩ (As := []) (c_takeTape (S := S) (Q := fun o G1 => ∃ tk tp : Nat, o = .inl (some (.ref tk)) ∧ (tk = 136 ∧ tp = 138 ∨ tk = 138 ∧ tp = 136) ∧ FP (fun j => j = 0 ∨ j = 136 ∨ j = 138) G G1 ∧ RC (tkn S) G1 ∧ Rw G1 tk (tk + 1) 600 (tpe S) ∧ G1.1 0 = some (SWO tp tk)) h (fun G1 tk tp h1 h2 h3 h4 h5 => ⟨tk, tp, rfl, h1, h2, h3, h4, h5⟩)) (fun o G1 h => ?_) (fun E G' h => by obtain ⟨_, _, h, _⟩ := h; cases h)
  obtain ⟨tk, tp, h0, htk, F1, R1, rt, q0⟩ := h
  cases h0
  have kp1 : Kp G G1 := F1.kp (fun x hx => by omega)
  obtain ⟨g1, g2, b, g3, g4, g5⟩ := id rt
  refine V_astore_n rfl (by decide) ?_
  refine V_aload_n rfl (by first | rfl | assumption) ?_
  refine V_getf rfl rfl rfl (by repeat (first | exact hup_eq | assumption | refine Eq.trans (hup_ne (by first | assumption | exact Ne.symm (by assumption) | decide | omega)) ?_)) (by first | rfl | assumption) ?_
  refine V_bipush (v := nI 64) rfl (by decide) ?_
  refine V_icmp_eqN rfl (by omega) (by decide) (fun z => ?_) (fun z => ?_)
  · have U : aMu S = (0, 0, sO (tkn S) (lst (mulB (gD (tpe S)) (sft (gD (tpe S)) 32)) 32)) := by unfold aMu; rw [if_neg (fun q => q z)]
    rw [U] at hq
    have hcr := R1.1.1
    have hcr1 := hcr.1
    obtain ⟨o1, o2, ob, o3, o4, o5⟩ := id R1.1.2.2.2.2.2.2.1
    refine V_aload_n rfl (by first | rfl | assumption) ?_
    refine V_getf rfl rfl rfl (by repeat (first | exact hup_eq | assumption | refine Eq.trans (hup_ne (by first | assumption | exact Ne.symm (by assumption) | decide | omega)) ?_)) (by first | rfl | assumption) ?_
    refine V_aload_n rfl (by first | rfl | assumption) ?_
    refine V_getf rfl rfl rfl (by repeat (first | exact hup_eq | assumption | refine Eq.trans (hup_ne (by first | assumption | exact Ne.symm (by assumption) | decide | omega)) ?_)) (by first | rfl | assumption) ?_
    refine V_aload_n rfl (by first | rfl | assumption) ?_
    refine V_getf rfl rfl rfl (by repeat (first | exact hup_eq | assumption | refine Eq.trans (hup_ne (by first | assumption | exact Ne.symm (by assumption) | decide | omega)) ?_)) (by first | rfl | assumption) ?_
    refine V_bipush (v := nI 32) rfl (by decide) ?_
    refine V_aload_n rfl (by first | rfl | assumption) ?_
    refine V_getf rfl rfl rfl (by repeat (first | exact hup_eq | assumption | refine Eq.trans (hup_ne (by first | assumption | exact Ne.symm (by assumption) | decide | omega)) ?_)) (by first | rfl | assumption) ?_
    refine V_getf rfl rfl rfl (by repeat (first | exact hup_eq | assumption | refine Eq.trans (hup_ne (by first | assumption | exact Ne.symm (by assumption) | decide | omega)) ?_)) (by first | rfl | assumption) ?_
    refine V_callV (M' := mX0_times) (mc := 0) (ms := 0) (bc' := 1) (bs' := 6) rfl cw_X11_114 iv_X0_times (by repeat (first | exact hup_eq | assumption | refine Eq.trans (hup_ne (by first | assumption | exact Ne.symm (by assumption) | decide | omega)) ?_)) rfl rfl (Nat.le_of_ble_eq_true rfl) ⟨Nat.le_of_ble_eq_true rfl, Nat.le_of_ble_eq_true rfl⟩ ⟨Nat.le_of_ble_eq_true rfl, Nat.le_of_ble_eq_true rfl⟩ (As := [.ref (tk + 1), .ref (tk + 1), .int (nI 32), .ref 131]) (c_times (Q := fun o G2 => o = .inl none ∧ FP (fun j => (2 ≤ j ∧ j ≤ 13) ∨ j = 131) G1 G2 ∧ crv G2 ∧ G2.1 131 = some (BA 64 (fun j => if j < 32 then MULT b (fun j => b (32 + j)) / 256 ^ j % 256 else ob j))) hcr g3 (by decide) (by omega) (fun j hj => g5 j (by omega)) g3 (by decide) (by decide) (fun j hj => g5 _ (by omega)) (by omega) o3 (by decide) (by decide) (fun G2 h1 h2 h3 => ⟨rfl, h1.P (by intro x hx; simp at hx; omega), h2, h3⟩)) (fun o G2 h => ?_) (fun E G' h => by cases h.1)
    obtain ⟨h0, F2, cr2, v2⟩ := h
    cases h0
    have q0 := F2.get (by omega) q0
    have o1 := F2.get (by omega) o1
    refine V_aload_n rfl (by first | rfl | assumption) ?_
    refine V_getf rfl rfl rfl (by repeat (first | exact hup_eq | assumption | refine Eq.trans (hup_ne (by first | assumption | exact Ne.symm (by assumption) | decide | omega)) ?_)) (by first | rfl | assumption) ?_
    refine V_bipush (v := nI 32) rfl (by decide) ?_
    refine V_putf rfl rfl rfl rfl (by repeat (first | exact hup_eq | assumption | refine Eq.trans (hup_ne (by first | assumption | exact Ne.symm (by assumption) | decide | omega)) ?_)) (Nat.le_of_ble_eq_true rfl) (by first | exact ⟨rfl, rfl⟩ | (constructor <;> decide)) ?_
    refine V_vret rfl rfl (hq _ (fun j hj => (hup_ne (by omega)).trans ((F2.2 j (by omega)).trans (kp1 j hj))) ?_)
    refine R1.lo (cr2.fp (fun j a c => hup_ne (by omega))) (R1.1.2.1.fp (fun j a c => (hup_ne (by omega)).trans (F2.2 j (by omega)))) (R1.1.2.2.1.fp (fun j a c => (hup_ne (by omega)).trans (F2.2 j (by omega)))) ?_ (fun j hj => (hup_ne (by omega)).trans (F2.2 j (by omega)))
    refine Rw.set hup_eq (by decide) ((hup_ne (by decide)).trans v2) (fun j hj => ?_) (fun j _ => mulB_lt _ _ j)
    rw [if_pos hj]
    show _ = MULT _ _ / _ % _
    rw [MULT_congr (k' := gD (tpe S)) (u' := sft (gD (tpe S)) 32) (fun j hj => (gD_of g4 (by omega)).symm) (fun j hj => (gD_of g4 (by omega)).symm)]
  · have U : aMu S = (1, 0, tkn S) := by unfold aMu; rw [if_pos z]
    rw [U] at hq
    exact V_throw (E := EIA) rfl rfl rfl rfl (by decide +kernel) kl_X11_102 kk_X11_104 (Nat.le_of_ble_eq_true rfl) (Nat.le_of_ble_eq_true rfl) ⟨by decide, by decide⟩ (hq _ kp1.nn R1.nn)
set_option maxHeartbeats 4000000 in
theorem c_hash {S : SG} {T : TB} (hT : tbl K T) (h : RC S G) (hq : ∀ G', Kp G G' → RC (aHa T S).2.2 G' → Q (oV [] (aHa T S).1) G') : C K 0 0 mX11_hash [.ref 0] G Q := by
  obtain ⟨tp0, sp0, g0⟩ := h.sw
  refine C_of okX11_hash (Nat.le_of_ble_eq_true rfl) ?_
  refine V_aload_n rfl (by first | rfl | assumption) ?_
  refine V_callV (M' := mX11_takeTape) (mc := 0) (ms := 0) (bc' := 0) (bs' := 0) rfl cw_X11_87 iv_X11_takeTape (by repeat (first | exact hup_eq | assumption | refine Eq.trans (hup_ne (by first | assumption | exact Ne.symm (by assumption) | decide | omega)) ?_)) rfl rfl (Nat.le_of_ble_eq_true rfl) ⟨Nat.le_of_ble_eq_true rfl, Nat.le_of_ble_eq_true rfl⟩ ⟨Nat.le_of_ble_eq_true rfl, Nat.le_of_ble_eq_true rfl⟩ (As := []) (c_takeTape (S := S) (Q := fun o G1 => ∃ tk tp : Nat, o = .inl (some (.ref tk)) ∧ (tk = 136 ∧ tp = 138 ∨ tk = 138 ∧ tp = 136) ∧ FP (fun j => j = 0 ∨ j = 136 ∨ j = 138) G G1 ∧ RC (tkn S) G1 ∧ Rw G1 tk (tk + 1) 600 (tpe S) ∧ G1.1 0 = some (SWO tp tk)) h (fun G1 tk tp h1 h2 h3 h4 h5 => ⟨tk, tp, rfl, h1, h2, h3, h4, h5⟩)) (fun o G1 h => ?_) (fun E G' h => by obtain ⟨_, _, h, _⟩ := h; cases h)
  obtain ⟨tk, tp, h0, htk, F1, R1, rt, q0⟩ := h
  cases h0
  have kp1 : Kp G G1 := F1.kp (fun x hx => by omega)
  have hs := R1.1.2.1
  have hs1 := hs.1
  obtain ⟨o1, o2, ob, o3, o4, o5⟩ := id R1.1.2.2.2.2.2.2.1
  refine V_astore_n rfl (by decide) ?_
  refine V_aload_n rfl (by first | rfl | assumption) ?_
  refine V_getf rfl rfl rfl (by repeat (first | exact hup_eq | assumption | refine Eq.trans (hup_ne (by first | assumption | exact Ne.symm (by assumption) | decide | omega)) ?_)) (by first | rfl | assumption) ?_
  refine V_callV (M' := mX3_start) (mc := 0) (ms := 0) (bc' := 0) (bs' := 0) rfl cw_X11_118 iv_X3_start (by repeat (first | exact hup_eq | assumption | refine Eq.trans (hup_ne (by first | assumption | exact Ne.symm (by assumption) | decide | omega)) ?_)) rfl rfl (Nat.le_of_ble_eq_true rfl) ⟨Nat.le_of_ble_eq_true rfl, Nat.le_of_ble_eq_true rfl⟩ ⟨Nat.le_of_ble_eq_true rfl, Nat.le_of_ble_eq_true rfl⟩ (As := []) (c_startL (Q := fun o G2 => o = .inl none ∧ FP (fun j => j = 17) G1 G2 ∧ HM G2 []) hs (fun G2 h1 h2 => ⟨rfl, h1, h2⟩)) (fun o G2 h => ?_) (fun E G' h => by cases h.1)
  obtain ⟨h0, F2, m2⟩ := h
  cases h0
  have q0 := F2.get (by omega) q0
  have rt := rt.fp (F2.2 _ (by omega)) (F2.2 _ (by omega))
  have o1 := F2.get (by omega) o1
  have o3 := F2.get (by omega) o3
  obtain ⟨g1, g2, b, g3, g4, g5⟩ := id rt
  have m21 := m2.1
  refine V_aload_n rfl (by first | rfl | assumption) ?_
  refine V_getf rfl rfl rfl (by repeat (first | exact hup_eq | assumption | refine Eq.trans (hup_ne (by first | assumption | exact Ne.symm (by assumption) | decide | omega)) ?_)) (by first | rfl | assumption) ?_
  refine V_aload_n rfl (by first | rfl | assumption) ?_
  refine V_getf rfl rfl rfl (by repeat (first | exact hup_eq | assumption | refine Eq.trans (hup_ne (by first | assumption | exact Ne.symm (by assumption) | decide | omega)) ?_)) (by first | rfl | assumption) ?_
  refine V_iconst (v := nI 0) rfl (by decide) ?_
  refine V_aload_n rfl (by first | rfl | assumption) ?_
  refine V_getf rfl rfl rfl (by repeat (first | exact hup_eq | assumption | refine Eq.trans (hup_ne (by first | assumption | exact Ne.symm (by assumption) | decide | omega)) ?_)) (by first | rfl | assumption) ?_
  refine V_callV (M' := mX3_addRow) (mc := 0) (ms := 0) (bc' := 0) (bs' := 0) rfl cw_X11_121 iv_X3_addRow (by repeat (first | exact hup_eq | assumption | refine Eq.trans (hup_ne (by first | assumption | exact Ne.symm (by assumption) | decide | omega)) ?_)) rfl rfl (Nat.le_of_ble_eq_true rfl) ⟨Nat.le_of_ble_eq_true rfl, Nat.le_of_ble_eq_true rfl⟩ ⟨Nat.le_of_ble_eq_true rfl, Nat.le_of_ble_eq_true rfl⟩ (As := [.ref (tk + 1), .int (nI 0), .int (nI (tpe S).length)]) (c_addSg (Q := fun o G3 => o = .inl none ∧ FP (fun j => j = 17 ∨ j = 18) G2 G3 ∧ HM G3 ([] ++ lst (sft (gD (tpe S)) 0) (tpe S).length)) m2 (rt.sg (s := 0) (n := (tpe S).length) (by decide) (by omega)) (by show 0 + _ ≤ _; omega) (fun G2 h1 h2 => ⟨rfl, h1, h2⟩)) (fun o G3 h => ?_) (fun E G' h => by cases h.1)
  obtain ⟨h0, F3, m3⟩ := h
  cases h0
  rw [List.nil_append, lst_congr (g := gD (tpe S)) (fun j hj => by show gD _ (0 + j) = _; rw [Nat.zero_add]), lst_gD] at m3
  have q0 := F3.get (by omega) q0
  have o1 := F3.get (by omega) o1
  have o3 := F3.get (by omega) o3
  have m31 := m3.1
  refine V_aload_n rfl (by first | rfl | assumption) ?_
  refine V_getf rfl rfl rfl (by repeat (first | exact hup_eq | assumption | refine Eq.trans (hup_ne (by first | assumption | exact Ne.symm (by assumption) | decide | omega)) ?_)) (by first | rfl | assumption) ?_
  refine V_aload_n rfl (by first | rfl | assumption) ?_
  refine V_getf rfl rfl rfl (by repeat (first | exact hup_eq | assumption | refine Eq.trans (hup_ne (by first | assumption | exact Ne.symm (by assumption) | decide | omega)) ?_)) (by first | rfl | assumption) ?_
  refine V_getf rfl rfl rfl (by repeat (first | exact hup_eq | assumption | refine Eq.trans (hup_ne (by first | assumption | exact Ne.symm (by assumption) | decide | omega)) ?_)) (by first | rfl | assumption) ?_
  refine V_callV (M' := mX3_finish) (mc := 0) (ms := 0) (bc' := 0) (bs' := 0) rfl cw_X11_125 iv_X3_finish (by repeat (first | exact hup_eq | assumption | refine Eq.trans (hup_ne (by first | assumption | exact Ne.symm (by assumption) | decide | omega)) ?_)) rfl rfl (Nat.le_of_ble_eq_true rfl) ⟨Nat.le_of_ble_eq_true rfl, Nat.le_of_ble_eq_true rfl⟩ ⟨Nat.le_of_ble_eq_true rfl, Nat.le_of_ble_eq_true rfl⟩ (As := [.ref 131]) (c_finishL (T := T) (Q := fun o G4 => o = .inl none ∧ FP (fun j => (15 ≤ j ∧ j ≤ 18) ∨ j = 131) G3 G4 ∧ hsr G4 ∧ G4.1 131 = some (BA 64 (fun j => if j < 32 then hL T (tpe S) j else ob j))) hT m3 (by omega) o3 (by decide) (by decide) (fun G2 h1 h2 h3 => ⟨rfl, h1, h2, h3⟩)) (fun o G4 h => ?_) (fun E G' h => by cases h.1)
  obtain ⟨h0, F4, s4, v4⟩ := h
  cases h0
  have q0 := F4.get (by omega) q0
  have o1 := F4.get (by omega) o1
  have FA : FP (fun j => (15 ≤ j ∧ j ≤ 18) ∨ j = 131) G1 G4 := ((F2.sub (fun x hx => by omega)).trans F3 (fun x hx => by omega)).trans F4 (fun x hx => by omega)
  refine V_aload_n rfl (by first | rfl | assumption) ?_
  refine V_getf rfl rfl rfl (by repeat (first | exact hup_eq | assumption | refine Eq.trans (hup_ne (by first | assumption | exact Ne.symm (by assumption) | decide | omega)) ?_)) (by first | rfl | assumption) ?_
  refine V_bipush (v := nI 32) rfl (by decide) ?_
  refine V_putf rfl rfl rfl rfl (by repeat (first | exact hup_eq | assumption | refine Eq.trans (hup_ne (by first | assumption | exact Ne.symm (by assumption) | decide | omega)) ?_)) (Nat.le_of_ble_eq_true rfl) (by first | exact ⟨rfl, rfl⟩ | (constructor <;> decide)) ?_
  refine V_vret rfl rfl (hq _ (fun j hj => (hup_ne (by omega)).trans ((FA.2 j (by omega)).trans (kp1 j hj))) ?_)
  refine R1.lo (R1.1.1.fp (fun j a c => (hup_ne (by omega)).trans (FA.2 j (by omega)))) (s4.fp (fun j a c => hup_ne (by omega))) (R1.1.2.2.1.fp (fun j a c => (hup_ne (by omega)).trans (FA.2 j (by omega)))) ?_ (fun j hj => (hup_ne (by omega)).trans (FA.2 j (by omega)))
  exact Rw.set hup_eq (by decide) ((hup_ne (by decide)).trans v4) (fun j hj => if_pos hj) (fun j _ => HSH_lt _ _ _ j)
end CClass12
