/-! the reference's run -/
section MApi8
variable {K : kK} {G : kG} {Q : kO → kG → Prop} {T : TB} {S : SG} {th ta os hs ps rs : Int32}
theorem rnA_0 {n : Nat} : ∀ (k : Nat) {e m : Nat}, e < 2 → wi (S.1 0) = [] → wi (S.1 1) = [] → rnA T k n e m S = (m, S)
  | 0, e, m, _, _, _ => rfl
  | k + 1, e, m, he, h0, h1 => by
    unfold rnA
    split
    · have hw : (wi (S.1 e)).length = 0 := by
        rcases (by omega : e = 0 ∨ e = 1) with z | z
        · rw [z, h0]; rfl
        · rw [z, h1]; rfl
      rw [if_pos hw]
      exact rnA_0 k (by omega) h0 h1
    · rfl
theorem rnA_m {n k e m : Nat} (h : n ≤ m) : rnA T k n e m S = (m, S) := by
  cases k with
  | zero => rfl
  | succ k => unfold rnA; rw [if_neg (by omega)]
set_option maxHeartbeats 4000000 in
theorem V_mrun {n B : Nat} (hqt : qtO T.2.2) (hn : n ≤ 50) (hB2 : B < 2 ^ 28) : ∀ (k m e : Nat) (S : SG) (G : kG) (lc : kLo) (hs ps rs : Int32), e < 2 → k ≤ 2 * n → (2 * (n - m) ≤ k ∨ (2 * (n - m) ≤ k + 1 ∧ 0 < (wi (S.1 e)).length)) → m ≤ n → lc 0 = some (.ref 140) → lc 1 = some (.int (nI n)) → lc 2 = some (.int (nI m)) → lc 3 = some (.int (nI e)) → G.1 140 = some (MO (nI 0) ta os hs ps rs) → RM T S G → bnd S (B + 4 * (2 * n - k)) → ivE S → (∀ G' hs' ps' rs', FP PX G G' → G'.1 140 = some (MO (nI 0) ta os hs' ps' rs') → RM T (rnA T k n e m S).2 G' → Q (.inl (some (.int (nI (rnA T k n e m S).1)))) G') → V K 0 0 mX12_run 23 lc [] G Q := by
  intro k
  induction k with
  | zero =>
    intro m e S G lc hs ps rs he _ hk hm l0 l1 l2 l3 g140 hR hB hI hq
    refine V_aload_n rfl (by first | rfl | assumption) ?_
    refine V_getf rfl rfl rfl (by repeat (first | exact hup_eq | assumption | refine Eq.trans (hup_ne (by first | assumption | exact Ne.symm (by assumption) | decide | omega)) ?_)) (by first | rfl | assumption) ?_
    refine V_if_neN rfl (by decide) (fun z => absurd rfl z) (fun _ => ?_)
    refine V_iload_n rfl (by first | rfl | assumption) ?_
    refine V_iload_n rfl (by first | rfl | assumption) ?_
    refine V_icmp_geN rfl (by omega) (by omega) (fun _ => ?_) (fun z => absurd (by omega) z)
    refine V_iload_n rfl (by first | rfl | assumption) ?_
    exact V_iret rfl rfl (hq G hs ps rs FP.rf g140 hR)
  | succ k ih =>
    intro m e S G lc hs ps rs he hkn hk hm l0 l1 l2 l3 g140 hR hB hI hq
    obtain ⟨w176, z, w, g177, g178, hwb, hz⟩ := id hR.2.2.2.2.2.2.2.1
    have h12 : ∀ i, i < 2 → (wi (S.1 i)).length ≤ 12 := fun i hi => (hz i hi).1
    have a0 := h12 0 (by decide)
    have a1 := h12 1 (by decide)
    have ae := h12 e he
    refine V_aload_n rfl (by first | rfl | assumption) ?_
    refine V_getf rfl rfl rfl (by repeat (first | exact hup_eq | assumption | refine Eq.trans (hup_ne (by first | assumption | exact Ne.symm (by assumption) | decide | omega)) ?_)) (by first | rfl | assumption) ?_
    refine V_if_neN rfl (by decide) (fun z => absurd rfl z) (fun _ => ?_)
    refine V_iload_n rfl (by first | rfl | assumption) ?_
    refine V_iload_n rfl (by first | rfl | assumption) ?_
    refine V_icmp_geN rfl (by omega) (by omega) (fun q => ?_) (fun q => ?_)
    · rw [rnA_m q] at hq
      refine V_iload_n rfl (by first | rfl | assumption) ?_
      exact V_iret rfl rfl (hq G hs ps rs FP.rf g140 hR)
    refine V_aload_n rfl (by first | rfl | assumption) ?_
    refine V_getf rfl rfl rfl (by repeat (first | exact hup_eq | assumption | refine Eq.trans (hup_ne (by first | assumption | exact Ne.symm (by assumption) | decide | omega)) ?_)) (by first | rfl | assumption) ?_
    refine V_iconst (v := nI 0) rfl (by decide) ?_
    refine V_ialdN rfl (by repeat (first | exact hup_eq | assumption | refine Eq.trans (hup_ne (by first | assumption | exact Ne.symm (by assumption) | decide | omega)) ?_)) rfl (by first | omega | decide) (by first | omega | decide) ?_
    refine V_aload_n rfl (by first | rfl | assumption) ?_
    refine V_getf rfl rfl rfl (by repeat (first | exact hup_eq | assumption | refine Eq.trans (hup_ne (by first | assumption | exact Ne.symm (by assumption) | decide | omega)) ?_)) (by first | rfl | assumption) ?_
    refine V_iconst (v := nI 1) rfl (by decide) ?_
    refine V_ialdN rfl (by repeat (first | exact hup_eq | assumption | refine Eq.trans (hup_ne (by first | assumption | exact Ne.symm (by assumption) | decide | omega)) ?_)) rfl (by first | omega | decide) (by first | omega | decide) ?_
    refine V_iaddN rfl ?_
    refine V_if_leN rfl (by omega) (fun q2 => ?_) (fun q2 => ?_)
    · rw [rnA_0 (k + 1) he (List.length_eq_zero_iff.mp (by omega)) (List.length_eq_zero_iff.mp (by omega))] at hq
      refine V_iload_n rfl (by first | rfl | assumption) ?_
      exact V_iret rfl rfl (hq G hs ps rs FP.rf g140 hR)
    have U : rnA T (k + 1) n e m S = if (wi (S.1 e)).length = 0 then rnA T k n (1 - e) m S else rnA T k n (1 - e) (m + 1) (dlv T S e).2 := by conv => lhs; unfold rnA; rw [if_pos (by omega)]
    rw [U] at hq
    clear U
    refine V_aload_n rfl (by first | rfl | assumption) ?_
    refine V_getf rfl rfl rfl (by repeat (first | exact hup_eq | assumption | refine Eq.trans (hup_ne (by first | assumption | exact Ne.symm (by assumption) | decide | omega)) ?_)) (by first | rfl | assumption) ?_
    refine V_iload_n rfl (by first | rfl | assumption) ?_
    refine V_ialdN rfl (by repeat (first | exact hup_eq | assumption | refine Eq.trans (hup_ne (by first | assumption | exact Ne.symm (by assumption) | decide | omega)) ?_)) rfl (by first | omega | decide) (by first | omega | decide) ?_
    refine V_if_leN rfl (by omega) (fun q3 => ?_) (fun q3 => ?_)
    · rw [if_pos q3] at hq
      refine V_iconst (v := nI 1) rfl (by decide) ?_
      refine V_iload_n rfl (by first | rfl | assumption) ?_
      refine V_isubN rfl (by first | omega | decide) ?_
      refine V_istore_n rfl (by decide) ?_
      refine V_goto rfl ?_
      refine ih m (1 - e) S G _ hs ps rs (by omega) (by omega) ?_ hm l0 l1 l2 rfl g140 hR (hB.mono (by omega)) hI hq
      right
      refine ⟨by omega, ?_⟩
      rcases (by omega : e = 0 ∨ e = 1) with q4 | q4
      · subst q4; show 0 < (wi (S.1 1)).length; omega
      · subst q4; show 0 < (wi (S.1 0)).length; omega
    · rw [if_neg (by omega)] at hq
      refine V_aload_n rfl (by first | rfl | assumption) ?_
      refine V_iload_n rfl (by first | rfl | assumption) ?_
      refine V_callV (M' := mX12_comes) (mc := 0) (ms := 0) (bc' := 0) (bs' := 0) rfl cw_X12_374 iv_X12_comes (by repeat (first | exact hup_eq | assumption | refine Eq.trans (hup_ne (by first | assumption | exact Ne.symm (by assumption) | decide | omega)) ?_)) rfl rfl (Nat.le_of_ble_eq_true rfl) ⟨Nat.le_of_ble_eq_true rfl, Nat.le_of_ble_eq_true rfl⟩ ⟨Nat.le_of_ble_eq_true rfl, Nat.le_of_ble_eq_true rfl⟩ (As := [.int (nI e)]) (c_mcomes (S := S) (Q := fun o G1 => o = .inl (some (.int (dlv T S e).1)) ∧ ∃ hs' ps' rs', FP PX G G1 ∧ G1.1 140 = some (MO (nI 0) ta os hs' ps' rs') ∧ RM T (dlv T S e).2 G1) he hqt g140 hR hB (by omega) hI (fun G1 hs' ps' rs' h1 h2 h3 => ⟨rfl, hs', ps', rs', h1, h2, h3⟩)) (fun o G1 h => ?_) (fun E G' h => by cases h.1)
      obtain ⟨h9, hs', ps', rs', F1, k140, hR1⟩ := h
      cases h9
      obtain ⟨S1, hS1⟩ : ∃ S1, S1 = (dlv T S e).2 := ⟨_, rfl⟩
      have hB1 : bnd S1 (B + 4 * (2 * n - k)) := by rw [hS1]; exact (hB.x_dlv he).mono (by omega)
      have hI1 : ivE S1 := by rw [hS1]; exact hI.x_dlv he
      rw [← hS1] at hR1 hq
      refine V_istore rfl (by decide) ?_
      refine V_iincN (d := 1) rfl (by first | rfl | assumption) (by decide) (by decide) ?_
      refine V_iconst (v := nI 1) rfl (by decide) ?_
      refine V_iload_n rfl (by first | rfl | assumption) ?_
      refine V_isubN rfl (by first | omega | decide) ?_
      refine V_istore_n rfl (by decide) ?_
      refine V_goto rfl ?_
      exact ih (m + 1) (1 - e) S1 G1 _ hs' ps' rs' (by omega) (by omega) (Or.inl (by omega)) (by omega) l0 l1 rfl rfl k140 hR1 hB1 hI1 (fun G' a b c F h1 h2 => hq G' a b c (F1.trans F (fun _ q => q)) h1 h2)
theorem rnA_2 {n : Nat} : ∀ (k : Nat) {S : SG} {e m : Nat}, e < 2 → (rnA T k n e m S).2.2 = S.2
  | 0, S, e, m, he => rfl
  | k + 1, S, e, m, he => by
    unfold rnA
    split
    · split
      · exact rnA_2 k (by omega)
      · exact (rnA_2 k (by omega)).trans (dlv_2 he)
    · rfl
set_option maxHeartbeats 4000000 in
theorem c_Mrun {x : Int32} {B : Nat} (hqt : qtO T.2.2) (h : RMA T S th G) (hB : bnd S B) (hB2 : B < 2 ^ 28) (hI : ivE S) (hq : ∀ G', FP PM G G' → RMA T (aRn T S x.toInt).2.2 (nI (aRn T S x.toInt).1) G' → Q (.inl (some (.int (aRn T S x.toInt).2.1))) G') : C K 0 0 mX12_run [.ref 140, .int x] G Q := by
  obtain ⟨hR, ht, ho, hs, ps, rs, g140⟩ := id h
  refine C_of okX12_run (Nat.le_of_ble_eq_true rfl) ?_
  have bad : x.toInt < 0 ∨ 50 < x.toInt → V K 0 0 mX12_run 11 (kla [.ref 140, .int x]) [.ref 140] G Q := by
    intro z
    have U : aRn T S x.toInt = (1, 0, S) := by unfold aRn; rw [if_pos z]
    rw [U] at hq
    refine V_iconst (v := nI 1) rfl (by decide) ?_
    refine V_goto rfl ?_
    refine V_pf_th rfl rfl rfl (by repeat (first | exact hup_eq | assumption | refine Eq.trans (hup_ne (by first | assumption | exact Ne.symm (by assumption) | decide | omega)) ?_)) ?_
    refine V_iconst (v := nI 0) rfl (by decide) ?_
    refine V_istore_n rfl (by decide) ?_
    refine V_iconst (v := nI 1) rfl (by decide) ?_
    refine V_istore_n rfl (by decide) ?_
    refine V_aload_n rfl (by first | rfl | assumption) ?_
    refine V_getf rfl rfl rfl (by repeat (first | exact hup_eq | assumption | refine Eq.trans (hup_ne (by first | assumption | exact Ne.symm (by assumption) | decide | omega)) ?_)) (by first | rfl | assumption) ?_
    refine V_if_neN rfl (by decide) (fun _ => ?_) (fun z => absurd z (by decide))
    refine V_iload_n rfl (by first | rfl | assumption) ?_
    exact V_iret rfl rfl (hq _ (FP.rf.hup (by decide)) h.ob)
  refine V_aload_n rfl (by rfl) ?_
  refine V_iload_n rfl (by rfl) ?_
  refine V_if_ltZ rfl rfl (fun z => bad (Or.inl z)) (fun z1 => ?_)
  refine V_iload_n rfl (by rfl) ?_
  refine V_bipush (v := 50) rfl (by decide) ?_
  refine V_icmp_leZ (b := 50) rfl rfl (by decide) (fun z2 => ?_) (fun z => bad (Or.inr (by omega)))
  clear bad
  obtain ⟨hc1, hc2⟩ := i32_n (x := x) (by omega)
  have U : aRn T S x.toInt = (0, nI (rnA T (2 * x.toInt.toNat) x.toInt.toNat 1 0 S).1, (rnA T (2 * x.toInt.toNat) x.toInt.toNat 1 0 S).2) := by unfold aRn; rw [if_neg (by omega)]
  rw [U] at hq
  obtain ⟨n, hn⟩ : ∃ n, n = x.toInt.toNat := ⟨_, rfl⟩
  rw [← hn] at hq hc1 hc2
  have hn50 : n ≤ 50 := by omega
  clear U z1 z2 hn
  subst hc1
  refine V_iconst (v := nI 0) rfl (by decide) ?_
  refine V_pf_th rfl rfl rfl (by repeat (first | exact hup_eq | assumption | refine Eq.trans (hup_ne (by first | assumption | exact Ne.symm (by assumption) | decide | omega)) ?_)) ?_
  refine V_iconst (v := nI 0) rfl (by decide) ?_
  refine V_istore_n rfl (by decide) ?_
  refine V_iconst (v := nI 1) rfl (by decide) ?_
  refine V_istore_n rfl (by decide) ?_
  refine V_mrun (B := B) hqt hn50 hB2 (2 * n) 0 1 S _ _ hs ps rs (by decide) (by omega) (Or.inl (by omega)) (by omega) rfl rfl rfl rfl hup_eq hR.ob (hB.mono (by omega)) hI (fun G' hs' ps' rs' F k140 hR' => ?_)
  have F2 : FP PX G G' := (FP.rf.hup (by decide)).trans F (fun _ q => q)
  exact hq _ F2.xm (RMA.keep ⟨hR, ht, ho, hs, ps, rs, g140⟩ hR' ⟨F2.2 _ (by decide), F2.2 _ (by decide)⟩ (rnA_2 (2 * n) (by decide)) k140)
end MApi8
