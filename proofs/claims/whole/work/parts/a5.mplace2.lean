section MPlace2
variable {K : kK} {G : kG} {Q : kO → kG → Prop} {T : TB} {S : SG} {th ta os hs ps rs : Int32}
/-- what was got alone changes -/
theorem RM.gt9 {S' : SG} {G' : kG} (h : RM T S G) (hw : rGt S' G') (es : ∀ j, fl (S'.1 j) = fl (S.1 j) ∧ nm (S'.1 j) = nm (S.1 j) ∧ un (S'.1 j) = un (S.1 j) ∧ wi (S'.1 j) = wi (S.1 j) ∧ rw9 (S'.1 j) = rw9 (S.1 j)) (e2 : S'.2.1 = S.2.1) (e : ∀ j, 143 ≤ j → j ≤ 181 → j ≠ 174 → j ≠ 175 → G'.1 j = G.1 j) : RM T S' G' := by
  obtain ⟨h1, h2, h3, h4, h5, h6, h7, h8, ⟨a0, a1, a2, a3, a4, a5, a6, a7⟩, h10⟩ := h
  refine ⟨h1.fp (fun j hj => e j (by omega) (by omega) (by omega) (by omega)), (h2.fp (e _ (by decide) (by decide) (by decide) (by decide))).st (fun j _ => by rw [(es j).2.2.2.2]; exact ⟨rfl, rfl, rfl⟩) e2, (h3.fp (e _ (by decide) (by decide) (by decide) (by decide))).st (fun j _ => by rw [(es j).2.2.2.2]), (h4.fp (e _ (by decide) (by decide) (by decide) (by decide))).st (fun j _ => by rw [(es j).2.2.2.2]; exact ⟨rfl, rfl⟩), (h5.fp (e _ (by decide) (by decide) (by decide) (by decide))).st (fun j _ => by rw [(es j).2.2.2.2]; exact ⟨rfl, rfl, rfl, rfl⟩), (h6.fp (e _ (by decide) (by decide) (by decide) (by decide))).st (fun j _ => by rw [(es j).2.2.2.2]; exact ⟨rfl, rfl⟩), hw, (h8.fp (fun j _ _ => e j (by omega) (by omega) (by omega) (by omega))).st (fun j => (es j).2.2.2.1), ?_, (h10.fp (fun j _ _ => e j (by omega) (by omega) (by omega) (by omega))).st (fun j => ⟨(es j).2.1, (es j).2.2.1⟩)⟩
  exact rFl.st (S := S) (rFl.fp ⟨a0, a1, a2, a3, a4, a5, a6, a7⟩ (fun j _ _ => e j (by omega) (by omega) (by omega) (by omega))) (fun j k _ => by rw [(es j).1])
set_option maxHeartbeats 4000000 in
theorem c_mdata {e : Nat} {c : List Nat} (he : e < 2) (g140 : G.1 140 = some (MO th ta os hs ps (nI c.length))) (hcl : 1 ≤ c.length ∧ c.length ≤ 200) (hR : RM T S G) (hrd : rdM c G)
    (hq1 : ¬ (fl (S.1 e) 3 = false ∧ (gt (S.1 e)).length + c.length - 1 ≤ 2000) → Q (.inl (some (.int (bI false)))) G)
    (hq2 : (fl (S.1 e) 3 = false ∧ (gt (S.1 e)).length + c.length - 1 ≤ 2000) → ∀ G', FP (fun j => j = 174 ∨ j = 175) G G' → RM T (sE S e (sgt (S.1 e) (gt (S.1 e) ++ c.drop 1))) G' → Q (.inl (some (.int (bI true)))) G') : C K 0 0 mX12_dataComes [.ref 140, .int (nI e)] G Q := by
  have f3 := hR.2.2.2.2.2.2.2.2.1.2.2.2.1
  obtain ⟨g174, gb, g175, hgb, hg⟩ := id hR.2.2.2.2.2.2.1
  obtain ⟨rb, g180, hrb, hrl⟩ := id hrd
  obtain ⟨L, hL⟩ : ∃ L, L = (gt (S.1 e)).length := ⟨_, rfl⟩
  have hL2 : L ≤ 2000 := by rw [hL]; exact (hg e he).1
  refine C_of okX12_dataComes (Nat.le_of_ble_eq_true rfl) ?_
  have bad : ¬ (fl (S.1 e) 3 = false ∧ (gt (S.1 e)).length + c.length - 1 ≤ 2000) → V K 0 0 mX12_dataComes 28 (kla [.ref 140, .int (nI e)]) [] G Q := fun z => by
    refine V_iconst (v := bI false) rfl (by decide) ?_
    exact V_zret rfl rfl (bI_01 _) (hq1 z)
  refine V_aload_n rfl (by first | rfl | assumption) ?_
  refine V_getf rfl rfl rfl (by repeat (first | exact hup_eq | assumption | refine Eq.trans (hup_ne (by first | assumption | exact Ne.symm (by assumption) | decide | omega)) ?_)) (by first | rfl | assumption) ?_
  refine V_iload_n rfl (by first | rfl | assumption) ?_
  refine V_zaldZ rfl (by repeat (first | exact hup_eq | assumption | refine Eq.trans (hup_ne (by first | assumption | exact Ne.symm (by assumption) | decide | omega)) ?_)) rfl (by first | omega | decide) (by first | omega | decide) ?_
  refine V_if_neB rfl (fun z => bad (fun q => by rw [z] at q; cases q.1)) (fun z1 => ?_)
  refine V_aload_n rfl (by first | rfl | assumption) ?_
  refine V_getf rfl rfl rfl (by repeat (first | exact hup_eq | assumption | refine Eq.trans (hup_ne (by first | assumption | exact Ne.symm (by assumption) | decide | omega)) ?_)) (by first | rfl | assumption) ?_
  refine V_iload_n rfl (by first | rfl | assumption) ?_
  refine V_ialdN rfl (by repeat (first | exact hup_eq | assumption | refine Eq.trans (hup_ne (by first | assumption | exact Ne.symm (by assumption) | decide | omega)) ?_)) rfl (by first | omega | decide) (by first | omega | decide) ?_
  rw [← hL]
  refine V_aload_n rfl (by first | rfl | assumption) ?_
  refine V_getf rfl rfl rfl (by repeat (first | exact hup_eq | assumption | refine Eq.trans (hup_ne (by first | assumption | exact Ne.symm (by assumption) | decide | omega)) ?_)) (by first | rfl | assumption) ?_
  refine V_iaddN rfl ?_
  refine V_iconst (v := nI 1) rfl (by decide) ?_
  refine V_isubN rfl (by first | omega | decide) ?_
  refine V_sipush (v := nI 2000) rfl (by decide) ?_
  refine V_icmp_leN rfl (by omega) (by decide) (fun z2 => ?_) (fun z => bad (fun q => by have := q.2; rw [← hL] at this; exact z this))
  clear bad
  have hq2 := hq2 ⟨z1, by rw [← hL]; exact z2⟩
  obtain ⟨m, hm⟩ : ∃ m, m + 1 = c.length := ⟨c.length - 1, by omega⟩
  have hcd : ∀ j, j < m → rb (1 + j) = gD (c.drop 1) j := fun j hj => by
    rw [show gD (c.drop 1) j = gD c (1 + j) by unfold gD; simp [List.getD, List.getElem?_drop, Nat.add_comm]]
    exact (gD_of hrl (by omega)).symm
  refine V_iconst (v := nI 1) rfl (by decide) ?_
  refine V_istore_n rfl (by decide) ?_
  have LP := V_loop (K := K) (bc := 0) (bs := 0) (M := mX12_dataComes) (head := 32) (Q := Q) m (fun i lc G' => lc 0 = some (.ref 140) ∧ lc 1 = some (.int (nI e)) ∧ lc 2 = some (.int (nI (1 + i))) ∧ G' = hup (hup G 175 (YA 4000 (ovw gb (2000 * e + L) i (gD (c.drop 1))))) 174 (BA 2 (updN (fun j => (gt (S.1 j)).length) e (L + i)))) ?_ ?_
  · refine LP 0 _ _ (Nat.zero_le _) ⟨rfl, rfl, rfl, ?_⟩
    have e1 : updN (fun j => (gt (S.1 j)).length) e (L + 0) = fun j => (gt (S.1 j)).length := by
      funext j
      by_cases x : j = e
      · rw [x, updN_eq, hL]; rfl
      · rw [updN_ne x]
    rw [ovw_0, hup_same g175, e1, hup_same g174]
  · rintro i lc G' hi ⟨l0, l1, l2, rfl⟩ ih
    have hb := hrb (1 + i)
    refine V_iload_n rfl (by first | rfl | assumption) ?_
    refine V_aload_n rfl (by first | rfl | assumption) ?_
    refine V_getf rfl rfl rfl (by repeat (first | exact hup_eq | assumption | refine Eq.trans (hup_ne (by first | assumption | exact Ne.symm (by assumption) | decide | omega)) ?_)) (by first | rfl | assumption) ?_
    refine V_icmp_geN rfl (by omega) (by omega) (fun h => absurd h (by omega)) (fun _ => ?_)
    refine V_aload_n rfl (by first | rfl | assumption) ?_
    refine V_getf rfl rfl rfl (by repeat (first | exact hup_eq | assumption | refine Eq.trans (hup_ne (by first | assumption | exact Ne.symm (by assumption) | decide | omega)) ?_)) (by first | rfl | assumption) ?_
    refine V_sipush (v := nI 2000) rfl (by decide) ?_
    refine V_iload_n rfl (by first | rfl | assumption) ?_
    refine V_imulN rfl ?_
    refine V_aload_n rfl (by first | rfl | assumption) ?_
    refine V_getf rfl rfl rfl (by repeat (first | exact hup_eq | assumption | refine Eq.trans (hup_ne (by first | assumption | exact Ne.symm (by assumption) | decide | omega)) ?_)) (by first | rfl | assumption) ?_
    refine V_iload_n rfl (by first | rfl | assumption) ?_
    refine V_ialdN rfl (by repeat (first | exact hup_eq | assumption | refine Eq.trans (hup_ne (by first | assumption | exact Ne.symm (by assumption) | decide | omega)) ?_)) rfl (by first | omega | decide) (by first | omega | decide) ?_
    rw [updN_eq]
    refine V_iaddN rfl ?_
    refine V_aload_n rfl (by first | rfl | assumption) ?_
    refine V_getf rfl rfl rfl (by repeat (first | exact hup_eq | assumption | refine Eq.trans (hup_ne (by first | assumption | exact Ne.symm (by assumption) | decide | omega)) ?_)) (by first | rfl | assumption) ?_
    refine V_iload_n rfl (by first | rfl | assumption) ?_
    refine V_baldB rfl (by repeat (first | exact hup_eq | assumption | refine Eq.trans (hup_ne (by first | assumption | exact Ne.symm (by assumption) | decide | omega)) ?_)) rfl (by first | omega | decide) (by first | omega | decide) ?_
    refine V_bastB rfl (by repeat (first | exact hup_eq | assumption | refine Eq.trans (hup_ne (by first | assumption | exact Ne.symm (by assumption) | decide | omega)) ?_)) rfl (by first | omega | decide) (by first | omega | decide) (by first | assumption | solve_by_elim | exact Nat.mod_lt _ (by decide) | omega) ?_
    refine V_aload_n rfl (by first | rfl | assumption) ?_
    refine V_getf rfl rfl rfl (by repeat (first | exact hup_eq | assumption | refine Eq.trans (hup_ne (by first | assumption | exact Ne.symm (by assumption) | decide | omega)) ?_)) (by first | rfl | assumption) ?_
    refine V_iload_n rfl (by first | rfl | assumption) ?_
    refine V_dup2 rfl rfl rfl ?_
    refine V_ialdN rfl (by repeat (first | exact hup_eq | assumption | refine Eq.trans (hup_ne (by first | assumption | exact Ne.symm (by assumption) | decide | omega)) ?_)) rfl (by first | omega | decide) (by first | omega | decide) ?_
    rw [updN_eq]
    refine V_iconst (v := nI 1) rfl (by decide) ?_
    refine V_iaddN rfl ?_
    refine V_iastN rfl (by repeat (first | exact hup_eq | assumption | refine Eq.trans (hup_ne (by first | assumption | exact Ne.symm (by assumption) | decide | omega)) ?_)) rfl (by first | omega | decide) (by first | omega | decide) ?_
    refine V_iincN (d := 1) rfl (by first | rfl | assumption) (by decide) (by decide) ?_
    refine V_goto rfl ?_
    rw [hup4 (by decide), show 2000 * e + (L + i) = 2000 * e + L + i from (Nat.add_assoc _ _ _).symm, ovw_s' (g := gD (c.drop 1)) (hcd i hi)]
    refine ih _ _ ⟨l0, l1, rfl, ?_⟩
    rw [show updN (updN (fun j => (gt (S.1 j)).length) e (L + i)) e (L + i + 1) = updN (fun j => (gt (S.1 j)).length) e (L + (i + 1)) from ?_]
    funext j
    by_cases x : j = e
    · rw [x, updN_eq, updN_eq]; rfl
    · rw [updN_ne x, updN_ne x, updN_ne x]
  · rintro lc G' ⟨l0, l1, l2, rfl⟩
    refine V_iload_n rfl (by first | rfl | assumption) ?_
    refine V_aload_n rfl (by first | rfl | assumption) ?_
    refine V_getf rfl rfl rfl (by repeat (first | exact hup_eq | assumption | refine Eq.trans (hup_ne (by first | assumption | exact Ne.symm (by assumption) | decide | omega)) ?_)) (by first | rfl | assumption) ?_
    refine V_icmp_geN rfl (by omega) (by omega) (fun _ => ?_) (fun h => absurd (by omega) h)
    refine V_iconst (v := bI true) rfl (by decide) ?_
    have hdl : (c.drop 1).length = m := by rw [List.length_drop]; omega
    have hgl : (gt (S.1 e) ++ c.drop 1).length = L + m := by rw [List.length_append, hdl, hL]
    have hcb : ∀ j, j < m → gD (c.drop 1) j < 256 := fun j hj => by rw [← hcd j hj]; exact hrb _
    refine V_zret rfl rfl (bI_01 _) (hq2 _ ((FP.rf.hup (Or.inr rfl)).hup (Or.inl rfl)) (hR.gt9 ?_ (fun j => ⟨sE_fl (S := S) (e := e) (s := sgt (S.1 e) (gt (S.1 e) ++ c.drop 1)) rfl j, sE_nm (S := S) (e := e) (s := sgt (S.1 e) (gt (S.1 e) ++ c.drop 1)) rfl j, sE_un (S := S) (e := e) (s := sgt (S.1 e) (gt (S.1 e) ++ c.drop 1)) rfl j, sE_wi (S := S) (e := e) (s := sgt (S.1 e) (gt (S.1 e) ++ c.drop 1)) rfl j, sE_rw (S := S) (e := e) (s := sgt (S.1 e) (gt (S.1 e) ++ c.drop 1)) rfl j⟩) rfl (fun j _ _ h1 h2 => (hup_ne h1).trans (hup_ne h2))))
    refine ⟨?_, _, (hup_ne (by decide)).trans hup_eq, ovw_lt hgb hcb, fun i hi => ?_⟩
    · rw [hup_eq]
      refine congrArg (fun f => some (BA 2 f)) ?_
      rw [pj_up (S := S) (fun s => (gt s).length) (e := e) (s := sgt (S.1 e) (gt (S.1 e) ++ c.drop 1))]
      show _ = up _ e (gt (S.1 e) ++ c.drop 1).length
      rw [hgl]
      rfl
    · by_cases x : i = e
      · subst x
        have ew : gt ((sE S i (sgt (S.1 i) (gt (S.1 i) ++ c.drop 1))).1 i) = gt (S.1 i) ++ c.drop 1 := by rw [sE_e]; rfl
        rw [ew, hgl]
        refine ⟨by omega, fun j hj => ?_⟩
        by_cases y : j < L
        · rw [ovw_out (by omega), (hg i hi).2 j (by omega)]
          unfold gD
          simp [List.getD, List.getElem?_append_left (show j < (gt (S.1 i)).length by omega)]
        · rw [ovw_at (by omega) (by omega)]
          unfold gD
          rw [List.getD_eq_getElem?_getD, List.getD_eq_getElem?_getD, List.getElem?_append_right (by omega), ← hL]
          congr 2
          omega
      · rw [sE_n x]
        have h9 := hg i hi
        have h10 := h9.1
        exact ⟨h9.1, fun j hj => by rw [ovw_out (by omega)]; exact h9.2 j hj⟩
end MPlace2
