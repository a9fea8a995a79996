/-! the reference: messages that have a place -/
section MPlace
variable {K : kK} {G : kG} {Q : kO → kG → Prop} {T : TB} {S : SG} {th ta os hs ps rs : Int32}
theorem ZA_inj {f g : Nat → Bool} (h : (some (ZA 2 f) : Option kE) = some (ZA 2 g)) : f = g := by
  have h1 := Option.some.inj h
  simp only [Sum.inl.injEq, Prod.mk.injEq, true_and] at h1
  funext j
  have := congrFun h1 j
  revert this
  cases f j <;> cases g j <;> simp [bI]
theorem RM.g1 {e : Nat} {b : Bool} {f : Nat → Bool} (h : RM T S G) (hc : G.1 172 = some (ZA 2 f)) : RM T (sE S e (sfl (S.1 e) 1 b)) (hup G 172 (ZA 2 (up f e b))) := by
  have h2 := h.2.2.2.2.2.2.2.2.1.2.1
  rw [ZA_inj (hc.symm.trans h2)]
  exact h.f1
theorem RM.g2 {e : Nat} {b : Bool} {f : Nat → Bool} (h : RM T S G) (hc : G.1 167 = some (ZA 2 f)) : RM T (sE S e (sfl (S.1 e) 2 b)) (hup G 167 (ZA 2 (up f e b))) := by
  have h2 := h.2.2.2.2.2.2.2.2.1.2.2.1
  rw [ZA_inj (hc.symm.trans h2)]
  exact h.f2
theorem RM.g3 {e : Nat} {b : Bool} {f : Nat → Bool} (h : RM T S G) (hc : G.1 168 = some (ZA 2 f)) : RM T (sE S e (sfl (S.1 e) 3 b)) (hup G 168 (ZA 2 (up f e b))) := by
  have h2 := h.2.2.2.2.2.2.2.2.1.2.2.2.1
  rw [ZA_inj (hc.symm.trans h2)]
  exact h.f3
theorem RM.g4 {e : Nat} {b : Bool} {f : Nat → Bool} (h : RM T S G) (hc : G.1 169 = some (ZA 2 f)) : RM T (sE S e (sfl (S.1 e) 4 b)) (hup G 169 (ZA 2 (up f e b))) := by
  have h2 := h.2.2.2.2.2.2.2.2.1.2.2.2.2.1
  rw [ZA_inj (hc.symm.trans h2)]
  exact h.f4
theorem RM.g5 {e : Nat} {b : Bool} {f : Nat → Bool} (h : RM T S G) (hc : G.1 170 = some (ZA 2 f)) : RM T (sE S e (sfl (S.1 e) 5 b)) (hup G 170 (ZA 2 (up f e b))) := by
  have h2 := h.2.2.2.2.2.2.2.2.1.2.2.2.2.2.1
  rw [ZA_inj (hc.symm.trans h2)]
  exact h.f5
theorem RM.g6 {e : Nat} {b : Bool} {f : Nat → Bool} (h : RM T S G) (hc : G.1 162 = some (ZA 2 f)) : RM T (sE S e (sfl (S.1 e) 6 b)) (hup G 162 (ZA 2 (up f e b))) := by
  have h2 := h.2.2.2.2.2.2.2.2.1.2.2.2.2.2.2.1
  rw [ZA_inj (hc.symm.trans h2)]
  exact h.f6
theorem RM.g7 {e : Nat} {b : Bool} {f : Nat → Bool} (h : RM T S G) (hc : G.1 163 = some (ZA 2 f)) : RM T (sE S e (sfl (S.1 e) 7 b)) (hup G 163 (ZA 2 (up f e b))) := by
  have h2 := h.2.2.2.2.2.2.2.2.1.2.2.2.2.2.2.2
  rw [ZA_inj (hc.symm.trans h2)]
  exact h.f7
theorem RM.g0 {e : Nat} {b : Bool} {f : Nat → Bool} (h : RM T S G) (hc : G.1 164 = some (ZA 2 f)) : RM T (sE S e (sfl (S.1 e) 0 b)) (hup G 164 (ZA 2 (up f e (!b)))) := by
  have h2 := h.2.2.2.2.2.2.2.2.1.1
  rw [ZA_inj (hc.symm.trans h2)]
  exact h.f0
def hpl (m : Nat) : Bool := decide (m = 20 ∨ m = 21 ∨ m = 30 ∨ m = 31 ∨ m = 94)
theorem c_mhasPlace {m : Nat} (hm : m < 2 ^ 31) (hq : Q (.inl (some (.int (bI (hpl m))))) G) : C K 0 0 mX12_hasPlace [.int (nI m)] G Q := by
  refine C_of okX12_hasPlace (Nat.le_of_ble_eq_true rfl) ?_
  have y : (m = 20 ∨ m = 21 ∨ m = 30 ∨ m = 31 ∨ m = 94) → V K 0 0 mX12_hasPlace 30 (kla [.int (nI m)]) [] G Q := fun z => by
    refine V_iconst (v := bI true) rfl (by decide) ?_
    refine V_goto rfl ?_
    rw [show hpl m = true from decide_eq_true z] at hq
    exact V_zret rfl rfl (bI_01 _) hq
  refine V_iload_n rfl (by first | rfl | assumption) ?_
  refine V_bipush (v := nI 20) rfl (by decide) ?_
  refine V_icmp_eqN rfl hm (by decide) (fun z => y (by omega)) (fun z1 => ?_)
  refine V_iload_n rfl (by first | rfl | assumption) ?_
  refine V_bipush (v := nI 21) rfl (by decide) ?_
  refine V_icmp_eqN rfl hm (by decide) (fun z => y (by omega)) (fun z2 => ?_)
  refine V_iload_n rfl (by first | rfl | assumption) ?_
  refine V_bipush (v := nI 30) rfl (by decide) ?_
  refine V_icmp_eqN rfl hm (by decide) (fun z => y (by omega)) (fun z3 => ?_)
  refine V_iload_n rfl (by first | rfl | assumption) ?_
  refine V_bipush (v := nI 31) rfl (by decide) ?_
  refine V_icmp_eqN rfl hm (by decide) (fun z => y (by omega)) (fun z4 => ?_)
  refine V_iload_n rfl (by first | rfl | assumption) ?_
  refine V_bipush (v := nI 94) rfl (by decide) ?_
  refine V_icmp_neN rfl hm (by decide) (fun z => ?_) (fun z => y (by omega))
  refine V_iconst (v := bI false) rfl (by decide) ?_
  rw [show hpl m = false from decide_eq_false (by omega)] at hq
  exact V_zret rfl rfl (bI_01 _) hq
abbrev PF9 (j : Nat) : Prop := j = 160 ∨ (162 ≤ j ∧ j ≤ 172)
set_option maxHeartbeats 8000000 in
theorem c_mnew {e : Nat} {c : List Nat} (he : e < 2) (g140 : G.1 140 = some (MO th ta os hs ps (nI c.length))) (hcl : c.length ≤ 200) (hR : RM T S G)
    (hq1 : ¬ (c.length = 1 ∧ fl (S.1 e) 5 = true) → Q (.inl (some (.int (bI false)))) G)
    (hq2 : (c.length = 1 ∧ fl (S.1 e) 5 = true) → ∀ G', FP PF9 G G' → RM T (sE S e (fin (S.1 e))) G' → Q (.inl (some (.int (bI true)))) G') : C K 0 0 mX12_newComes [.ref 140, .int (nI e)] G Q := by
  obtain ⟨f0, f1, f2, f3, f4, f5, f6, f7⟩ := id hR.2.2.2.2.2.2.2.2.1
  obtain ⟨n0, n1, n2, n3⟩ := id hR.2.2.2.2.2.2.2.2.2
  obtain ⟨kf, g160, hkb, hkf⟩ := id hR.2.2.2.2.1
  obtain ⟨NK, g161, hNb, hN⟩ := id hR.2.2.2.2.2.1
  refine C_of okX12_newComes (Nat.le_of_ble_eq_true rfl) ?_
  have bad : ¬ (c.length = 1 ∧ fl (S.1 e) 5 = true) → V K 0 0 mX12_newComes 17 (kla [.ref 140, .int (nI e)]) [] G Q := fun z => by
    refine V_iconst (v := bI false) rfl (by decide) ?_
    exact V_zret rfl rfl (bI_01 _) (hq1 z)
  refine V_aload_n rfl (by first | rfl | assumption) ?_
  refine V_getf rfl rfl rfl (by repeat (first | exact hup_eq | assumption | refine Eq.trans (hup_ne (by first | assumption | exact Ne.symm (by assumption) | decide | omega)) ?_)) (by first | rfl | assumption) ?_
  refine V_iload_n rfl (by first | rfl | assumption) ?_
  refine V_zaldZ rfl (by repeat (first | exact hup_eq | assumption | refine Eq.trans (hup_ne (by first | assumption | exact Ne.symm (by assumption) | decide | omega)) ?_)) rfl (by first | omega | decide) (by first | omega | decide) ?_
  refine V_if_eqB rfl (fun z => bad (fun q => by rw [z] at q; cases q.2)) (fun z1 => ?_)
  refine V_aload_n rfl (by first | rfl | assumption) ?_
  refine V_getf rfl rfl rfl (by repeat (first | exact hup_eq | assumption | refine Eq.trans (hup_ne (by first | assumption | exact Ne.symm (by assumption) | decide | omega)) ?_)) (by first | rfl | assumption) ?_
  refine V_iconst (v := nI 1) rfl (by decide) ?_
  refine V_icmp_eqN rfl (by omega) (by decide) (fun z2 => ?_) (fun z => bad (fun q => z q.1))
  clear bad
  have hq2 := hq2 ⟨z2, z1⟩
  refine V_aload_n rfl (by first | rfl | assumption) ?_
  refine V_getf rfl rfl rfl (by repeat (first | exact hup_eq | assumption | refine Eq.trans (hup_ne (by first | assumption | exact Ne.symm (by assumption) | decide | omega)) ?_)) (by first | rfl | assumption) ?_
  refine V_iload_n rfl (by first | rfl | assumption) ?_
  refine V_iconst (v := nI 1) rfl (by decide) ?_
  refine V_zastZ true rfl (by repeat (first | exact hup_eq | assumption | refine Eq.trans (hup_ne (by first | assumption | exact Ne.symm (by assumption) | decide | omega)) ?_)) (by decide) rfl (by first | omega | decide) (by first | omega | decide) ?_
  refine V_bipush (v := nI 64) rfl (by decide) ?_
  refine V_istore_n rfl (by decide) ?_
  have hR1 := hR.g7 (e := e) (b := true) f7
  obtain ⟨G1, hG1⟩ : ∃ G1, G1 = hup G 163 (ZA 2 (up (fun j => fl (S.1 j) 7) e true)) := ⟨_, rfl⟩
  rw [← hG1] at hR1 ⊢
  have F1 : FP PF9 G G1 := by rw [hG1]; exact FP.rf.hup (by decide)
  have k160 : G1.1 160 = some (YA 256 kf) := by rw [hG1]; exact (hup_ne (by decide)).trans g160
  have k161 : G1.1 161 = some (YA 256 NK) := by rw [hG1]; exact (hup_ne (by decide)).trans g161
  have k140 : G1.1 140 = some (MO th ta os hs ps (nI c.length)) := by rw [hG1]; exact (hup_ne (by decide)).trans g140
  have k167 : G1.1 167 = some (ZA 2 (fun j => fl (S.1 j) 2)) := by rw [hG1]; exact (hup_ne (by decide)).trans f2
  have k168 : G1.1 168 = some (ZA 2 (fun j => fl (S.1 j) 3)) := by rw [hG1]; exact (hup_ne (by decide)).trans f3
  have k169 : G1.1 169 = some (ZA 2 (fun j => fl (S.1 j) 4)) := by rw [hG1]; exact (hup_ne (by decide)).trans f4
  have k170 : G1.1 170 = some (ZA 2 (fun j => fl (S.1 j) 5)) := by rw [hG1]; exact (hup_ne (by decide)).trans f5
  have k171 : G1.1 171 = some (BA 2 (fun j => nm (S.1 j) 2)) := by rw [hG1]; exact (hup_ne (by decide)).trans n2
  clear hG1
  refine V_loop 64 (fun i lc G' => lc 0 = some (.ref 140) ∧ lc 1 = some (.int (nI e)) ∧ lc 2 = some (.int (nI (64 + i))) ∧ G' = hup G1 160 (YA 256 (ovw kf (128 * e + 64) i (fun k => NK (128 * e + 64 + k))))) ?_ ?_ 0 _ _ (Nat.zero_le _) ⟨rfl, rfl, rfl, by rw [ovw_0, hup_same k160]⟩
  · rintro i lc G' hi ⟨l0, l1, l2, rfl⟩ ih
    have hb := hNb (128 * e + (64 + i))
    refine V_iload_n rfl (by first | rfl | assumption) ?_
    refine V_sipush (v := nI 128) rfl (by decide) ?_
    refine V_icmp_geN rfl (by omega) (by decide) (fun h => absurd h (by omega)) (fun _ => ?_)
    refine V_aload_n rfl (by first | rfl | assumption) ?_
    refine V_getf rfl rfl rfl (by repeat (first | exact hup_eq | assumption | refine Eq.trans (hup_ne (by first | assumption | exact Ne.symm (by assumption) | decide | omega)) ?_)) (by first | rfl | assumption) ?_
    refine V_sipush (v := nI 128) rfl (by decide) ?_
    refine V_iload_n rfl (by first | rfl | assumption) ?_
    refine V_imulN rfl ?_
    refine V_iload_n rfl (by first | rfl | assumption) ?_
    refine V_iaddN rfl ?_
    refine V_aload_n rfl (by first | rfl | assumption) ?_
    refine V_getf rfl rfl rfl (by repeat (first | exact hup_eq | assumption | refine Eq.trans (hup_ne (by first | assumption | exact Ne.symm (by assumption) | decide | omega)) ?_)) (by first | rfl | assumption) ?_
    refine V_sipush (v := nI 128) rfl (by decide) ?_
    refine V_iload_n rfl (by first | rfl | assumption) ?_
    refine V_imulN rfl ?_
    refine V_iload_n rfl (by first | rfl | assumption) ?_
    refine V_iaddN rfl ?_
    refine V_baldB rfl (by repeat (first | exact hup_eq | assumption | refine Eq.trans (hup_ne (by first | assumption | exact Ne.symm (by assumption) | decide | omega)) ?_)) rfl (by first | omega | decide) (by first | omega | decide) ?_
    refine V_bastB rfl (by repeat (first | exact hup_eq | assumption | refine Eq.trans (hup_ne (by first | assumption | exact Ne.symm (by assumption) | decide | omega)) ?_)) rfl (by first | omega | decide) (by first | omega | decide) (by first | assumption | solve_by_elim | exact Nat.mod_lt _ (by decide) | omega) ?_
    refine V_iincN (d := 1) rfl (by first | rfl | assumption) (by decide) (by decide) ?_
    refine V_goto rfl ?_
    rw [hup_hup, show 128 * e + (64 + i) = 128 * e + 64 + i from (Nat.add_assoc _ _ _).symm, ovw_s' (g := fun k => NK (128 * e + 64 + k)) (by rfl)]
    exact ih _ _ ⟨l0, l1, rfl, rfl⟩
  · rintro lc G' ⟨l0, l1, l2, rfl⟩
    refine V_iload_n rfl (by first | rfl | assumption) ?_
    refine V_sipush (v := nI 128) rfl (by decide) ?_
    refine V_icmp_geN rfl (by decide) (by decide) (fun _ => ?_) (fun h => absurd (by decide) h)
    obtain ⟨S1, hS1⟩ : ∃ S1, S1 = sE S e (sfl (S.1 e) 7 true) := ⟨_, rfl⟩
    have hS1e : S1.1 e = sfl (S.1 e) 7 true := by rw [hS1, sE_e]
    have hS1n : ∀ i, i ≠ e → S1.1 i = S.1 i := fun i hi => by rw [hS1, sE_n hi]
    rw [← hS1] at hR1
    have hR2 : RM T (sE S1 e (srw (srw (S1.1 e) 8 (rw9 (S.1 e) 10)) 9 (rw9 (S.1 e) 11))) (hup G1 160 (YA 256 (ovw kf (128 * e + 64) 64 (fun k => NK (128 * e + 64 + k))))) := by
      refine hR1.r160 (fun j _ _ h => hup_ne h) (rwo_sE2 ⟨rfl, rfl, rfl, rfl, rfl⟩) (fun i j hi => congrFun (pj_same (S := S1) (fun s => rw9 s i) (by show (if i = 9 then _ else if i = 8 then _ else _) = _; rw [if_neg (by omega), if_neg (by omega)])) j) rfl ⟨_, hup_eq, ovw_lt hkb (fun j _ => hNb _), fun i hi j hj => ?_⟩
      by_cases x : i = e
      · subst x
        have h9 := hkf i hi j hj
        have h10 := hN i hi j hj
        rw [sE_e, hS1e]
        refine ⟨?_, ?_, ?_, ?_⟩
        · rw [ovw_out (by omega)]; exact h9.1
        · rw [ovw_out (by omega)]; exact h9.2.1
        · rw [ovw_in (by omega)]; exact h10.1
        · rw [show 128 * i + 96 + j = 128 * i + 64 + (32 + j) by omega, ovw_in (by omega), ← Nat.add_assoc]; exact h10.2
      · rw [sE_n x, hS1n i x, ovw_out (by omega), ovw_out (by omega), ovw_out (by omega), ovw_out (by omega)]
        exact hkf i hi j hj
    refine V_aload_n rfl (by first | rfl | assumption) ?_
    refine V_getf rfl rfl rfl (by repeat (first | exact hup_eq | assumption | refine Eq.trans (hup_ne (by first | assumption | exact Ne.symm (by assumption) | decide | omega)) ?_)) (by first | rfl | assumption) ?_
    refine V_iload_n rfl (by first | rfl | assumption) ?_
    refine V_iconst (v := nI 0) rfl (by decide) ?_
    refine V_zastZ false rfl (by repeat (first | exact hup_eq | assumption | refine Eq.trans (hup_ne (by first | assumption | exact Ne.symm (by assumption) | decide | omega)) ?_)) (by decide) rfl (by first | omega | decide) (by first | omega | decide) ?_
    refine V_aload_n rfl (by first | rfl | assumption) ?_
    refine V_getf rfl rfl rfl (by repeat (first | exact hup_eq | assumption | refine Eq.trans (hup_ne (by first | assumption | exact Ne.symm (by assumption) | decide | omega)) ?_)) (by first | rfl | assumption) ?_
    refine V_iload_n rfl (by first | rfl | assumption) ?_
    refine V_iconst (v := nI 0) rfl (by decide) ?_
    refine V_zastZ false rfl (by repeat (first | exact hup_eq | assumption | refine Eq.trans (hup_ne (by first | assumption | exact Ne.symm (by assumption) | decide | omega)) ?_)) (by decide) rfl (by first | omega | decide) (by first | omega | decide) ?_
    refine V_aload_n rfl (by first | rfl | assumption) ?_
    refine V_getf rfl rfl rfl (by repeat (first | exact hup_eq | assumption | refine Eq.trans (hup_ne (by first | assumption | exact Ne.symm (by assumption) | decide | omega)) ?_)) (by first | rfl | assumption) ?_
    refine V_iload_n rfl (by first | rfl | assumption) ?_
    refine V_iconst (v := nI 0) rfl (by decide) ?_
    refine V_zastZ false rfl (by repeat (first | exact hup_eq | assumption | refine Eq.trans (hup_ne (by first | assumption | exact Ne.symm (by assumption) | decide | omega)) ?_)) (by decide) rfl (by first | omega | decide) (by first | omega | decide) ?_
    refine V_aload_n rfl (by first | rfl | assumption) ?_
    refine V_getf rfl rfl rfl (by repeat (first | exact hup_eq | assumption | refine Eq.trans (hup_ne (by first | assumption | exact Ne.symm (by assumption) | decide | omega)) ?_)) (by first | rfl | assumption) ?_
    refine V_iload_n rfl (by first | rfl | assumption) ?_
    refine V_iconst (v := nI 0) rfl (by decide) ?_
    refine V_zastZ false rfl (by repeat (first | exact hup_eq | assumption | refine Eq.trans (hup_ne (by first | assumption | exact Ne.symm (by assumption) | decide | omega)) ?_)) (by decide) rfl (by first | omega | decide) (by first | omega | decide) ?_
    refine V_aload_n rfl (by first | rfl | assumption) ?_
    refine V_getf rfl rfl rfl (by repeat (first | exact hup_eq | assumption | refine Eq.trans (hup_ne (by first | assumption | exact Ne.symm (by assumption) | decide | omega)) ?_)) (by first | rfl | assumption) ?_
    refine V_iload_n rfl (by first | rfl | assumption) ?_
    refine V_dup2 rfl rfl rfl ?_
    refine V_ialdN rfl (by repeat (first | exact hup_eq | assumption | refine Eq.trans (hup_ne (by first | assumption | exact Ne.symm (by assumption) | decide | omega)) ?_)) rfl (by first | omega | decide) (by first | omega | decide) ?_
    refine V_iconst (v := nI 1) rfl (by decide) ?_
    refine V_iaddN rfl ?_
    refine V_iastN rfl (by repeat (first | exact hup_eq | assumption | refine Eq.trans (hup_ne (by first | assumption | exact Ne.symm (by assumption) | decide | omega)) ?_)) rfl (by first | omega | decide) (by first | omega | decide) ?_
    refine V_iconst (v := 1) rfl (by decide) ?_
    have hR3 := hR2.g2 (e := e) (b := false) (f := fun j => fl (S.1 j) 2) (by repeat (first | exact hup_eq | assumption | refine Eq.trans (hup_ne (by first | assumption | exact Ne.symm (by assumption) | decide | omega)) ?_))
    have hR4 := hR3.g3 (e := e) (b := false) (f := fun j => fl (S.1 j) 3) (by repeat (first | exact hup_eq | assumption | refine Eq.trans (hup_ne (by first | assumption | exact Ne.symm (by assumption) | decide | omega)) ?_))
    have hR5 := hR4.g4 (e := e) (b := false) (f := fun j => fl (S.1 j) 4) (by repeat (first | exact hup_eq | assumption | refine Eq.trans (hup_ne (by first | assumption | exact Ne.symm (by assumption) | decide | omega)) ?_))
    have hR6 := (hR5.f8 (e := e) (b := false)).g5 (e := e) (b := false) (f := fun j => fl (S.1 j) 5) (by repeat (first | exact hup_eq | assumption | refine Eq.trans (hup_ne (by first | assumption | exact Ne.symm (by assumption) | decide | omega)) ?_))
    have hR7 := hR6.n2 (e := e) (n := nm (S.1 e) 2 + 1)
    simp only [sE_sE, sE_e] at hR7
    have e7 : (fun j => nm ((sE S1 e (sfl (sfl (sfl (sfl (sfl (srw (srw (S1.1 e) 8 (rw9 (S.1 e) 10)) 9 (rw9 (S.1 e) 11)) 2 false) 3 false) 4 false) 8 false) 5 false)).1 j) 2) = fun j => nm (S.1 j) 2 := by
      funext j
      by_cases x : j = e
      · subst x; rw [sE_e, hS1e]; rfl
      · rw [sE_n x, hS1n j x]
    rw [e7, hS1e, hS1, sE_sE] at hR7
    refine V_zret rfl rfl (Or.inr rfl) (hq2 _ ?_ hR7)
    exact ((((((F1.hup (by decide)).hup (by decide)).hup (by decide)).hup (by decide)).hup (by decide)).hup (by decide))
end MPlace
