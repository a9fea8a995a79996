/-! the reference: a packet comes -/
section MComes
variable {K : kK} {G : kG} {Q : kO → kG → Prop} {T : TB} {S : SG} {th ta os hs ps rs : Int32}
/-- what holds of every state that is reached -/
def ivE (S : SG) : Prop := (∀ e, e < 2 → fl (S.1 e) 3 = true → fl (S.1 e) 2 = true) ∧ (fl (S.1 0) 0 = true → fl (S.1 0) 8 = fl (S.1 0) 5)
set_option maxHeartbeats 8000000 in
theorem c_mplaced {e q B : Nat} {c : List Nat} (he : e < 2) (hqt : qtO T.2.2) (g140 : G.1 140 = some (MO th ta os hs ps (nI c.length))) (hcl : 1 ≤ c.length ∧ c.length ≤ 200) (hR : RM T S G) (hrd : rdM c G) (hB : bnd S B) (hB2 : B < 2 ^ 30) (hI3 : ∀ e, e < 2 → fl (S.1 e) 3 = true → fl (S.1 e) 2 = true) (hI8 : e = 0 → fl (S.1 0) 8 = fl (S.1 0) 5) (hp : hpl (gD c 0) = true)
    (hq1 : inP S e c = false → Q (.inl (some (.int (bI false)))) G)
    (hq2 : inP S e c = true → ∀ G' hs' ps', FP PA G G' → G'.1 140 = some (MO th ta os hs' ps' (nI c.length)) → RM T (act T S e c q) G' → Q (.inl (some (.int (bI true)))) G') : C K 0 0 mX12_placed [.ref 140, .int (nI e), .int (nI (gD c 0))] G Q := by
  have hs0 := hB e he 0 (by decide)
  have hs1 := hB 1 (by decide) 0 (by decide)
  obtain ⟨m, hm⟩ : ∃ m, m = gD c 0 := ⟨_, rfl⟩
  have hp : m = 20 ∨ m = 21 ∨ m = 30 ∨ m = 31 ∨ m = 94 := by rw [hm]; exact of_decide_eq_true hp
  rw [← hm]
  refine C_of okX12_placed (Nat.le_of_ble_eq_true rfl) ?_
  refine V_iload_n rfl (by rfl) ?_
  have ret : ∀ {b : Bool} {lc : kLo} {G' : kG} {pc n t : Nat}, kf mX12_placed pc = some (.ireturn, n, t) → Q (.inl (some (.int (bI b)))) G' → V K 0 0 mX12_placed pc lc [.int (bI b)] G' Q := fun h hq => V_zret h rfl (bI_01 _) hq
  rcases hp with h20 | h21 | h30 | h31 | h94
  · have I : inP S e c = (decide (c.length = 9) && !fl (S.1 e) 3) := by unfold inP; rw [if_pos (by omega)]
    have A : act T S e c q = onI T S e c := by unfold act; rw [if_neg (by omega), if_neg (by omega), if_neg (by omega), if_pos (by omega)]
    rw [h20]
    refine V_lookupN rfl (by decide) (by decide) (o := 43) rfl (g := 44) (by decide) ?_
    refine V_aload_n rfl (by first | rfl | assumption) ?_
    refine V_iload_n rfl (by first | rfl | assumption) ?_
    refine V_callV (M' := mX12_initComes) (mc := 0) (ms := 0) (bc' := 0) (bs' := 0) rfl cw_X12_339 iv_X12_initComes (by repeat (first | exact hup_eq | assumption | refine Eq.trans (hup_ne (by first | assumption | exact Ne.symm (by assumption) | decide | omega)) ?_)) rfl rfl (Nat.le_of_ble_eq_true rfl) ⟨Nat.le_of_ble_eq_true rfl, Nat.le_of_ble_eq_true rfl⟩ ⟨Nat.le_of_ble_eq_true rfl, Nat.le_of_ble_eq_true rfl⟩ (As := [.int (nI e)]) (c_minitC (Q := fun o G1 => (o = .inl (some (.int (bI false))) ∧ inP S e c = false ∧ G1 = G) ∨ (o = .inl (some (.int (bI true))) ∧ inP S e c = true ∧ ∃ hs' ps', FP PA G G1 ∧ G1.1 140 = some (MO th ta os hs' ps' (nI c.length)) ∧ RM T (act T S e c q) G1)) he hqt g140 hcl.2 hR hrd (by omega) (fun z => Or.inl ⟨rfl, ?_, rfl⟩) (fun z G1 hs' ps' h1 h2 h3 => Or.inr ⟨rfl, ?_, hs', ps', h1, h2, by rw [A]; exact h3⟩)) (fun o G1 h => ?_) (fun E G' h => by rcases h with h | h <;> cases h.1)
    · rw [I]
      by_cases x : c.length = 9
      · cases y : fl (S.1 e) 3
        · exact absurd ⟨x, y⟩ z
        · simp
      · simp [x]
    · rw [I, decide_eq_true z.1, z.2]; rfl
    · rcases h with ⟨h, h1, rfl⟩ | ⟨h, h1, hs', ps', h2, h3, h4⟩
      · cases h; exact ret rfl (hq1 h1)
      · cases h; exact ret rfl (hq2 h1 _ _ _ h2 h3 h4)
  · have I : inP S e c = (decide (c.length = 1) && fl (S.1 e) 5) := by unfold inP; rw [if_neg (by omega), if_pos (by omega)]
    have A : act T S e c q = sE S e (fin (S.1 e)) := by unfold act; rw [if_neg (by omega), if_neg (by omega), if_neg (by omega), if_neg (by omega), if_pos (by omega)]
    rw [h21]
    refine V_lookupN rfl (by decide) (by decide) (o := 101) rfl (g := 102) (by decide) ?_
    refine V_aload_n rfl (by first | rfl | assumption) ?_
    refine V_iload_n rfl (by first | rfl | assumption) ?_
    refine V_callV (M' := mX12_newComes) (mc := 0) (ms := 0) (bc' := 0) (bs' := 0) rfl cw_X12_348 iv_X12_newComes (by repeat (first | exact hup_eq | assumption | refine Eq.trans (hup_ne (by first | assumption | exact Ne.symm (by assumption) | decide | omega)) ?_)) rfl rfl (Nat.le_of_ble_eq_true rfl) ⟨Nat.le_of_ble_eq_true rfl, Nat.le_of_ble_eq_true rfl⟩ ⟨Nat.le_of_ble_eq_true rfl, Nat.le_of_ble_eq_true rfl⟩ (As := [.int (nI e)]) (c_mnew (c := c) (Q := fun o G1 => (o = .inl (some (.int (bI false))) ∧ inP S e c = false ∧ G1 = G) ∨ (o = .inl (some (.int (bI true))) ∧ inP S e c = true ∧ FP PF9 G G1 ∧ RM T (act T S e c q) G1)) he g140 hcl.2 hR (fun z => Or.inl ⟨rfl, ?_, rfl⟩) (fun z G1 h1 h3 => Or.inr ⟨rfl, ?_, h1, by rw [A]; exact h3⟩)) (fun o G1 h => ?_) (fun E G' h => by rcases h with h | h <;> cases h.1)
    · rw [I]
      by_cases x : c.length = 1
      · cases y : fl (S.1 e) 5
        · simp
        · exact absurd ⟨x, y⟩ z
      · simp [x]
    · rw [I, decide_eq_true z.1, z.2]; rfl
    · rcases h with ⟨h, h1, rfl⟩ | ⟨h, h1, h2, h4⟩
      · cases h; exact ret rfl (hq1 h1)
      · cases h; exact ret rfl (hq2 h1 _ _ _ (h2.sub (fun x hx => by show _ ∨ _; omega)) (h2.get (by decide) g140) h4)
  · have I : inP S e c = (decide (c.length = 33) && decide (e = 1) && fl (S.1 e) 2 && fl (S.1 e) 3 && !fl (S.1 e) 4) := by unfold inP; rw [if_neg (by omega), if_neg (by omega), if_pos (by omega)]
    have A : act T S e c q = onR T S c := by unfold act; rw [if_neg (by omega), if_neg (by omega), if_neg (by omega), if_neg (by omega), if_neg (by omega), if_pos (by omega)]
    rw [h30]
    refine V_lookupN rfl (by decide) (by decide) (o := 49) rfl (g := 50) (by decide) ?_
    have f3 := hR.2.2.2.2.2.2.2.2.1.2.2.2.1
    have f4 := hR.2.2.2.2.2.2.2.2.1.2.2.2.2.1
    have bad : inP S e c = false → V K 0 0 mX12_placed 81 (kla [.ref 140, .int (nI e), .int (nI 30)]) [] G Q := fun z => by
      refine V_iconst (v := bI false) rfl (by decide) ?_
      exact ret rfl (hq1 z)
    refine V_iload_n rfl (by rfl) ?_
    refine V_if_eqN rfl (by omega) (fun z => bad (by rw [I, z]; simp)) (fun z0 => ?_)
    have he1 : e = 1 := by omega
    subst he1
    refine V_aload_n rfl (by first | rfl | assumption) ?_
    refine V_getf rfl rfl rfl (by repeat (first | exact hup_eq | assumption | refine Eq.trans (hup_ne (by first | assumption | exact Ne.symm (by assumption) | decide | omega)) ?_)) (by first | rfl | assumption) ?_
    refine V_iconst (v := nI 1) rfl (by decide) ?_
    refine V_zaldZ rfl (by repeat (first | exact hup_eq | assumption | refine Eq.trans (hup_ne (by first | assumption | exact Ne.symm (by assumption) | decide | omega)) ?_)) rfl (by first | omega | decide) (by first | omega | decide) ?_
    refine V_if_eqB rfl (fun z => bad (by rw [I, z]; simp)) (fun z1 => ?_)
    refine V_aload_n rfl (by first | rfl | assumption) ?_
    refine V_getf rfl rfl rfl (by repeat (first | exact hup_eq | assumption | refine Eq.trans (hup_ne (by first | assumption | exact Ne.symm (by assumption) | decide | omega)) ?_)) (by first | rfl | assumption) ?_
    refine V_iconst (v := nI 1) rfl (by decide) ?_
    refine V_zaldZ rfl (by repeat (first | exact hup_eq | assumption | refine Eq.trans (hup_ne (by first | assumption | exact Ne.symm (by assumption) | decide | omega)) ?_)) rfl (by first | omega | decide) (by first | omega | decide) ?_
    refine V_if_neB rfl (fun z => bad (by rw [I, z]; simp)) (fun z2 => ?_)
    refine V_aload_n rfl (by first | rfl | assumption) ?_
    refine V_getf rfl rfl rfl (by repeat (first | exact hup_eq | assumption | refine Eq.trans (hup_ne (by first | assumption | exact Ne.symm (by assumption) | decide | omega)) ?_)) (by first | rfl | assumption) ?_
    refine V_bipush (v := nI 33) rfl (by decide) ?_
    refine V_icmp_eqN rfl (by omega) (by decide) (fun z3 => ?_) (fun z => bad (by rw [I, decide_eq_false z]; rfl))
    clear bad
    have I1 : inP S 1 c = true := by rw [I, z1, z2, decide_eq_true z3, hI3 1 (by decide) z1]; rfl
    have hq2 := hq2 I1
    rw [A, onR_0] at hq2
    refine V_aload_n rfl (by first | rfl | assumption) ?_
    refine V_getf rfl rfl rfl (by repeat (first | exact hup_eq | assumption | refine Eq.trans (hup_ne (by first | assumption | exact Ne.symm (by assumption) | decide | omega)) ?_)) (by first | rfl | assumption) ?_
    refine V_iconst (v := nI 1) rfl (by decide) ?_
    refine V_iconst (v := nI 1) rfl (by decide) ?_
    refine V_zastZ true rfl (by repeat (first | exact hup_eq | assumption | refine Eq.trans (hup_ne (by first | assumption | exact Ne.symm (by assumption) | decide | omega)) ?_)) (by decide) rfl (by first | omega | decide) (by first | omega | decide) ?_
    refine V_aload_n rfl (by first | rfl | assumption) ?_
    have hR1 := hR.g4 (e := 1) (b := true) f4
    have hn1 : nm ((sE S 1 (sfl (S.1 1) 4 true)).1 1) 0 = nm (S.1 1) 0 := by rw [sE_e]; rfl
    refine V_callV (M' := mX12_answer) (mc := 0) (ms := 0) (bc' := 0) (bs' := 0) rfl cw_X12_342 iv_X12_answer (by repeat (first | exact hup_eq | assumption | refine Eq.trans (hup_ne (by first | assumption | exact Ne.symm (by assumption) | decide | omega)) ?_)) rfl rfl (Nat.le_of_ble_eq_true rfl) ⟨Nat.le_of_ble_eq_true rfl, Nat.le_of_ble_eq_true rfl⟩ ⟨Nat.le_of_ble_eq_true rfl, Nat.le_of_ble_eq_true rfl⟩ (As := []) (c_manswer (S := sE S 1 (sfl (S.1 1) 4 true)) (c := c) (Q := fun o G1 => o = .inl none ∧ ∃ hs' ps', FP PA (hup G 169 (ZA 2 (up (fun j => fl (S.1 j) 4) 1 true))) G1 ∧ G1.1 140 = some (MO th ta os hs' ps' (nI c.length)) ∧ RM T (onR0 T (sE S 1 (sfl (S.1 1) 4 true)) c) G1) hqt ((hup_ne (by decide)).trans g140) hR1 (hrd.fp (hup_ne (by decide))) z3 (by rw [hn1]; omega) (fun G1 hs' ps' h1 h2 h3 => ⟨rfl, hs', ps', h1, h2, h3⟩)) (fun o G1 h => ?_) (fun E G' h => by cases h.1)
    obtain ⟨h, hs', ps', F1, k140, hR2⟩ := h
    cases h
    refine V_iconst (v := bI true) rfl (by decide) ?_
    have F0 : FP PA G (hup G 169 (ZA 2 (up (fun j => fl (S.1 j) 4) 1 true))) := FP.rf.hup (by decide)
    exact ret rfl (hq2 _ _ _ (F0.trans F1 (fun _ q => q)) k140 hR2)
  · have I : inP S e c = (decide (c.length = 97) && decide (e = 0) && fl (S.1 e) 4 && !fl (S.1 e) 8) := by unfold inP; rw [if_neg (by omega), if_neg (by omega), if_neg (by omega), if_pos (by omega)]
    have A : act T S e c q = aRp T S c := by unfold act; rw [if_neg (by omega), if_neg (by omega), if_neg (by omega), if_neg (by omega), if_neg (by omega), if_neg (by omega), if_pos (by omega)]
    rw [h31]
    refine V_lookupN rfl (by decide) (by decide) (o := 95) rfl (g := 96) (by decide) ?_
    refine V_aload_n rfl (by first | rfl | assumption) ?_
    refine V_iload_n rfl (by first | rfl | assumption) ?_
    refine V_callV (M' := mX12_replyComes) (mc := 0) (ms := 0) (bc' := 0) (bs' := 0) rfl cw_X12_345 iv_X12_replyComes (by repeat (first | exact hup_eq | assumption | refine Eq.trans (hup_ne (by first | assumption | exact Ne.symm (by assumption) | decide | omega)) ?_)) rfl rfl (Nat.le_of_ble_eq_true rfl) ⟨Nat.le_of_ble_eq_true rfl, Nat.le_of_ble_eq_true rfl⟩ ⟨Nat.le_of_ble_eq_true rfl, Nat.le_of_ble_eq_true rfl⟩ (As := [.int (nI e)]) (c_mreply (Q := fun o G1 => (o = .inl (some (.int (bI false))) ∧ inP S e c = false ∧ G1 = G) ∨ (o = .inl (some (.int (bI true))) ∧ inP S e c = true ∧ ∃ hs' ps', FP PA G G1 ∧ G1.1 140 = some (MO th ta os hs' ps' (nI c.length)) ∧ RM T (act T S e c q) G1)) he hqt g140 hcl.2 hR hrd (by omega) (fun z => Or.inl ⟨rfl, ?_, rfl⟩) (fun z G1 hs' ps' h1 h2 h3 => Or.inr ⟨rfl, ?_, hs', ps', h1, h2, by rw [A]; exact h3⟩)) (fun o G1 h => ?_) (fun E G' h => by rcases h with h | h <;> cases h.1)
    · rw [I]
      by_cases x : c.length = 97
      · by_cases y : e = 0
        · subst y
          rw [hI8 rfl]
          cases u : fl (S.1 0) 4
          · simp
          · cases v : fl (S.1 0) 5
            · exact absurd ⟨x, rfl, u, v⟩ z
            · simp
        · simp [y]
      · simp [x]
    · obtain ⟨w1, w2, w3, w4⟩ := z
      subst w2
      rw [I, hI8 rfl, w3, w4, decide_eq_true w1]; rfl
    · rcases h with ⟨h, h1, rfl⟩ | ⟨h, h1, hs', ps', h2, h3, h4⟩
      · cases h; exact ret rfl (hq1 h1)
      · cases h; exact ret rfl (hq2 h1 _ _ _ h2 h3 h4)
  · have I : inP S e c = (!fl (S.1 e) 3 && decide ((gt (S.1 e)).length + c.length - 1 ≤ 2000)) := by unfold inP; rw [if_neg (by omega), if_neg (by omega), if_neg (by omega), if_neg (by omega), if_pos (by omega)]
    have A : act T S e c q = sE S e (sgt (S.1 e) (gt (S.1 e) ++ c.drop 1)) := by unfold act; rw [if_neg (by omega), if_neg (by omega), if_neg (by omega), if_neg (by omega), if_neg (by omega), if_neg (by omega), if_neg (by omega), if_pos (by omega)]
    rw [h94]
    refine V_lookupN rfl (by decide) (by decide) (o := 107) rfl (g := 108) (by decide) ?_
    refine V_aload_n rfl (by first | rfl | assumption) ?_
    refine V_iload_n rfl (by first | rfl | assumption) ?_
    refine V_callV (M' := mX12_dataComes) (mc := 0) (ms := 0) (bc' := 0) (bs' := 0) rfl cw_X12_351 iv_X12_dataComes (by repeat (first | exact hup_eq | assumption | refine Eq.trans (hup_ne (by first | assumption | exact Ne.symm (by assumption) | decide | omega)) ?_)) rfl rfl (Nat.le_of_ble_eq_true rfl) ⟨Nat.le_of_ble_eq_true rfl, Nat.le_of_ble_eq_true rfl⟩ ⟨Nat.le_of_ble_eq_true rfl, Nat.le_of_ble_eq_true rfl⟩ (As := [.int (nI e)]) (c_mdata (c := c) (Q := fun o G1 => (o = .inl (some (.int (bI false))) ∧ inP S e c = false ∧ G1 = G) ∨ (o = .inl (some (.int (bI true))) ∧ inP S e c = true ∧ FP (fun j => j = 174 ∨ j = 175) G G1 ∧ RM T (act T S e c q) G1)) he g140 hcl hR hrd (fun z => Or.inl ⟨rfl, ?_, rfl⟩) (fun z G1 h1 h3 => Or.inr ⟨rfl, ?_, h1, by rw [A]; exact h3⟩)) (fun o G1 h => ?_) (fun E G' h => by rcases h with h | h <;> cases h.1)
    · rw [I]
      cases y : fl (S.1 e) 3
      · by_cases x : (gt (S.1 e)).length + c.length - 1 ≤ 2000
        · exact absurd ⟨y, x⟩ z
        · rw [decide_eq_false x]; rfl
      · rfl
    · rw [I, decide_eq_true z.2, z.1]; rfl
    · rcases h with ⟨h, h1, rfl⟩ | ⟨h, h1, h2, h4⟩
      · cases h; exact ret rfl (hq1 h1)
      · cases h; exact ret rfl (hq2 h1 _ _ _ (h2.sub (fun x hx => by show _ ∨ _; omega)) (h2.get (by decide) g140) h4)
theorem dl2_some {e q : Nat} {p : List Nat} : dl2 T S e q (some p) = if inP S e p = true then (nI (gD p 0), act T S e p q) else (-3, gvu T S e) := rfl
def ct4 (i : Nat) : Int32 := if i < 4 then nI (24 - 8 * i) else -8
def bq (q i : Nat) : Nat := q / 2 ^ (24 - 8 * i) % 2 ^ 8
set_option maxHeartbeats 16000000 in
theorem c_mcomes {e B : Nat} (he : e < 2) (hqt : qtO T.2.2) (g140 : G.1 140 = some (MO th ta os hs ps rs)) (hR : RM T S G) (hB : bnd S B) (hB2 : B < 2 ^ 29) (hI : ivE S)
    (hq : ∀ G' hs' ps' rs', FP (fun j => 140 ≤ j ∧ j ≤ 183 ∧ j ≠ 141 ∧ j ≠ 142) G G' → G'.1 140 = some (MO th ta os hs' ps' rs') → RM T (dlv T S e).2 G' → Q (.inl (some (.int (dlv T S e).1))) G') : C K 0 0 mX12_comes [.ref 140, .int (nI e)] G Q := by
  have hs0 := hB e he 0 (by decide)
  have hs1 := hB e he 1 (by decide)
  have w176 := hR.2.2.2.2.2.2.2.1.1
  obtain ⟨z, w, g177, g178, hwb, hz⟩ := id hR.2.2.2.2.2.2.2.1.2
  have f0 := hR.2.2.2.2.2.2.2.2.1.1
  have hz12 := (hz e he).1
  refine C_of okX12_comes (Nat.le_of_ble_eq_true rfl) ?_
  refine V_aload_n rfl (by first | rfl | assumption) ?_
  refine V_getf rfl rfl rfl (by repeat (first | exact hup_eq | assumption | refine Eq.trans (hup_ne (by first | assumption | exact Ne.symm (by assumption) | decide | omega)) ?_)) (by first | rfl | assumption) ?_
  refine V_iload_n rfl (by first | rfl | assumption) ?_
  refine V_ialdN rfl (by repeat (first | exact hup_eq | assumption | refine Eq.trans (hup_ne (by first | assumption | exact Ne.symm (by assumption) | decide | omega)) ?_)) rfl (by first | omega | decide) (by first | omega | decide) ?_
  refine V_if_neN rfl (by omega) (fun z0 => ?_) (fun z0 => ?_)
  rotate_left
  · have U : dlv T S e = (-1, S) := by unfold dlv; rw [if_pos z0]
    rw [U] at hq
    refine V_iconst (v := -1) rfl (by decide) ?_
    exact V_iret rfl rfl (hq _ _ _ _ FP.rf g140 hR)
  refine V_aload_n rfl (by first | rfl | assumption) ?_
  refine V_getf rfl rfl rfl (by repeat (first | exact hup_eq | assumption | refine Eq.trans (hup_ne (by first | assumption | exact Ne.symm (by assumption) | decide | omega)) ?_)) (by first | rfl | assumption) ?_
  refine V_iload_n rfl (by first | rfl | assumption) ?_
  refine V_zaldZ rfl (by repeat (first | exact hup_eq | assumption | refine Eq.trans (hup_ne (by first | assumption | exact Ne.symm (by assumption) | decide | omega)) ?_)) rfl (by first | omega | decide) (by first | omega | decide) ?_
  refine V_if_eqB rfl (fun z1 => ?_) (fun z1 => ?_)
  rotate_left
  · have hf : fl (S.1 e) 0 = false := by cases h : fl (S.1 e) 0; rfl; rw [h] at z1; cases z1
    have U : dlv T S e = (-4, sE S e (swi (S.1 e) ((wi (S.1 e)).drop 1))) := by unfold dlv; rw [if_neg z0, if_pos hf]
    rw [U] at hq
    refine V_aload_n rfl (by first | rfl | assumption) ?_
    refine V_iload_n rfl (by first | rfl | assumption) ?_
    refine V_callV (M' := mX12_dropFirst) (mc := 0) (ms := 0) (bc' := 0) (bs' := 0) rfl cw_X12_316 iv_X12_dropFirst (by repeat (first | exact hup_eq | assumption | refine Eq.trans (hup_ne (by first | assumption | exact Ne.symm (by assumption) | decide | omega)) ?_)) rfl rfl (Nat.le_of_ble_eq_true rfl) ⟨Nat.le_of_ble_eq_true rfl, Nat.le_of_ble_eq_true rfl⟩ ⟨Nat.le_of_ble_eq_true rfl, Nat.le_of_ble_eq_true rfl⟩ (As := [.int (nI e)]) (c_mdrop (Q := fun o G2 => o = .inl none ∧ FP (fun j => 176 ≤ j ∧ j ≤ 178) G G2 ∧ RM T (sE S e (swi (S.1 e) ((wi (S.1 e)).drop 1))) G2) he g140 hR (by omega) (fun G2 h1 h2 => ⟨rfl, h1, h2⟩)) (fun o G2 h => ?_) (fun E G' h => by cases h.1)
    obtain ⟨h, F2, hR2⟩ := h
    cases h
    refine V_bipush (v := -4) rfl (by decide) ?_
    exact V_iret rfl rfl (hq _ _ _ _ (F2.sub (fun x hx => by omega)) (F2.get (by decide) g140) hR2)
  have hf : fl (S.1 e) 0 = true := by cases h : fl (S.1 e) 0; rw [h] at z1; cases z1; rfl
  obtain ⟨q, hqq⟩ : ∃ q, q = nm (S.1 e) 1 := ⟨_, rfl⟩
  obtain ⟨S2, hS2⟩ : ∃ S2, S2 = sE S e (snm (swi (S.1 e) ((wi (S.1 e)).drop 1)) 1 (q + 1)) := ⟨_, rfl⟩
  obtain ⟨op, hop⟩ : ∃ op, op = opn T (fl (S.1 e) 7) (rw9 (S.1 e) 8) (rw9 (S.1 e) 9) q ((wi (S.1 e)).getD 0 []) := ⟨_, rfl⟩
  have U : dlv T S e = dl2 T S2 e q op := by
    unfold dlv
    rw [if_neg z0, if_neg (by rw [hf]; decide), hS2, hop, hqq]
  rw [U] at hq
  clear U
  have hB3 : bnd S2 (B + 1) := by
    rw [hS2]
    refine (hB.mono (by omega)).x_sE (fun i hi => ?_)
    show (if i = 1 then q + 1 else nm (S.1 e) i) ≤ _
    split
    · omega
    · have := hB e he i hi; omega
  have hI3 : ∀ i, i < 2 → fl (S2.1 i) 3 = true → fl (S2.1 i) 2 = true := fun i hi => by
    rw [hS2, sE_fl (S := S) (e := e) (s := snm (swi (S.1 e) ((wi (S.1 e)).drop 1)) 1 (q + 1)) rfl i]
    exact hI.1 i hi
  have hf2 : ∀ i, fl (S2.1 i) = fl (S.1 i) := fun i => by rw [hS2]; exact sE_fl (S := S) (e := e) (s := snm (swi (S.1 e) ((wi (S.1 e)).drop 1)) 1 (q + 1)) rfl i
  have hI8 : e = 0 → fl (S2.1 0) 8 = fl (S2.1 0) 5 := fun x => by rw [hf2]; subst x; exact hI.2 hf
  refine V_aload_n rfl (by first | rfl | assumption) ?_
  refine V_iload_n rfl (by first | rfl | assumption) ?_
  have t34 : ∀ (b : Bool) (G1 : kG) (rs1 : Int32) (p : List Nat), FP PU G G1 → G1.1 140 = some (MO th ta os hs ps rs1) → RM T (sE S e (swi (S.1 e) ((wi (S.1 e)).drop 1))) G1 → (b = false → op = none) → (b = true → op = some p ∧ rs1 = nI p.length ∧ rdM p G1) → V K 0 0 mX12_comes 33 (kla [.ref 140, .int (nI e)]) [.int (bI b)] G1 Q := by
    intro b G1 rs1 p F1 k140 hR1 hb0 hb1
    have k166 := hR1.2.2.2.2.2.2.2.2.2.2.1
    obtain ⟨rb, k180, hrb⟩ := id hR1.1.2.2.2.2.2.2.1
    have hR2 := hR1.n1 (e := e) (n := q + 1)
    have e1 : nm ((sE S e (swi (S.1 e) ((wi (S.1 e)).drop 1))).1 e) 1 = q := by rw [sE_e, hqq]; rfl
    rw [sE_sE, sE_e, ← hS2] at hR2
    refine V_istore_n rfl (by decide) ?_
    refine V_aload_n rfl (by first | rfl | assumption) ?_
    refine V_getf rfl rfl rfl (by repeat (first | exact hup_eq | assumption | refine Eq.trans (hup_ne (by first | assumption | exact Ne.symm (by assumption) | decide | omega)) ?_)) (by first | rfl | assumption) ?_
    refine V_iload_n rfl (by first | rfl | assumption) ?_
    refine V_dup2 rfl rfl rfl ?_
    refine V_ialdN rfl (by repeat (first | exact hup_eq | assumption | refine Eq.trans (hup_ne (by first | assumption | exact Ne.symm (by assumption) | decide | omega)) ?_)) rfl (by first | omega | decide) (by first | omega | decide) ?_
    rw [e1]
    refine V_iconst (v := nI 1) rfl (by decide) ?_
    refine V_iaddN rfl ?_
    refine V_iastN rfl (by repeat (first | exact hup_eq | assumption | refine Eq.trans (hup_ne (by first | assumption | exact Ne.symm (by assumption) | decide | omega)) ?_)) rfl (by first | omega | decide) (by first | omega | decide) ?_
    obtain ⟨G2, hG2⟩ : ∃ G2, G2 = hup G1 166 (BA 2 (updN (fun j => nm ((sE S e (swi (S.1 e) ((wi (S.1 e)).drop 1))).1 j) 1) e (q + 1))) := ⟨_, rfl⟩
    rw [← hG2] at hR2 ⊢
    have F2 : FP (fun j => j = 166) G1 G2 := by rw [hG2]; exact FP.rf.hup rfl
    clear hG2
    have j140 := F2.get (by decide) k140
    have j180 := F2.get (by decide) k180
    have FF : FP (fun j => 140 ≤ j ∧ j ≤ 183 ∧ j ≠ 141 ∧ j ≠ 142) G G2 := (F1.sub (fun x hx => by omega)).trans F2 (fun x hx => by omega)
    have hsn : nm (S2.1 e) 0 < 2 ^ 31 := by have := hB3 e he 0 (by decide); omega
    have t75 : ∀ (lc : kLo) (b : Bool), lc 0 = some (.ref 140) → lc 1 = some (.int (nI e)) → lc 2 = some (.int (bI b)) → dl2 T S2 e q op = ((if b then -3 else -2), gvu T S2 e) → V K 0 0 mX12_comes 75 lc [] G2 Q := by
      intro lc b l0 l1 l2 hd
      rw [hd] at hq
      refine V_aload_n rfl (by first | rfl | assumption) ?_
      refine V_iload_n rfl (by first | rfl | assumption) ?_
      refine V_callV (M' := mX12_giveUp) (mc := 0) (ms := 0) (bc' := 0) (bs' := 0) rfl cw_X12_361 iv_X12_giveUp (by repeat (first | exact hup_eq | assumption | refine Eq.trans (hup_ne (by first | assumption | exact Ne.symm (by assumption) | decide | omega)) ?_)) rfl rfl (Nat.le_of_ble_eq_true rfl) ⟨Nat.le_of_ble_eq_true rfl, Nat.le_of_ble_eq_true rfl⟩ ⟨Nat.le_of_ble_eq_true rfl, Nat.le_of_ble_eq_true rfl⟩ (As := [.int (nI e)]) (c_mgiveUp (Q := fun o G3 => o = .inl none ∧ ∃ ps', FP PO G2 G3 ∧ G3.1 140 = some (MO th ta os hs ps' rs1) ∧ RM T (gvu T S2 e) G3) he hqt j140 hR2 hsn (fun G3 ps' h1 h2 h3 => ⟨rfl, ps', h1, h2, h3⟩)) (fun o G3 h => ?_) (fun E G' h => by cases h.1)
      obtain ⟨h, ps', F3, i140, hR3⟩ := h
      cases h
      have hq3 := hq G3 hs ps' rs1 (FF.trans F3 (fun x hx => by omega)) i140 hR3
      refine V_iload_n rfl (by assumption) ?_
      refine V_if_eqB rfl (fun x => ?_) (fun x => ?_)
      · rw [x] at hq3
        refine V_bipush (v := -2) rfl (by decide) ?_
        exact V_iret rfl rfl hq3
      · rw [x] at hq3
        refine V_bipush (v := -3) rfl (by decide) ?_
        refine V_goto rfl ?_
        exact V_iret rfl rfl hq3
    cases b with
    | false =>
      have hb00 := hrb 0
      refine V_aload_n rfl (by first | rfl | assumption) ?_
      refine V_getf rfl rfl rfl (by repeat (first | exact hup_eq | assumption | refine Eq.trans (hup_ne (by first | assumption | exact Ne.symm (by assumption) | decide | omega)) ?_)) (by first | rfl | assumption) ?_
      refine V_iconst (v := nI 0) rfl (by decide) ?_
      refine V_baldB rfl (by repeat (first | exact hup_eq | assumption | refine Eq.trans (hup_ne (by first | assumption | exact Ne.symm (by assumption) | decide | omega)) ?_)) rfl (by first | omega | decide) (by first | omega | decide) ?_
      refine V_sipush (v := nI 255) rfl (by decide) ?_
      refine V_bandB rfl (by first | assumption | solve_by_elim | exact Nat.mod_lt _ (by decide) | omega) ?_
      refine V_istore_n rfl (by decide) ?_
      refine V_iload_n rfl (by rfl) ?_
      refine V_if_eqB rfl (fun _ => ?_) (fun x => Bool.noConfusion x)
      exact t75 _ false rfl rfl rfl (by rw [hb0 rfl]; rfl)
    | true =>
      obtain ⟨hop1, hrs1, hrd1⟩ := hb1 rfl
      have hrd2 := hrd1.fp (F2.2 180 (by decide))
      obtain ⟨b9, i180, hb9, hbl⟩ := id hrd2
      have hple := opn_len (hop.symm.trans hop1)
      have hg9 : ∀ j, j < p.length → b9 j = gD p j := fun j hj => (gD_of hbl hj).symm
      rw [hrs1] at j140
      clear k180 hrb j180 k140 hrd1 hb0 hb1
      have hb00 := hb9 0
      obtain ⟨m, hm⟩ : ∃ m, m = b9 0 := ⟨_, rfl⟩
      have hm2 : m = gD p 0 := by rw [hm]; exact hg9 0 (by omega)
      have hmb : m < 256 := by rw [hm]; exact hb00
      refine V_aload_n rfl (by first | rfl | assumption) ?_
      refine V_getf rfl rfl rfl (by repeat (first | exact hup_eq | assumption | refine Eq.trans (hup_ne (by first | assumption | exact Ne.symm (by assumption) | decide | omega)) ?_)) (by first | rfl | assumption) ?_
      refine V_iconst (v := nI 0) rfl (by decide) ?_
      refine V_baldB rfl (by repeat (first | exact hup_eq | assumption | refine Eq.trans (hup_ne (by first | assumption | exact Ne.symm (by assumption) | decide | omega)) ?_)) rfl (by first | omega | decide) (by first | omega | decide) ?_
      refine V_sipush (v := nI 255) rfl (by decide) ?_
      refine V_bandB rfl (by first | assumption | solve_by_elim | exact Nat.mod_lt _ (by decide) | omega) ?_
      rw [← hm]
      refine V_istore_n rfl (by decide) ?_
      refine V_iload_n rfl (by rfl) ?_
      refine V_if_eqB rfl (fun x => Bool.noConfusion x) (fun _ => ?_)
      refine V_iload_n rfl (by rfl) ?_
      refine V_callS (M' := mX12_hasPlace) (mc := 0) (ms := 0) (bc' := 0) (bs' := 0) rfl cw_X12_367 is_X12_hasPlace rfl (Nat.le_of_ble_eq_true rfl) ⟨Nat.le_of_ble_eq_true rfl, Nat.le_of_ble_eq_true rfl⟩ ⟨Nat.le_of_ble_eq_true rfl, Nat.le_of_ble_eq_true rfl⟩ (As := [.int (nI m)]) (c_mhasPlace (Q := fun o G9 => o = .inl (some (.int (bI (hpl m)))) ∧ G9 = G2) (by omega) ⟨rfl, rfl⟩) (fun o G9 h => ?_) (fun E G' h => by cases h.1)
      obtain ⟨h, h9⟩ := h
      cases h
      rw [h9]
      clear h9
      have fin : ∀ (lc : kLo) (G3 : kG) (hs3 ps3 rs3 : Int32), lc 3 = some (.int (nI m)) → FP (fun j => 140 ≤ j ∧ j ≤ 183 ∧ j ≠ 141 ∧ j ≠ 142) G2 G3 → G3.1 140 = some (MO th ta os hs3 ps3 rs3) → inP S2 e p = true → RM T (act T S2 e p q) G3 → V K 0 0 mX12_comes 246 lc [] G3 Q := by
        intro lc G3 hs3 ps3 rs3 l3 F3 i140 hin hR3
        have hd : dl2 T S2 e q op = (nI (gD p 0), act T S2 e p q) := by rw [hop1, dl2_some, if_pos hin]
        rw [hd, ← hm2] at hq
        refine V_iload_n rfl (by assumption) ?_
        exact V_iret rfl rfl (hq _ _ _ _ (FF.trans F3 (fun x hx => hx)) i140 hR3)
      refine V_if_eqB rfl (fun hp0 => ?_) (fun hp1 => ?_)
      rotate_left
      · have hmm : m = 20 ∨ m = 21 ∨ m = 30 ∨ m = 31 ∨ m = 94 := of_decide_eq_true hp1
        refine V_aload_n rfl (by first | rfl | assumption) ?_
        refine V_iload_n rfl (by first | rfl | assumption) ?_
        refine V_iload_n rfl (by first | rfl | assumption) ?_
        rw [hm2]
        refine V_callV (M' := mX12_placed) (mc := 0) (ms := 0) (bc' := 0) (bs' := 0) rfl cw_X12_370 iv_X12_placed (by repeat (first | exact hup_eq | assumption | refine Eq.trans (hup_ne (by first | assumption | exact Ne.symm (by assumption) | decide | omega)) ?_)) rfl rfl (Nat.le_of_ble_eq_true rfl) ⟨Nat.le_of_ble_eq_true rfl, Nat.le_of_ble_eq_true rfl⟩ ⟨Nat.le_of_ble_eq_true rfl, Nat.le_of_ble_eq_true rfl⟩ (As := [.int (nI e), .int (nI (gD p 0))]) (c_mplaced (S := S2) (q := q) (Q := fun o G3 => (o = .inl (some (.int (bI false))) ∧ inP S2 e p = false ∧ G3 = G2) ∨ (o = .inl (some (.int (bI true))) ∧ inP S2 e p = true ∧ ∃ hs' ps', FP PA G2 G3 ∧ G3.1 140 = some (MO th ta os hs' ps' (nI p.length)) ∧ RM T (act T S2 e p q) G3)) he hqt j140 hple hR2 hrd2 hB3 (by omega) hI3 hI8 (by rw [← hm2]; exact hp1) (fun x => Or.inl ⟨rfl, x, rfl⟩) (fun x G3 hs' ps' h1 h2 h3 => Or.inr ⟨rfl, x, hs', ps', h1, h2, h3⟩)) (fun o G3 h => ?_) (fun E G' h => by rcases h with h | h <;> cases h.1)
        rcases h with ⟨h, h1, h9⟩ | ⟨h, h1, hs', ps', F3, i140, hR3⟩
        · cases h
          rw [h9]
          refine V_if_neB rfl (fun x => Bool.noConfusion x) (fun _ => ?_)
          exact t75 _ true rfl rfl rfl (by rw [hop1, dl2_some, if_neg (by rw [h1]; decide), if_pos rfl])
        · cases h
          refine V_if_neB rfl (fun _ => ?_) (fun x => Bool.noConfusion x)
          rw [← hm2]
          refine V_iload_n rfl (by first | rfl | assumption) ?_
          refine V_iconst (v := nI 1) rfl (by decide) ?_
          refine V_icmp_neN rfl (by omega) (by decide) (fun _ => ?_) (fun x => absurd x (by omega))
          refine V_iload_n rfl (by first | rfl | assumption) ?_
          refine V_iconst (v := nI 3) rfl (by decide) ?_
          refine V_icmp_neN rfl (by omega) (by decide) (fun _ => ?_) (fun x => absurd x (by omega))
          refine V_iload_n rfl (by first | rfl | assumption) ?_
          refine V_iconst (v := nI 2) rfl (by decide) ?_
          refine V_icmp_eqN rfl (by omega) (by decide) (fun x => absurd x (by omega)) (fun _ => ?_)
          refine V_iload_n rfl (by rfl) ?_
          refine V_callS (M' := mX12_hasPlace) (mc := 0) (ms := 0) (bc' := 0) (bs' := 0) rfl cw_X12_367 is_X12_hasPlace rfl (Nat.le_of_ble_eq_true rfl) ⟨Nat.le_of_ble_eq_true rfl, Nat.le_of_ble_eq_true rfl⟩ ⟨Nat.le_of_ble_eq_true rfl, Nat.le_of_ble_eq_true rfl⟩ (As := [.int (nI m)]) (c_mhasPlace (Q := fun o G9 => o = .inl (some (.int (bI (hpl m)))) ∧ G9 = G3) (by omega) ⟨rfl, rfl⟩) (fun o G9 h => ?_) (fun E G' h => by cases h.1)
          obtain ⟨h, h9⟩ := h
          cases h
          rw [h9]
          refine V_if_neB rfl (fun _ => ?_) (fun x => by rw [hp1] at x; cases x)
          exact fin _ G3 _ _ _ rfl (F3.sub (fun x hx => by omega)) i140 h1 hR3
      · have hmm : ¬ (m = 20 ∨ m = 21 ∨ m = 30 ∨ m = 31 ∨ m = 94) := of_decide_eq_false hp0
        have hin : inP S2 e p = true := by
          unfold inP
          rw [if_neg (by omega), if_neg (by omega), if_neg (by omega), if_neg (by omega), if_neg (by omega)]
        refine V_iload_n rfl (by first | rfl | assumption) ?_
        refine V_iconst (v := nI 1) rfl (by decide) ?_
        refine V_icmp_neN rfl (by omega) (by decide) (fun m1 => ?_) (fun m1 => ?_)
        rotate_left
        · have A : act T S2 e p q = sE S2 e (sfl (S2.1 e) 0 false) := by unfold act; rw [if_pos (by omega)]
          have i164 := hR2.2.2.2.2.2.2.2.2.1.1
          refine V_aload_n rfl (by first | rfl | assumption) ?_
          refine V_getf rfl rfl rfl (by repeat (first | exact hup_eq | assumption | refine Eq.trans (hup_ne (by first | assumption | exact Ne.symm (by assumption) | decide | omega)) ?_)) (by first | rfl | assumption) ?_
          refine V_iload_n rfl (by first | rfl | assumption) ?_
          refine V_iconst (v := nI 1) rfl (by decide) ?_
          refine V_zastZ true rfl (by repeat (first | exact hup_eq | assumption | refine Eq.trans (hup_ne (by first | assumption | exact Ne.symm (by assumption) | decide | omega)) ?_)) (by decide) rfl (by first | omega | decide) (by first | omega | decide) ?_
          refine V_goto rfl ?_
          exact fin _ _ _ _ _ rfl (FP.rf.hup (by omega)) ((hup_ne (by decide)).trans j140) hin (by rw [A]; exact hR2.f0)
        refine V_iload_n rfl (by first | rfl | assumption) ?_
        refine V_iconst (v := nI 3) rfl (by decide) ?_
        refine V_icmp_neN rfl (by omega) (by decide) (fun m3 => ?_) (fun m3 => ?_)
        rotate_left
        · have A : act T S2 e p q = sE S2 e (sun (S2.1 e) (if p.length = 5 then nI (be4v (gD p) 1) else -1)) := by unfold act; rw [if_neg (by omega), if_neg (by omega), if_pos (by omega)]
          have i173 := hR2.2.2.2.2.2.2.2.2.2.2.2.2
          have t181 : ∀ (lc : kLo) (x : Int32), lc 0 = some (.ref 140) → lc 3 = some (.int (nI m)) → x = (if p.length = 5 then nI (be4v (gD p) 1) else -1) → V K 0 0 mX12_comes 181 lc [.int x, .int (nI e), .ref 173] G2 Q := by
            rintro lc x l0 l3 rfl
            refine V_iastJ rfl i173 rfl (by omega) (by decide) ?_
            refine V_goto rfl ?_
            exact fin _ _ _ _ _ l3 (FP.rf.hup (by omega)) ((hup_ne (by decide)).trans j140) hin (by rw [A]; exact hR2.u)
          refine V_aload_n rfl (by first | rfl | assumption) ?_
          refine V_getf rfl rfl rfl (by repeat (first | exact hup_eq | assumption | refine Eq.trans (hup_ne (by first | assumption | exact Ne.symm (by assumption) | decide | omega)) ?_)) (by first | rfl | assumption) ?_
          refine V_iload_n rfl (by first | rfl | assumption) ?_
          refine V_aload_n rfl (by first | rfl | assumption) ?_
          refine V_getf rfl rfl rfl (by repeat (first | exact hup_eq | assumption | refine Eq.trans (hup_ne (by first | assumption | exact Ne.symm (by assumption) | decide | omega)) ?_)) (by first | rfl | assumption) ?_
          refine V_iconst (v := nI 5) rfl (by decide) ?_
          refine V_icmp_eqN rfl (by omega) (by decide) (fun m5 => ?_) (fun m5 => ?_)
          · have c1 := hb9 1
            have c2 := hb9 2
            have c3 := hb9 3
            have c4 := hb9 4
            refine V_aload_n rfl (by first | rfl | assumption) ?_
            refine V_getf rfl rfl rfl (by repeat (first | exact hup_eq | assumption | refine Eq.trans (hup_ne (by first | assumption | exact Ne.symm (by assumption) | decide | omega)) ?_)) (by first | rfl | assumption) ?_
            refine V_iconst (v := nI 1) rfl (by decide) ?_
            refine V_baldB rfl (by repeat (first | exact hup_eq | assumption | refine Eq.trans (hup_ne (by first | assumption | exact Ne.symm (by assumption) | decide | omega)) ?_)) rfl (by first | omega | decide) (by first | omega | decide) ?_
            refine V_sipush (v := nI 255) rfl (by decide) ?_
            refine V_bandB rfl (by first | assumption | solve_by_elim | exact Nat.mod_lt _ (by decide) | omega) ?_
            refine V_bipush (v := nI 24) rfl (by decide) ?_
            refine V_ishlN rfl (by first | omega | decide) ?_
            refine V_aload_n rfl (by first | rfl | assumption) ?_
            refine V_getf rfl rfl rfl (by repeat (first | exact hup_eq | assumption | refine Eq.trans (hup_ne (by first | assumption | exact Ne.symm (by assumption) | decide | omega)) ?_)) (by first | rfl | assumption) ?_
            refine V_iconst (v := nI 2) rfl (by decide) ?_
            refine V_baldB rfl (by repeat (first | exact hup_eq | assumption | refine Eq.trans (hup_ne (by first | assumption | exact Ne.symm (by assumption) | decide | omega)) ?_)) rfl (by first | omega | decide) (by first | omega | decide) ?_
            refine V_sipush (v := nI 255) rfl (by decide) ?_
            refine V_bandB rfl (by first | assumption | solve_by_elim | exact Nat.mod_lt _ (by decide) | omega) ?_
            refine V_bipush (v := nI 16) rfl (by decide) ?_
            refine V_ishlN rfl (by first | omega | decide) ?_
            refine V_ior rfl ?_
            refine V_aload_n rfl (by first | rfl | assumption) ?_
            refine V_getf rfl rfl rfl (by repeat (first | exact hup_eq | assumption | refine Eq.trans (hup_ne (by first | assumption | exact Ne.symm (by assumption) | decide | omega)) ?_)) (by first | rfl | assumption) ?_
            refine V_iconst (v := nI 3) rfl (by decide) ?_
            refine V_baldB rfl (by repeat (first | exact hup_eq | assumption | refine Eq.trans (hup_ne (by first | assumption | exact Ne.symm (by assumption) | decide | omega)) ?_)) rfl (by first | omega | decide) (by first | omega | decide) ?_
            refine V_sipush (v := nI 255) rfl (by decide) ?_
            refine V_bandB rfl (by first | assumption | solve_by_elim | exact Nat.mod_lt _ (by decide) | omega) ?_
            refine V_bipush (v := nI 8) rfl (by decide) ?_
            refine V_ishlN rfl (by first | omega | decide) ?_
            refine V_ior rfl ?_
            refine V_aload_n rfl (by first | rfl | assumption) ?_
            refine V_getf rfl rfl rfl (by repeat (first | exact hup_eq | assumption | refine Eq.trans (hup_ne (by first | assumption | exact Ne.symm (by assumption) | decide | omega)) ?_)) (by first | rfl | assumption) ?_
            refine V_iconst (v := nI 4) rfl (by decide) ?_
            refine V_baldB rfl (by repeat (first | exact hup_eq | assumption | refine Eq.trans (hup_ne (by first | assumption | exact Ne.symm (by assumption) | decide | omega)) ?_)) rfl (by first | omega | decide) (by first | omega | decide) ?_
            refine V_sipush (v := nI 255) rfl (by decide) ?_
            refine V_bandB rfl (by first | assumption | solve_by_elim | exact Nat.mod_lt _ (by decide) | omega) ?_
            refine V_ior rfl ?_
            rw [w4or c2 c3 c4]
            refine t181 _ _ rfl rfl ?_
            rw [if_pos m5]
            unfold be4v
            rw [← hg9 1 (by omega), ← hg9 (1 + 1) (by omega), ← hg9 (1 + 2) (by omega), ← hg9 (1 + 3) (by omega)]
          · refine V_iconst (v := -1) rfl (by decide) ?_
            refine V_goto rfl ?_
            exact t181 _ _ rfl rfl (by rw [if_neg m5])
        refine V_iload_n rfl (by first | rfl | assumption) ?_
        refine V_iconst (v := nI 2) rfl (by decide) ?_
        refine V_icmp_eqN rfl (by omega) (by decide) (fun m2 => ?_) (fun m2 => ?_)
        · have A : act T S2 e p q = S2 := by unfold act; rw [if_neg (by omega), if_pos (by omega)]
          exact fin _ _ _ _ _ rfl FP.rf j140 hin (by rw [A]; exact hR2)
        have A : act T S2 e p q = emt T S2 e (3 :: be4 q) := by
          unfold act
          rw [if_neg (by omega), if_neg (by omega), if_neg (by omega), if_neg (by omega), if_neg (by omega), if_neg (by omega), if_neg (by omega), if_neg (by omega)]
        refine V_iload_n rfl (by rfl) ?_
        refine V_callS (M' := mX12_hasPlace) (mc := 0) (ms := 0) (bc' := 0) (bs' := 0) rfl cw_X12_367 is_X12_hasPlace rfl (Nat.le_of_ble_eq_true rfl) ⟨Nat.le_of_ble_eq_true rfl, Nat.le_of_ble_eq_true rfl⟩ ⟨Nat.le_of_ble_eq_true rfl, Nat.le_of_ble_eq_true rfl⟩ (As := [.int (nI m)]) (c_mhasPlace (Q := fun o G9 => o = .inl (some (.int (bI (hpl m)))) ∧ G9 = G2) (by omega) ⟨rfl, rfl⟩) (fun o G9 h => ?_) (fun E G' h => by cases h.1)
        obtain ⟨h, h9⟩ := h
        cases h
        rw [h9]
        clear h9
        refine V_if_neB rfl (fun x => by rw [hp0] at x; cases x) (fun _ => ?_)
        refine V_aload_n rfl (by first | rfl | assumption) ?_
        refine V_iconst (v := nI 0) rfl (by decide) ?_
        refine V_pf_ps rfl rfl rfl (by repeat (first | exact hup_eq | assumption | refine Eq.trans (hup_ne (by first | assumption | exact Ne.symm (by assumption) | decide | omega)) ?_)) ?_
        refine V_aload_n rfl (by first | rfl | assumption) ?_
        refine V_iconst (v := nI 3) rfl (by decide) ?_
        have hp0 : plM [] (hup G2 140 (MO th ta os hs (nI 0) (nI p.length))) := (plM.nl hR2.1.2.2.2.2.2.1).fp (hup_ne (by decide))
        refine V_callV (M' := mX12_say) (mc := 0) (ms := 0) (bc' := 0) (bs' := 0) rfl cw_X12_307 iv_X12_say (by repeat (first | exact hup_eq | assumption | refine Eq.trans (hup_ne (by first | assumption | exact Ne.symm (by assumption) | decide | omega)) ?_)) rfl rfl (Nat.le_of_ble_eq_true rfl) ⟨Nat.le_of_ble_eq_true rfl, Nat.le_of_ble_eq_true rfl⟩ ⟨Nat.le_of_ble_eq_true rfl, Nat.le_of_ble_eq_true rfl⟩ (As := [.int (nI 3)]) (c_msay (p := []) (Q := fun o G3 => o = .inl none ∧ FP PP2 (hup G2 140 (MO th ta os hs (nI 0) (nI p.length))) G3 ∧ G3.1 140 = some (MO th ta os hs (nI ([3] ++ lst (bq q) 0).length) (nI p.length)) ∧ plM ([3] ++ lst (bq q) 0) G3) hup_eq hp0 (by decide) (fun G2 h1 h2 h3 => ⟨rfl, h1, h2, h3⟩)) (fun o G3 h => ?_) (fun E G' h => by cases h.1)
        obtain ⟨h, FX, k140, kp⟩ := h
        cases h
        have FY : FP PP2 G2 G3 := (FP.rf.hup (by decide)).trans FX (fun _ q => q)
        have i166 : G2.1 166 = some (BA 2 (fun j => nm (S2.1 j) 1)) := hR2.2.2.2.2.2.2.2.2.2.2.1
        have e2 : nm (S2.1 e) 1 = q + 1 := by rw [hS2, sE_e]; rfl
        refine V_bipush (v := nI 24) rfl (by decide) ?_
        refine V_istore rfl (by decide) ?_
        refine V_loop 4 (fun i lc G4 => lc 0 = some (.ref 140) ∧ lc 1 = some (.int (nI e)) ∧ lc 3 = some (.int (nI m)) ∧ lc 4 = some (.int (ct4 i)) ∧ FP PP2 G2 G4 ∧ G4.1 140 = some (MO th ta os hs (nI ([3] ++ lst (bq q) i).length) (nI p.length)) ∧ plM ([3] ++ lst (bq q) i) G4) ?_ ?_ 0 _ _ (Nat.zero_le _) ⟨rfl, rfl, rfl, rfl, FY, k140, kp⟩
        · rintro i lc G4 hi ⟨l0, l1, l3, l4, F4, k140, kp⟩ ih
          have hct : ct4 i = nI (24 - 8 * i) := by unfold ct4; rw [if_pos hi]
          have k166 := F4.get (by decide) i166
          rw [hct] at l4
          refine V_iload rfl (by first | rfl | assumption) ?_
          refine V_if_ltN rfl (by omega) ?_
          refine V_aload_n rfl (by first | rfl | assumption) ?_
          refine V_aload_n rfl (by first | rfl | assumption) ?_
          refine V_getf rfl rfl rfl (by repeat (first | exact hup_eq | assumption | refine Eq.trans (hup_ne (by first | assumption | exact Ne.symm (by assumption) | decide | omega)) ?_)) (by first | rfl | assumption) ?_
          refine V_iload_n rfl (by first | rfl | assumption) ?_
          refine V_ialdN rfl (by repeat (first | exact hup_eq | assumption | refine Eq.trans (hup_ne (by first | assumption | exact Ne.symm (by assumption) | decide | omega)) ?_)) rfl (by first | omega | decide) (by first | omega | decide) ?_
          rw [e2]
          refine V_iconst (v := nI 1) rfl (by decide) ?_
          refine V_isubN rfl (by first | omega | decide) ?_
          refine V_iload rfl (by first | rfl | assumption) ?_
          rw [Nat.add_sub_cancel]
          refine V_ishrN rfl (by omega) (by omega) ?_
          have e3 : [3] ++ lst (bq q) i ++ [lw (nI (q / 2 ^ (24 - 8 * i)))] = [3] ++ lst (bq q) (i + 1) := by
            rw [lw_N, lst_s, List.append_assoc]; rfl
          refine V_callV (M' := mX12_say) (mc := 0) (ms := 0) (bc' := 0) (bs' := 0) rfl cw_X12_307 iv_X12_say (by repeat (first | exact hup_eq | assumption | refine Eq.trans (hup_ne (by first | assumption | exact Ne.symm (by assumption) | decide | omega)) ?_)) rfl rfl (Nat.le_of_ble_eq_true rfl) ⟨Nat.le_of_ble_eq_true rfl, Nat.le_of_ble_eq_true rfl⟩ ⟨Nat.le_of_ble_eq_true rfl, Nat.le_of_ble_eq_true rfl⟩ (As := [.int (nI (q / 2 ^ (24 - 8 * i)))]) (c_msay (p := [3] ++ lst (bq q) i) (Q := fun o G5 => o = .inl none ∧ FP PP2 G4 G5 ∧ G5.1 140 = some (MO th ta os hs (nI ([3] ++ lst (bq q) (i + 1)).length) (nI p.length)) ∧ plM ([3] ++ lst (bq q) (i + 1)) G5) k140 kp (by rw [List.length_append, lst_len, List.length_singleton]; omega) (fun G5 h1 h2 h3 => by rw [e3] at h2 h3; exact ⟨rfl, h1, h2, h3⟩)) (fun o G5 h => ?_) (fun E G' h => by cases h.1)
          obtain ⟨h, FX, k140, kp⟩ := h
          cases h
          refine V_iload rfl (by assumption) ?_
          refine V_bipush (v := nI 8) rfl (by decide) ?_
          refine V_isub rfl ?_
          refine V_istore rfl (by decide) ?_
          refine V_goto rfl ?_
          refine ih _ _ ⟨l0, l1, l3, ?_, F4.trans FX (fun _ q => q), k140, kp⟩
          show some (Value.int (nI (24 - 8 * i) - nI 8)) = _
          unfold ct4
          have : i = 0 ∨ i = 1 ∨ i = 2 ∨ i = 3 := by omega
          rcases this with rfl | rfl | rfl | rfl <;> rfl
        · rintro lc G4 ⟨l0, l1, l3, l4, F4, k140, kp⟩
          have e4 : [3] ++ lst (bq q) 4 = 3 :: be4 q := by rw [be4_lst]; rfl
          rw [e4] at k140 kp
          refine V_iload rfl (by first | rfl | assumption) ?_
          refine V_if_lt rfl (fun _ => ?_) (fun x => absurd (by decide) x)
          refine V_aload_n rfl (by first | rfl | assumption) ?_
          refine V_iload_n rfl (by first | rfl | assumption) ?_
          refine V_callV (M' := mX12_post) (mc := 0) (ms := 0) (bc' := 0) (bs' := 0) rfl cw_X12_310 iv_X12_post (by repeat (first | exact hup_eq | assumption | refine Eq.trans (hup_ne (by first | assumption | exact Ne.symm (by assumption) | decide | omega)) ?_)) rfl rfl (Nat.le_of_ble_eq_true rfl) ⟨Nat.le_of_ble_eq_true rfl, Nat.le_of_ble_eq_true rfl⟩ ⟨Nat.le_of_ble_eq_true rfl, Nat.le_of_ble_eq_true rfl⟩ (As := [.int (nI e)]) (c_mpost (S := S2) (p := 3 :: be4 q) (Q := fun o G5 => o = .inl none ∧ FP PW G4 G5 ∧ RM T (emt T S2 e (3 :: be4 q)) G5) he hqt k140 (hR2.pl F4 kp) kp (Nat.le_of_ble_eq_true rfl) hsn (fun G5 h1 h2 => ⟨rfl, h1, h2⟩)) (fun o G5 h => ?_) (fun E G' h => by cases h.1)
          obtain ⟨h, F5, hR5⟩ := h
          cases h
          have F6 : FP (fun j => 140 ≤ j ∧ j ≤ 183 ∧ j ≠ 141 ∧ j ≠ 142) G2 G4 := F4.sub (fun x hx => by omega)
          exact fin _ _ _ _ _ l3 (F6.trans F5 (fun x hx => by omega)) (F5.get (by decide) k140) hin (by rw [A]; exact hR5)
  refine V_callV (M' := mX12_unpack) (mc := 0) (ms := 0) (bc' := 0) (bs' := 0) rfl cw_X12_364 iv_X12_unpack (by repeat (first | exact hup_eq | assumption | refine Eq.trans (hup_ne (by first | assumption | exact Ne.symm (by assumption) | decide | omega)) ?_)) rfl rfl (Nat.le_of_ble_eq_true rfl) ⟨Nat.le_of_ble_eq_true rfl, Nat.le_of_ble_eq_true rfl⟩ ⟨Nat.le_of_ble_eq_true rfl, Nat.le_of_ble_eq_true rfl⟩ (As := [.int (nI e)]) (c_munpack (Q := fun o G1 => ∃ b rs1 p, o = .inl (some (.int (bI b))) ∧ FP PU G G1 ∧ G1.1 140 = some (MO th ta os hs ps rs1) ∧ RM T (sE S e (swi (S.1 e) ((wi (S.1 e)).drop 1))) G1 ∧ (b = false → op = none) ∧ (b = true → op = some p ∧ rs1 = nI p.length ∧ rdM p G1)) he hqt g140 hR (by omega) (by omega) (fun h0 G1 rs1 h1 h2 h3 => ⟨false, rs1, [], rfl, h1, h2, h3, fun _ => by rw [hop, hqq]; exact h0, fun y => (by cases y)⟩) (fun p h0 G1 h1 h2 h3 h4 => ⟨true, nI p.length, p, rfl, h1, h2, h3, fun y => (by cases y), fun _ => ⟨by rw [hop, hqq]; exact h0, rfl, h4⟩⟩)) (fun o G1 h => ?_) (fun E G' h => by obtain ⟨_, _, _, h, _⟩ := h; cases h)
  obtain ⟨b, rs1, p, h, F1, k140, hR1, h0, h1⟩ := h
  cases h
  exact t34 b G1 rs1 p F1 k140 hR1 h0 h1
end MComes
