section MApi7
variable {K : kK} {G : kG} {Q : kO → kG → Prop} {T : TB} {S : SG} {th ta os hs ps rs : Int32}
theorem gD_set {l : List Nat} {i v j : Nat} (hi : i < l.length) : gD (l.set i v) j = if j = i then v else gD l j := by
  unfold gD
  rw [List.getD_eq_getElem?_getD, List.getD_eq_getElem?_getD, List.getElem?_set]
  by_cases h : j = i
  · subst h
    rw [if_pos rfl, if_pos rfl]
    simp [hi]
  · rw [if_neg (Ne.symm h), if_neg h]
theorem getD_set {ls : List (List Nat)} {k j : Nat} {v : List Nat} (hk : k < ls.length) : (ls.set k v).getD j [] = if j = k then v else ls.getD j [] := by
  rw [List.getD_eq_getElem?_getD, List.getD_eq_getElem?_getD, List.getElem?_set]
  by_cases h : j = k
  · subst h
    rw [if_pos rfl, if_pos rfl]
    simp [hk]
  · rw [if_neg (Ne.symm h), if_neg h]
set_option maxHeartbeats 4000000 in
theorem c_Mdamage {x y u v : Int32} (h : RMA T S th G) (hq : ∀ G', FP PM G G' → RMA T (aDm S x.toInt y.toInt u.toInt v.toInt).2.2 (nI (aDm S x.toInt y.toInt u.toInt v.toInt).1) G' → Q (.inl none) G') : C K 0 0 mX12_damage [.ref 140, .int x, .int y, .int u, .int v] G Q := by
  obtain ⟨hR, ht, ho, hs, ps, rs, g140⟩ := id h
  obtain ⟨w176, z, w, g177, g178, hwb, hz⟩ := id hR.2.2.2.2.2.2.2.1
  refine C_of okX12_damage (Nat.le_of_ble_eq_true rfl) ?_
  have t55 : ∀ t : Nat, 0 < t → t < 4 → aDm S x.toInt y.toInt u.toInt v.toInt = (t, 0, S) → V K 0 0 mX12_damage 55 (kla [.ref 140, .int x, .int y, .int u, .int v]) [.int (nI t), .ref 140] G Q := by
    intro t h1 h2 U
    rw [U] at hq
    refine V_pf_th rfl rfl rfl (by repeat (first | exact hup_eq | assumption | refine Eq.trans (hup_ne (by first | assumption | exact Ne.symm (by assumption) | decide | omega)) ?_)) ?_
    refine V_aload_n rfl (by first | rfl | assumption) ?_
    refine V_getf rfl rfl rfl (by repeat (first | exact hup_eq | assumption | refine Eq.trans (hup_ne (by first | assumption | exact Ne.symm (by assumption) | decide | omega)) ?_)) (by first | rfl | assumption) ?_
    refine V_if_neN rfl (by omega) (fun _ => ?_) (fun z => absurd z (by omega))
    exact V_vret rfl rfl (hq _ (FP.rf.hup (by decide)) h.ob)
  refine V_aload_n rfl (by rfl) ?_
  refine V_aload_n rfl (by rfl) ?_
  refine V_iload_n rfl (by rfl) ?_
  refine V_iload_n rfl (by rfl) ?_
  refine V_callV (M' := mX12_isPacket) (mc := 0) (ms := 0) (bc' := 0) (bs' := 0) rfl cw_X12_377 iv_X12_isPacket (by repeat (first | exact hup_eq | assumption | refine Eq.trans (hup_ne (by first | assumption | exact Ne.symm (by assumption) | decide | omega)) ?_)) rfl rfl (Nat.le_of_ble_eq_true rfl) ⟨Nat.le_of_ble_eq_true rfl, Nat.le_of_ble_eq_true rfl⟩ ⟨Nat.le_of_ble_eq_true rfl, Nat.le_of_ble_eq_true rfl⟩ (As := [.int x, .int y]) (c_misP (S := S) (T := T) (Q := fun o G1 => (o = .inl (some (.int (bI true))) ∧ (∃ e k : Nat, e < 2 ∧ x = nI e ∧ y = nI k ∧ x.toInt = (e : Int) ∧ y.toInt = (k : Int) ∧ k < (wi (S.1 e)).length) ∧ G1 = G) ∨ (o = .inl (some (.int (bI false))) ∧ (¬ (x.toInt = 0 ∨ x.toInt = 1) ∨ ((x.toInt = 0 ∨ x.toInt = 1) ∧ (y.toInt < 0 ∨ ((wi (S.1 x.toInt.toNat)).length : Int) ≤ y.toInt))) ∧ G1 = G)) g140 hR (fun e k h1 h2 h3 h4 h5 h6 => Or.inl ⟨rfl, ⟨e, k, h1, h2, h3, h4, h5, h6⟩, rfl⟩) (fun h1 => Or.inr ⟨rfl, h1, rfl⟩)) (fun o G1 h => ?_) (fun E G' h => by rcases h with h | h <;> cases h.1)
  rcases h with ⟨h9, ⟨e, k, he, hxe, hyk, hxi, hyi, hk⟩, h8⟩ | ⟨h9, hbad, h8⟩
  rotate_left
  · cases h9
    rw [h8]
    refine V_if_neB rfl (fun x => Bool.noConfusion x) (fun _ => ?_)
    refine V_iconst (v := nI 1) rfl (by decide) ?_
    refine V_goto rfl ?_
    refine t55 1 (by decide) (by decide) ?_
    unfold aDm
    rcases hbad with q | ⟨q1, q2⟩
    · rw [if_pos q]
    · rw [if_neg (by omega), if_pos q2]
  cases h9
  rw [h8]
  clear h8
  rw [hxi, hyi] at hq t55
  clear hxi hyi
  subst hxe hyk
  have hz12 := (hz e he).1
  obtain ⟨z1, z2, z3⟩ := (hz e he).2 k hk
  obtain ⟨l, hl⟩ : ∃ l, l = pkA S e k := ⟨_, rfl⟩
  rw [← hl] at z1 z2 z3
  obtain ⟨L, hL⟩ : ∃ L, L = l.length := ⟨_, rfl⟩
  rw [← hL] at z1 z2 z3
  have U0 : aDm S (e : Int) (k : Int) u.toInt v.toInt = if u.toInt < 0 ∨ (L : Int) ≤ u.toInt then (2, 0, S) else if v.toInt < 0 ∨ 255 < v.toInt then (3, 0, S) else (0, 0, dmg S e k u.toInt.toNat v.toInt.toNat) := by
    unfold aDm
    rw [if_neg (by omega)]
    have hk2 : ¬ ((k : Int) < 0 ∨ ((wi (S.1 (e : Int).toNat)).length : Int) ≤ (k : Int)) := by
      show ¬ ((k : Int) < 0 ∨ ((wi (S.1 e)).length : Int) ≤ (k : Int))
      omega
    rw [if_neg hk2, hL, hl]
    rfl
  rw [U0] at hq t55
  clear U0
  refine V_if_neB rfl (fun _ => ?_) (fun x => Bool.noConfusion x)
  have bad2 : u.toInt < 0 ∨ (L : Int) ≤ u.toInt → V K 0 0 mX12_damage 33 (kla [.ref 140, .int (nI e), .int (nI k), .int u, .int v]) [.ref 140] G Q := fun q => by
    refine V_iconst (v := nI 2) rfl (by decide) ?_
    refine V_goto rfl ?_
    exact t55 2 (by decide) (by decide) (by rw [if_pos q])
  refine V_iload_n rfl (by rfl) ?_
  refine V_if_ltZ rfl rfl (fun q => bad2 (Or.inl q)) (fun q1 => ?_)
  refine V_iload_n rfl (by rfl) ?_
  refine V_aload_n rfl (by first | rfl | assumption) ?_
  refine V_getf rfl rfl rfl (by repeat (first | exact hup_eq | assumption | refine Eq.trans (hup_ne (by first | assumption | exact Ne.symm (by assumption) | decide | omega)) ?_)) (by first | rfl | assumption) ?_
  refine V_bipush (v := nI 12) rfl (by decide) ?_
  refine V_iload_n rfl (by first | rfl | assumption) ?_
  refine V_imulN rfl ?_
  refine V_iload_n rfl (by first | rfl | assumption) ?_
  refine V_iaddN rfl ?_
  refine V_ialdN rfl (by repeat (first | exact hup_eq | assumption | refine Eq.trans (hup_ne (by first | assumption | exact Ne.symm (by assumption) | decide | omega)) ?_)) rfl (by first | omega | decide) (by first | omega | decide) ?_
  rw [z1]
  refine V_icmp_ltZ (b := (L : Int)) rfl rfl (nI_toInt (by omega)) (fun q2 => ?_) (fun q => bad2 (Or.inr (by omega)))
  clear bad2
  rw [if_neg (by omega)] at hq t55
  have bad3 : v.toInt < 0 ∨ 255 < v.toInt → V K 0 0 mX12_damage 50 (kla [.ref 140, .int (nI e), .int (nI k), .int u, .int v]) [.ref 140] G Q := fun q => by
    refine V_iconst (v := nI 3) rfl (by decide) ?_
    refine V_goto rfl ?_
    exact t55 3 (by decide) (by decide) (by rw [if_pos q])
  refine V_iload rfl (by rfl) ?_
  refine V_if_ltZ rfl rfl (fun q => bad3 (Or.inl q)) (fun q3 => ?_)
  refine V_iload rfl (by rfl) ?_
  refine V_sipush (v := 255) rfl (by decide) ?_
  refine V_icmp_leZ (b := 255) rfl rfl (by decide) (fun q4 => ?_) (fun q => bad3 (Or.inr (by omega)))
  clear bad3 t55
  rw [if_neg (by omega)] at hq
  obtain ⟨hc1, hc2⟩ := i32_n (x := u) (by omega)
  obtain ⟨i, hi⟩ : ∃ i, i = u.toInt.toNat := ⟨_, rfl⟩
  obtain ⟨hd1, hd2⟩ := i32_n (x := v) (by omega)
  obtain ⟨b, hb⟩ : ∃ b, b = v.toInt.toNat := ⟨_, rfl⟩
  rw [← hi] at hc1 hq
  rw [← hb] at hd1 hq
  have hiL : i < L := by omega
  have hb256 : b < 256 := by omega
  clear q1 q2 q3 q4 hi hb
  subst hc1 hd1
  refine V_iconst (v := nI 0) rfl (by decide) ?_
  refine V_pf_th rfl rfl rfl (by repeat (first | exact hup_eq | assumption | refine Eq.trans (hup_ne (by first | assumption | exact Ne.symm (by assumption) | decide | omega)) ?_)) ?_
  refine V_aload_n rfl (by first | rfl | assumption) ?_
  refine V_getf rfl rfl rfl (by repeat (first | exact hup_eq | assumption | refine Eq.trans (hup_ne (by first | assumption | exact Ne.symm (by assumption) | decide | omega)) ?_)) (by first | rfl | assumption) ?_
  refine V_if_neN rfl (by decide) (fun z => absurd rfl z) (fun _ => ?_)
  refine V_sipush (v := nI 240) rfl (by decide) ?_
  refine V_bipush (v := nI 12) rfl (by decide) ?_
  refine V_iload_n rfl (by first | rfl | assumption) ?_
  refine V_imulN rfl ?_
  refine V_iload_n rfl (by first | rfl | assumption) ?_
  refine V_iaddN rfl ?_
  refine V_imulN rfl ?_
  refine V_iload_n rfl (by first | rfl | assumption) ?_
  refine V_iaddN rfl ?_
  refine V_istore rfl (by decide) ?_
  refine V_aload_n rfl (by first | rfl | assumption) ?_
  refine V_getf rfl rfl rfl (by repeat (first | exact hup_eq | assumption | refine Eq.trans (hup_ne (by first | assumption | exact Ne.symm (by assumption) | decide | omega)) ?_)) (by first | rfl | assumption) ?_
  refine V_iload rfl (by first | rfl | assumption) ?_
  refine V_aload_n rfl (by first | rfl | assumption) ?_
  refine V_getf rfl rfl rfl (by repeat (first | exact hup_eq | assumption | refine Eq.trans (hup_ne (by first | assumption | exact Ne.symm (by assumption) | decide | omega)) ?_)) (by first | rfl | assumption) ?_
  refine V_iload rfl (by first | rfl | assumption) ?_
  refine V_baldB rfl (by repeat (first | exact hup_eq | assumption | refine Eq.trans (hup_ne (by first | assumption | exact Ne.symm (by assumption) | decide | omega)) ?_)) rfl (by first | omega | decide) (by first | omega | decide) ?_
  refine V_iload rfl (by first | rfl | assumption) ?_
  refine V_ixor rfl ?_
  refine V_i2b rfl ?_
  refine V_bastM rfl (by repeat (first | exact hup_eq | assumption | refine Eq.trans (hup_ne (by first | assumption | exact Ne.symm (by assumption) | decide | omega)) ?_)) rfl (by omega) (by decide) ?_
  have hwi := hwb (240 * (12 * e + k) + i)
  rw [lw_8, lw_xor, lw_B, lw_N, Nat.mod_eq_of_lt hwi, Nat.mod_eq_of_lt hb256, z3 i hiL]
  obtain ⟨nv, hnv⟩ : ∃ nv, nv = gD l i ^^^ b := ⟨_, rfl⟩
  have hnvb : nv < 256 := by rw [hnv, ← z3 i hiL]; exact xor_b hwi hb256
  rw [← hnv]
  have hdm : dmg S e k i b = sE S e (swi (S.1 e) ((wi (S.1 e)).set k (l.set i nv))) := by unfold dmg; rw [← hl, ← hnv]
  rw [hdm] at hq
  clear hdm hnv
  refine V_vret rfl rfl (hq _ ((FP.rf.hup (by decide)).hup (by decide)) (RMA.keep ⟨hR, ht, ho, hs, ps, rs, g140⟩ (hR.w ?_ es_swi rfl (fun j _ _ h => (hup_ne (by omega)).trans (hup_ne (by omega)))) ⟨(hup_ne (by decide)).trans (hup_ne (by decide)), (hup_ne (by decide)).trans (hup_ne (by decide))⟩ rfl ((hup_ne (by decide)).trans hup_eq)))
  refine ⟨?_, z, updN w (240 * (12 * e + k) + i) nv, (hup_ne (by decide)).trans ((hup_ne (by decide)).trans g177), hup_eq, fun j => ?_, fun i9 hi9 => ?_⟩
  · rw [hup_ne (by decide), hup_ne (by decide), w176]
    refine congrArg (fun f => some (BA 2 f)) ?_
    refine (pj_same (S := S) (fun s => (wi s).length) (e := e) (s := swi (S.1 e) ((wi (S.1 e)).set k (l.set i nv))) ?_).symm
    show ((wi (S.1 e)).set k (l.set i nv)).length = _
    rw [List.length_set]
  · by_cases q : j = 240 * (12 * e + k) + i
    · rw [q, updN_eq]; exact hnvb
    · rw [updN_ne q]; exact hwb j
  · by_cases q : i9 = e
    · subst q
      have ew : wi ((sE S i9 (swi (S.1 i9) ((wi (S.1 i9)).set k (l.set i nv)))).1 i9) = (wi (S.1 i9)).set k (l.set i nv) := by rw [sE_e]; rfl
      have ep : ∀ k9, pkA (sE S i9 (swi (S.1 i9) ((wi (S.1 i9)).set k (l.set i nv)))) i9 k9 = if k9 = k then l.set i nv else pkA S i9 k9 := fun k9 => by unfold pkA; rw [ew, getD_set hk]
      rw [ew, List.length_set]
      refine ⟨hz12, fun k9 hk9 => ?_⟩
      rw [ep k9]
      by_cases q2 : k9 = k
      · subst q2
        rw [if_pos rfl, List.length_set, ← hL]
        refine ⟨z1, z2, fun j hj => ?_⟩
        rw [gD_set (by omega)]
        by_cases q3 : j = i
        · rw [if_pos q3, q3, updN_eq]
        · rw [if_neg q3, updN_ne (by omega)]; exact z3 j hj
      · rw [if_neg q2]
        have := (hz i9 hi9).2 k9 hk9
        refine ⟨this.1, this.2.1, fun j hj => ?_⟩
        rw [updN_ne (by omega)]
        exact this.2.2 j hj
    · have ew : (sE S e (swi (S.1 e) ((wi (S.1 e)).set k (l.set i nv)))).1 i9 = S.1 i9 := sE_n q
      have ep : ∀ k9, pkA (sE S e (swi (S.1 e) ((wi (S.1 e)).set k (l.set i nv)))) i9 k9 = pkA S i9 k9 := fun k9 => by unfold pkA; rw [ew]
      rw [ew]
      have h12 := (hz i9 hi9).1
      refine ⟨h12, fun k9 hk9 => ?_⟩
      rw [ep k9]
      have := (hz i9 hi9).2 k9 hk9
      refine ⟨this.1, this.2.1, fun j hj => ?_⟩
      rw [updN_ne (by omega)]
      exact this.2.2 j hj
set_option maxHeartbeats 4000000 in
theorem c_Msend {x : Int32} {B : Nat} (hqt : qtO T.2.2) (h : RMA T S th G) (hB : bnd S B) (hB2 : B < 2 ^ 29) (hq : ∀ G', FP PM G G' → RMA T (aSd T S x.toInt).2.2 (nI (aSd T S x.toInt).1) G' → Q (.inl none) G') : C K 0 0 mX12_send [.ref 140, .int x] G Q := by
  obtain ⟨hR, ht, ho, hs, ps, rs, g140⟩ := id h
  obtain ⟨tb, g141, htb, htl, ht6⟩ := id ht
  refine C_of okX12_send (Nat.le_of_ble_eq_true rfl) ?_
  refine V_aload_n rfl (by rfl) ?_
  refine V_callV (M' := mX12_taken) (mc := 0) (ms := 0) (bc' := 0) (bs' := 0) rfl cw_X12_263 iv_X12_taken (by repeat (first | exact hup_eq | assumption | refine Eq.trans (hup_ne (by first | assumption | exact Ne.symm (by assumption) | decide | omega)) ?_)) rfl rfl (Nat.le_of_ble_eq_true rfl) ⟨Nat.le_of_ble_eq_true rfl, Nat.le_of_ble_eq_true rfl⟩ ⟨Nat.le_of_ble_eq_true rfl, Nat.le_of_ble_eq_true rfl⟩ (As := []) (c_mtaken (Q := fun o G1 => o = .inl (some (.int (nI (tpe S).length))) ∧ G1 = hup G 140 (MO th (nI 0) (nI (lou S).length) hs ps rs)) g140 ⟨rfl, rfl⟩) (fun o G1 h => ?_) (fun E G' h => by cases h.1)
  obtain ⟨h9, rfl⟩ := h
  cases h9
  have done : ∀ t : Nat, RMA T (tkn S) (nI t) (hup G 140 (MO (nI t) (nI 0) (nI (lou S).length) hs ps rs)) := fun t => ⟨RM.ob (S := S) hR, ht.nl.fp (hup_ne (by decide)), ho.fp (hup_ne (by decide)), hs, ps, rs, hup_eq⟩
  obtain ⟨n, hn⟩ : ∃ n, n = (tpe S).length := ⟨_, rfl⟩
  rw [← hn] at htl ht6 ⊢
  have t36 : ∀ t : Nat, 0 < t → t < 3 → aSd T S x.toInt = (t, 0, tkn S) → V K 0 0 mX12_send 36 (ls1 (kla [.ref 140, .int x]) 2 (.int (nI n))) [.int (nI t), .ref 140] (hup G 140 (MO th (nI 0) (nI (lou S).length) hs ps rs)) Q := by
    intro t h1 h2 U
    rw [U] at hq
    refine V_pf_th rfl rfl rfl (by repeat (first | exact hup_eq | assumption | refine Eq.trans (hup_ne (by first | assumption | exact Ne.symm (by assumption) | decide | omega)) ?_)) ?_
    refine V_aload_n rfl (by first | rfl | assumption) ?_
    refine V_getf rfl rfl rfl (by repeat (first | exact hup_eq | assumption | refine Eq.trans (hup_ne (by first | assumption | exact Ne.symm (by assumption) | decide | omega)) ?_)) (by first | rfl | assumption) ?_
    refine V_if_leN rfl (by omega) (fun z => absurd z (by omega)) (fun _ => ?_)
    rw [hup_hup]
    exact V_vret rfl rfl (hq _ (FP.rf.hup (by decide)) (done t))
  have bad1 : ¬ (x.toInt = 0 ∨ x.toInt = 1) → V K 0 0 mX12_send 15 (ls1 (kla [.ref 140, .int x]) 2 (.int (nI n))) [.ref 140] (hup G 140 (MO th (nI 0) (nI (lou S).length) hs ps rs)) Q := fun z => by
    refine V_iconst (v := nI 1) rfl (by decide) ?_
    refine V_goto rfl ?_
    exact t36 1 (by decide) (by decide) (by unfold aSd; rw [if_pos z])
  refine V_istore_n rfl (by decide) ?_
  refine V_aload_n rfl (by first | rfl | assumption) ?_
  refine V_iload_n rfl (by first | rfl | assumption) ?_
  refine V_if_ltZ rfl rfl (fun z => bad1 (by omega)) (fun z1 => ?_)
  refine V_iload_n rfl (by rfl) ?_
  refine V_iconst (v := 1) rfl (by decide) ?_
  refine V_icmp_leZ (b := 1) rfl rfl (by decide) (fun z2 => ?_) (fun z => bad1 (by omega))
  clear bad1
  obtain ⟨e, he, hxe, hxi⟩ := e_of z1 z2
  rw [hxi] at hq t36
  clear z1 z2 hxi
  subst hxe
  have bad2 : n < 1 ∨ 200 < n → V K 0 0 mX12_send 31 (ls1 (kla [.ref 140, .int (nI e)]) 2 (.int (nI n))) [.ref 140] (hup G 140 (MO th (nI 0) (nI (lou S).length) hs ps rs)) Q := fun z => by
    refine V_iconst (v := nI 2) rfl (by decide) ?_
    refine V_goto rfl ?_
    exact t36 2 (by decide) (by decide) (by unfold aSd; rw [if_neg (by omega), if_pos (by rw [hn] at z; exact z)])
  refine V_iload_n rfl (by first | rfl | assumption) ?_
  refine V_iconst (v := nI 1) rfl (by decide) ?_
  refine V_icmp_ltN rfl (by omega) (by decide) (fun z => bad2 (Or.inl z)) (fun z1 => ?_)
  refine V_iload_n rfl (by first | rfl | assumption) ?_
  refine V_sipush (v := nI 200) rfl (by decide) ?_
  refine V_icmp_leN rfl (by omega) (by decide) (fun z2 => ?_) (fun z => bad2 (Or.inr (by omega)))
  clear bad2 t36
  obtain ⟨m, hm⟩ : ∃ m, m = gD (tpe S) 0 := ⟨_, rfl⟩
  have htg : ∀ j, j < n → tb j = gD (tpe S) j := fun j hj => by
    have := gD_of (f := tb) (l := tpe S) (by rw [← hn]; exact htl) (j := j) (by omega)
    exact this.symm
  have hm0 : tb 0 = m := by rw [hm]; exact htg 0 (by omega)
  have hmb : m < 256 := by rw [← hm0]; exact htb 0
  have U0 : aSd T S (e : Int) = if mSd (S.1 e) m = false then (3, 0, tkn S) else (0, 0, snd T (tkn S) e (tpe S)) := by
    unfold aSd
    rw [if_neg (by omega), if_neg (by rw [hn] at z1 z2; omega), hm]
    rfl
  rw [U0] at hq
  clear U0
  obtain ⟨f0, f1, f2, f3, f4, f5, f6, f7⟩ := id hR.2.2.2.2.2.2.2.2.1
  have hb0 := htb 0
  refine V_iconst (v := nI 0) rfl (by decide) ?_
  refine V_pf_th rfl rfl rfl (by repeat (first | exact hup_eq | assumption | refine Eq.trans (hup_ne (by first | assumption | exact Ne.symm (by assumption) | decide | omega)) ?_)) ?_
  refine V_aload_n rfl (by first | rfl | assumption) ?_
  refine V_getf rfl rfl rfl (by repeat (first | exact hup_eq | assumption | refine Eq.trans (hup_ne (by first | assumption | exact Ne.symm (by assumption) | decide | omega)) ?_)) (by first | rfl | assumption) ?_
  refine V_if_le rfl (fun _ => ?_) (fun z => absurd (by decide) z)
  rw [hup_hup]
  obtain ⟨G1, hG1⟩ : ∃ G1, G1 = hup G 140 (MO (nI 0) (nI 0) (nI (lou S).length) hs ps rs) := ⟨_, rfl⟩
  rw [← hG1]
  have F1 : FP (fun j => j = 140) G G1 := by rw [hG1]; exact FP.rf.hup rfl
  have k140 : G1.1 140 = some (MO (nI 0) (nI 0) (nI (lou S).length) hs ps rs) := by rw [hG1, hup_eq]
  have hR1 : RM T S G1 := by rw [hG1]; exact hR.ob
  have k141 := F1.get (by decide) g141
  have k164 := F1.get (by decide) f0
  have k167 := F1.get (by decide) f2
  have k170 := F1.get (by decide) f5
  refine V_aload_n rfl (by first | rfl | assumption) ?_
  refine V_getf rfl rfl rfl (by repeat (first | exact hup_eq | assumption | refine Eq.trans (hup_ne (by first | assumption | exact Ne.symm (by assumption) | decide | omega)) ?_)) (by first | rfl | assumption) ?_
  refine V_iconst (v := nI 0) rfl (by decide) ?_
  refine V_baldB rfl (by repeat (first | exact hup_eq | assumption | refine Eq.trans (hup_ne (by first | assumption | exact Ne.symm (by assumption) | decide | omega)) ?_)) rfl (by first | omega | decide) (by first | omega | decide) ?_
  refine V_sipush (v := nI 255) rfl (by decide) ?_
  refine V_bandB rfl (by first | assumption | solve_by_elim | exact Nat.mod_lt _ (by decide) | omega) ?_
  rw [hm0]
  refine V_istore_n rfl (by decide) ?_
  have t91 : ∀ b : Bool, b = (fl (S.1 e) 2 && !fl (S.1 e) 5 && (decide (m < 1) || decide (3 < m))) → V K 0 0 mX12_send 91 (ls1 (ls1 (kla [.ref 140, .int (nI e)]) 2 (.int (nI n))) 3 (.int (nI m))) [.int (bI b)] G1 Q := by
    intro b hb
    refine V_istore rfl (by decide) ?_
    have bad3 : mSd (S.1 e) m = false → V K 0 0 mX12_send 121 (ls1 (ls1 (ls1 (kla [.ref 140, .int (nI e)]) 2 (.int (nI n))) 3 (.int (nI m))) 4 (.int (bI b))) [.ref 140] G1 Q := fun z => by
      rw [if_pos z] at hq
      refine V_iconst (v := nI 3) rfl (by decide) ?_
      refine V_goto rfl ?_
      refine V_pf_th rfl rfl rfl (by repeat (first | exact hup_eq | assumption | refine Eq.trans (hup_ne (by first | assumption | exact Ne.symm (by assumption) | decide | omega)) ?_)) ?_
      refine V_aload_n rfl (by first | rfl | assumption) ?_
      refine V_getf rfl rfl rfl (by repeat (first | exact hup_eq | assumption | refine Eq.trans (hup_ne (by first | assumption | exact Ne.symm (by assumption) | decide | omega)) ?_)) (by first | rfl | assumption) ?_
      refine V_if_le rfl (fun z => absurd z (by decide)) (fun _ => ?_)
      refine V_vret rfl rfl ?_
      rw [hG1, hup_hup]
      exact hq _ (FP.rf.hup (by decide)) (done 3)
    have good : mSd (S.1 e) m = true → V K 0 0 mX12_send 125 (ls1 (ls1 (ls1 (kla [.ref 140, .int (nI e)]) 2 (.int (nI n))) 3 (.int (nI m))) 4 (.int (bI b))) [.ref 140] G1 Q := fun z => by
      rw [if_neg (by rw [z]; decide)] at hq
      refine V_iconst (v := nI 0) rfl (by decide) ?_
      refine V_pf_th rfl rfl rfl (by repeat (first | exact hup_eq | assumption | refine Eq.trans (hup_ne (by first | assumption | exact Ne.symm (by assumption) | decide | omega)) ?_)) ?_
      refine V_aload_n rfl (by first | rfl | assumption) ?_
      refine V_getf rfl rfl rfl (by repeat (first | exact hup_eq | assumption | refine Eq.trans (hup_ne (by first | assumption | exact Ne.symm (by assumption) | decide | omega)) ?_)) (by first | rfl | assumption) ?_
      refine V_if_le rfl (fun _ => ?_) (fun z => absurd (by decide) z)
      refine V_aload_n rfl (by first | rfl | assumption) ?_
      refine V_iconst (v := nI 0) rfl (by decide) ?_
      refine V_pf_ps rfl rfl rfl (by repeat (first | exact hup_eq | assumption | refine Eq.trans (hup_ne (by first | assumption | exact Ne.symm (by assumption) | decide | omega)) ?_)) ?_
      refine V_aload_n rfl (by first | rfl | assumption) ?_
      refine V_aload_n rfl (by first | rfl | assumption) ?_
      refine V_getf rfl rfl rfl (by repeat (first | exact hup_eq | assumption | refine Eq.trans (hup_ne (by first | assumption | exact Ne.symm (by assumption) | decide | omega)) ?_)) (by first | rfl | assumption) ?_
      refine V_iconst (v := nI 0) rfl (by decide) ?_
      refine V_iload_n rfl (by first | rfl | assumption) ?_
      rw [hG1, hup_hup, hup_hup]
      have hp0 : plM [] (hup G 140 (MO (nI 0) (nI 0) (nI (lou S).length) hs (nI 0) rs)) := (plM.nl hR.1.2.2.2.2.2.1).fp (hup_ne (by decide))
      have etl : [] ++ lst (sft tb 0) n = tpe S := by
        rw [List.nil_append, show sft tb 0 = tb from funext (fun j => by unfold sft; rw [Nat.zero_add])]
        exact htl
      refine V_callV (M' := mX12_sayRow) (mc := 0) (ms := 0) (bc' := 0) (bs' := 0) rfl cw_X12_324 iv_X12_sayRow (by repeat (first | exact hup_eq | assumption | refine Eq.trans (hup_ne (by first | assumption | exact Ne.symm (by assumption) | decide | omega)) ?_)) rfl rfl (Nat.le_of_ble_eq_true rfl) ⟨Nat.le_of_ble_eq_true rfl, Nat.le_of_ble_eq_true rfl⟩ ⟨Nat.le_of_ble_eq_true rfl, Nat.le_of_ble_eq_true rfl⟩ (As := [.ref 141, .int (nI 0), .int (nI n)]) (c_msayRow (p := []) (Q := fun o G3 => o = .inl none ∧ FP PP2 (hup G 140 (MO (nI 0) (nI 0) (nI (lou S).length) hs (nI 0) rs)) G3 ∧ G3.1 140 = some (MO (nI 0) (nI 0) (nI (lou S).length) hs (nI (tpe S).length) rs) ∧ plM (tpe S) G3) hup_eq hp0 ((hup_ne (by decide)).trans g141) (by decide) (by omega) (by decide) htb (by show 0 + n ≤ 240; omega) (fun G3 h1 h2 h3 => by rw [etl] at h2 h3; exact ⟨rfl, h1, h2, h3⟩)) (fun o G3 h => ?_) (fun E G' h => by cases h.1)
      obtain ⟨h9, F3, j140, jp⟩ := h
      cases h9
      have FY : FP PP2 G G3 := (FP.rf.hup (by decide)).trans F3 (fun _ q => q)
      have hR3 : RM T (tkn S) G3 := RM.pl (S := S) hR FY jp
      have hb9 := hB e he 0 (by decide)
      refine V_aload_n rfl (by first | rfl | assumption) ?_
      refine V_iload_n rfl (by first | rfl | assumption) ?_
      refine V_callV (M' := mX12_post) (mc := 0) (ms := 0) (bc' := 0) (bs' := 0) rfl cw_X12_310 iv_X12_post (by repeat (first | exact hup_eq | assumption | refine Eq.trans (hup_ne (by first | assumption | exact Ne.symm (by assumption) | decide | omega)) ?_)) rfl rfl (Nat.le_of_ble_eq_true rfl) ⟨Nat.le_of_ble_eq_true rfl, Nat.le_of_ble_eq_true rfl⟩ ⟨Nat.le_of_ble_eq_true rfl, Nat.le_of_ble_eq_true rfl⟩ (As := [.int (nI e)]) (c_mpost (S := tkn S) (p := tpe S) (Q := fun o G4 => o = .inl none ∧ FP PW G3 G4 ∧ RM T (emt T (tkn S) e (tpe S)) G4) he hqt j140 hR3 jp (by omega) (by show nm (S.1 e) 0 < _; omega) (fun G4 h1 h2 => ⟨rfl, h1, h2⟩)) (fun o G4 h => ?_) (fun E G' h => by cases h.1)
      obtain ⟨h9, F4, hR4⟩ := h
      cases h9
      have FZ : FP PX G G4 := (FY.sub (fun x hx => by show _ ∧ _; omega)).trans F4 (fun x hx => by show _ ∧ _; omega)
      have i140 := F4.get (by decide) j140
      have i164 := hR4.2.2.2.2.2.2.2.2.1.1
      have fin : ∀ (G5 : kG) (S5 : SG), FP PX G G5 → G5.1 140 = some (MO (nI 0) (nI 0) (nI (lou S).length) hs (nI (tpe S).length) rs) → RM T S5 G5 → S5.2 = (tkn S).2 → snd T (tkn S) e (tpe S) = S5 → Q (.inl none) G5 := by
        intro G5 S5 q1 q2 q3 q4 q5
        rw [q5] at hq
        have e3 : tpe S5 = [] := congrArg (fun x => x.2.2) q4
        have e4 : lou S5 = lou S := congrArg (fun x => x.2.1) q4
        refine hq G5 q1.xm ⟨q3, ?_, ?_, hs, nI (tpe S).length, rs, ?_⟩
        · rw [e3]; exact ht.nl.fp (q1.2 _ (by decide))
        · rw [e4]; exact ho.fp (q1.2 _ (by decide))
        · rw [e3, e4]; exact q2
      refine V_aload_n rfl (by first | rfl | assumption) ?_
      refine V_getf rfl rfl rfl (by repeat (first | exact hup_eq | assumption | refine Eq.trans (hup_ne (by first | assumption | exact Ne.symm (by assumption) | decide | omega)) ?_)) (by first | rfl | assumption) ?_
      refine V_iload_n rfl (by first | rfl | assumption) ?_
      refine V_aload_n rfl (by first | rfl | assumption) ?_
      refine V_getf rfl rfl rfl (by repeat (first | exact hup_eq | assumption | refine Eq.trans (hup_ne (by first | assumption | exact Ne.symm (by assumption) | decide | omega)) ?_)) (by first | rfl | assumption) ?_
      refine V_iload_n rfl (by first | rfl | assumption) ?_
      refine V_zaldZ rfl (by repeat (first | exact hup_eq | assumption | refine Eq.trans (hup_ne (by first | assumption | exact Ne.symm (by assumption) | decide | omega)) ?_)) rfl (by first | omega | decide) (by first | omega | decide) ?_
      have t181 : ∀ (lc : kLo) (b : Bool), b = ((!fl ((emt T (tkn S) e (tpe S)).1 e) 0) || decide (m = 1)) → V K 0 0 mX12_send 181 lc [.int (bI b), .int (nI e), .ref 164] G4 Q := by
        intro lc b hb
        refine V_zastZ b rfl i164 rfl rfl (by omega) (by decide) ?_
        refine V_vret rfl rfl ?_
        by_cases m1 : m = 1
        · rw [decide_eq_true m1, Bool.or_true] at hb
          rw [hb]
          refine fin _ (sE (emt T (tkn S) e (tpe S)) e (sfl ((emt T (tkn S) e (tpe S)).1 e) 0 false)) (FZ.hup (by decide)) ((hup_ne (by decide)).trans i140) hR4.f0 (emt_2 he) ?_
          unfold snd
          rw [if_pos (by rw [← hm]; exact m1)]
        · rw [decide_eq_false m1, Bool.or_false] at hb
          rw [hb, up_same (f := fun j => !fl ((emt T (tkn S) e (tpe S)).1 j) 0) rfl, hup_same i164]
          refine fin _ _ FZ i140 hR4 (emt_2 he) ?_
          unfold snd
          rw [if_neg (by rw [← hm]; exact m1)]
      refine V_if_neB rfl (fun q => ?_) (fun q => ?_)
      · refine V_iconst (v := bI true) rfl (by decide) ?_
        refine V_goto rfl ?_
        exact t181 _ true (by rw [q]; rfl)
      · refine V_iload_n rfl (by rfl) ?_
        refine V_iconst (v := nI 1) rfl (by decide) ?_
        refine V_icmp_neN rfl (by omega) (by decide) (fun q2 => ?_) (fun q2 => ?_)
        · refine V_iconst (v := bI false) rfl (by decide) ?_
          exact t181 _ false (by rw [q, decide_eq_false q2]; rfl)
        · refine V_iconst (v := bI true) rfl (by decide) ?_
          refine V_goto rfl ?_
          exact t181 _ true (by rw [q, decide_eq_true q2]; rfl)
    refine V_aload_n rfl (by first | rfl | assumption) ?_
    refine V_aload_n rfl (by first | rfl | assumption) ?_
    refine V_getf rfl rfl rfl (by repeat (first | exact hup_eq | assumption | refine Eq.trans (hup_ne (by first | assumption | exact Ne.symm (by assumption) | decide | omega)) ?_)) (by first | rfl | assumption) ?_
    refine V_iload_n rfl (by first | rfl | assumption) ?_
    refine V_zaldZ rfl (by repeat (first | exact hup_eq | assumption | refine Eq.trans (hup_ne (by first | assumption | exact Ne.symm (by assumption) | decide | omega)) ?_)) rfl (by first | omega | decide) (by first | omega | decide) ?_
    refine V_if_neB rfl (fun q => bad3 ?_) (fun q0 => ?_)
    · have : fl (S.1 e) 0 = false := by cases h : fl (S.1 e) 0; rfl; rw [h] at q; cases q
      unfold mSd; rw [this]; rfl
    have hf : fl (S.1 e) 0 = true := by cases h : fl (S.1 e) 0; rw [h] at q0; cases q0; rfl
    refine V_iload rfl (by rfl) ?_
    refine V_if_neB rfl (fun q => bad3 ?_) (fun q1 => ?_)
    · rw [hb, Bool.and_eq_true] at q
      have h3 : ¬ m = 1 ∧ ¬ m = 2 ∧ ¬ m = 3 := by
        have := q.2
        simp only [Bool.or_eq_true, decide_eq_true_eq] at this
        omega
      unfold mSd
      rw [q.1, decide_eq_false h3.1, decide_eq_false h3.2.1, decide_eq_false h3.2.2]
      simp
    have hbf : (!(fl (S.1 e) 2 && !fl (S.1 e) 5) || decide (m = 1) || decide (m = 2) || decide (m = 3)) = true := by
      rw [q1] at hb
      cases hc : (fl (S.1 e) 2 && !fl (S.1 e) 5)
      · rfl
      · rw [hc, Bool.true_and] at hb
        have h4 : ¬ (m < 1) ∧ ¬ 3 < m := by
          have h5 := hb.symm
          simp only [Bool.or_eq_false_iff, decide_eq_false_iff_not] at h5
          exact h5
        have : m = 1 ∨ m = 2 ∨ m = 3 := by omega
        rcases this with rfl | rfl | rfl <;> rfl
    refine V_iload_n rfl (by rfl) ?_
    refine V_callS (M' := mX12_hasPlace) (mc := 0) (ms := 0) (bc' := 0) (bs' := 0) rfl cw_X12_367 is_X12_hasPlace rfl (Nat.le_of_ble_eq_true rfl) ⟨Nat.le_of_ble_eq_true rfl, Nat.le_of_ble_eq_true rfl⟩ ⟨Nat.le_of_ble_eq_true rfl, Nat.le_of_ble_eq_true rfl⟩ (As := [.int (nI m)]) (c_mhasPlace (Q := fun o G9 => o = .inl (some (.int (bI (hpl m)))) ∧ G9 = G1) (by omega) ⟨rfl, rfl⟩) (fun o G9 h => ?_) (fun E G' h => by cases h.1)
    obtain ⟨h9, h8⟩ := h
    cases h9
    rw [h8]
    refine V_if_eqB rfl (fun q2 => good ?_) (fun q2 => ?_)
    · have hmm : ¬ (m = 20 ∨ m = 21 ∨ m = 30 ∨ m = 31 ∨ m = 94) := of_decide_eq_false q2
      unfold mSd
      rw [hf, hbf, decide_eq_false (by omega : ¬ m = 20), decide_eq_false (by omega : ¬ m = 21), decide_eq_false (by omega : ¬ m = 30), decide_eq_false (by omega : ¬ m = 31)]
      rfl
    · have hmm : m = 20 ∨ m = 21 ∨ m = 30 ∨ m = 31 ∨ m = 94 := of_decide_eq_true q2
      refine V_iload_n rfl (by first | rfl | assumption) ?_
      refine V_bipush (v := nI 94) rfl (by decide) ?_
      refine V_icmp_eqN rfl (by omega) (by decide) (fun q3 => good ?_) (fun q3 => bad3 ?_)
      · unfold mSd
        rw [hf, hbf, q3]
        rfl
      · unfold mSd
        have : m = 20 ∨ m = 21 ∨ m = 30 ∨ m = 31 := by omega
        rcases this with rfl | rfl | rfl | rfl <;> simp
  have no : (fl (S.1 e) 2 && !fl (S.1 e) 5 && (decide (m < 1) || decide (3 < m))) = false → V K 0 0 mX12_send 90 (ls1 (ls1 (kla [.ref 140, .int (nI e)]) 2 (.int (nI n))) 3 (.int (nI m))) [] G1 Q := fun z => by
    refine V_iconst (v := bI false) rfl (by decide) ?_
    exact t91 false z.symm
  have yes : (fl (S.1 e) 2 && !fl (S.1 e) 5 && (decide (m < 1) || decide (3 < m))) = true → V K 0 0 mX12_send 86 (ls1 (ls1 (kla [.ref 140, .int (nI e)]) 2 (.int (nI n))) 3 (.int (nI m))) [] G1 Q := fun z => by
    refine V_iconst (v := bI true) rfl (by decide) ?_
    refine V_goto rfl ?_
    exact t91 true z.symm
  clear t91
  refine V_aload_n rfl (by first | rfl | assumption) ?_
  refine V_getf rfl rfl rfl (by repeat (first | exact hup_eq | assumption | refine Eq.trans (hup_ne (by first | assumption | exact Ne.symm (by assumption) | decide | omega)) ?_)) (by first | rfl | assumption) ?_
  refine V_iload_n rfl (by first | rfl | assumption) ?_
  refine V_zaldZ rfl (by repeat (first | exact hup_eq | assumption | refine Eq.trans (hup_ne (by first | assumption | exact Ne.symm (by assumption) | decide | omega)) ?_)) rfl (by first | omega | decide) (by first | omega | decide) ?_
  refine V_if_eqB rfl (fun q => no (by rw [q]; rfl)) (fun q1 => ?_)
  refine V_aload_n rfl (by first | rfl | assumption) ?_
  refine V_getf rfl rfl rfl (by repeat (first | exact hup_eq | assumption | refine Eq.trans (hup_ne (by first | assumption | exact Ne.symm (by assumption) | decide | omega)) ?_)) (by first | rfl | assumption) ?_
  refine V_iload_n rfl (by first | rfl | assumption) ?_
  refine V_zaldZ rfl (by repeat (first | exact hup_eq | assumption | refine Eq.trans (hup_ne (by first | assumption | exact Ne.symm (by assumption) | decide | omega)) ?_)) rfl (by first | omega | decide) (by first | omega | decide) ?_
  refine V_if_neB rfl (fun q => no (by rw [q]; simp)) (fun q2 => ?_)
  refine V_iload_n rfl (by first | rfl | assumption) ?_
  refine V_iconst (v := nI 1) rfl (by decide) ?_
  refine V_icmp_ltN rfl (by omega) (by decide) (fun q => yes (by rw [q1, q2, decide_eq_true q]; rfl)) (fun q3 => ?_)
  refine V_iload_n rfl (by first | rfl | assumption) ?_
  refine V_iconst (v := nI 3) rfl (by decide) ?_
  exact V_icmp_leN rfl (by omega) (by decide) (fun q => no (by rw [q1, q2, decide_eq_false q3, decide_eq_false (by omega)]; rfl)) (fun q => yes (by rw [q1, q2, decide_eq_true (show 3 < m by omega), Bool.or_true]; rfl))
end MApi7
