section MApi3
variable {K : kK} {G : kG} {Q : kO → kG → Prop} {T : TB} {S : SG} {th ta os hs ps rs : Int32}
theorem rwo_sH {k : Nat} {r : Nat → Nat} : rwo S (sH S k r) := fun j => ⟨rfl, rfl, rfl, rfl, rfl⟩
/-- a row is set -/
theorem RM.set_r {m : Nat} {R g l : Nat → Nat} {G' : kG} (h : RM T S G) (hP : rowP S R) (hm : m < 4) (hg : ∀ j, j < 32 → g j = l j) (hl : ∀ j, j < 32 → l j < 256) (F : ∀ j, 143 ≤ j → j ≤ 181 → j ≠ 157 → G'.1 j = G.1 j) (h7 : G'.1 157 = some (YA 640 (ovw R (32 * (if m < 2 then m else m + 4)) 32 g))) : RM T (if m < 2 then sE S m (srw (S.1 m) 0 l) else sH S (m - 2) l) G' := by
  rw [ovw_congr hg] at h7
  by_cases z : m < 2
  · rw [if_pos z] at h7 ⊢
    exact h.r157 F rwo_sE (fun i j hi => srw_o (by omega) j) ⟨_, h7, hP.w0 z hl⟩
  · rw [if_neg z] at h7 ⊢
    have e : 32 * (m + 4) = 32 * (6 + (m - 2)) := by omega
    rw [e] at h7
    exact h.r157 F rwo_sH (fun i j hi => rfl) ⟨_, h7, hP.h (by omega) hl⟩
theorem RM.set_c {e : Nat} {c g l : Nat → Nat} {G' : kG} (h : RM T S G) (hc : (∀ j, c j < 256) ∧ ∀ e, e < 2 → ∀ j, j < 8 → c (8 * e + j) = rw9 (S.1 e) 1 j) (he : e < 2) (hg : ∀ j, j < 8 → g j = l j) (hl : ∀ j, j < 8 → l j < 256) (F : ∀ j, 143 ≤ j → j ≤ 181 → j ≠ 158 → G'.1 j = G.1 j) (h8 : G'.1 158 = some (YA 16 (ovw c (8 * e) 8 g))) : RM T (sE S e (srw (S.1 e) 1 l)) G' := by
  rw [ovw_congr hg] at h8
  refine h.r158 F rwo_sE (fun i j hi => srw_o hi j) rfl ⟨_, h8, ovw_lt hc.1 hl, fun i hi j hj => ?_⟩
  by_cases z : i = e
  · subst z; rw [srw_e, ovw_in hj]
  · rw [srw_n z, ovw_out (by omega)]; exact hc.2 i hi j hj
set_option maxHeartbeats 4000000 in
theorem c_Mset {x : Int32} (h : RMA T S th G) (hq : ∀ G', FP PM G G' → RMA T (aSt S x.toInt).2.2 (nI (aSt S x.toInt).1) G' → Q (.inl none) G') : C K 0 0 mX12_set [.ref 140, .int x] G Q := by
  obtain ⟨hR, ht, ho, hs, ps, rs, g140⟩ := h
  obtain ⟨b, g141, hb, hl, hl6⟩ := id ht
  refine C_of okX12_set (Nat.le_of_ble_eq_true rfl) ?_
  refine V_aload_n rfl (by rfl) ?_
  refine V_callV (M' := mX12_taken) (mc := 0) (ms := 0) (bc' := 0) (bs' := 0) rfl cw_X12_263 iv_X12_taken (by repeat (first | exact hup_eq | assumption | refine Eq.trans (hup_ne (by first | assumption | exact Ne.symm (by assumption) | decide | omega)) ?_)) rfl rfl (Nat.le_of_ble_eq_true rfl) ⟨Nat.le_of_ble_eq_true rfl, Nat.le_of_ble_eq_true rfl⟩ ⟨Nat.le_of_ble_eq_true rfl, Nat.le_of_ble_eq_true rfl⟩ (As := []) (c_mtaken (Q := fun o G1 => o = .inl (some (.int (nI (tpe S).length))) ∧ G1 = hup G 140 (MO th (nI 0) (nI (lou S).length) hs ps rs)) g140 ⟨rfl, rfl⟩) (fun o G1 h => ?_) (fun E G' h => by cases h.1)
  obtain ⟨h, rfl⟩ := h
  cases h
  have t40 : ∀ t : Nat, 0 < t → t < 3 → aSt S x.toInt = (t, 0, tkn S) → V K 0 0 mX12_set 40 (ls1 (kla [.ref 140, .int x]) 2 (.int (nI (tpe S).length))) [.int (nI t), .ref 140] (hup G 140 (MO th (nI 0) (nI (lou S).length) hs ps rs)) Q := by
    intro t h1 h2 U
    rw [U] at hq
    refine V_pf_th rfl rfl rfl (by repeat (first | exact hup_eq | assumption | refine Eq.trans (hup_ne (by first | assumption | exact Ne.symm (by assumption) | decide | omega)) ?_)) ?_
    refine V_aload_n rfl (by first | rfl | assumption) ?_
    refine V_getf rfl rfl rfl (by repeat (first | exact hup_eq | assumption | refine Eq.trans (hup_ne (by first | assumption | exact Ne.symm (by assumption) | decide | omega)) ?_)) (by first | rfl | assumption) ?_
    refine V_if_leN rfl (by omega) (fun z => absurd z (by omega)) (fun _ => ?_)
    rw [hup_hup]
    exact V_vret rfl rfl (hq _ (FP.rf.hup (by decide)) ⟨RM.ob (S := S) hR, ht.nl.fp (hup_ne (by decide)), ho.fp (hup_ne (by decide)), hs, ps, rs, hup_eq⟩)
  have bad : x.toInt < 0 ∨ 5 < x.toInt → V K 0 0 mX12_set 15 (ls1 (kla [.ref 140, .int x]) 2 (.int (nI (tpe S).length))) [.ref 140] (hup G 140 (MO th (nI 0) (nI (lou S).length) hs ps rs)) Q := by
    intro z
    refine V_iconst (v := nI 1) rfl (by decide) ?_
    refine V_goto rfl ?_
    exact t40 1 (by decide) (by decide) (by unfold aSt; rw [if_pos z])
  refine V_istore_n rfl (by decide) ?_
  refine V_aload_n rfl (by first | rfl | assumption) ?_
  refine V_iload_n rfl (by first | rfl | assumption) ?_
  refine V_if_ltZ rfl rfl (fun z => bad (Or.inl z)) (fun z1 => ?_)
  refine V_iload_n rfl (by rfl) ?_
  refine V_iconst (v := 5) rfl (by decide) ?_
  refine V_icmp_leZ (b := 5) rfl rfl (by decide) (fun z2 => ?_) (fun z => bad (Or.inr (by omega)))
  clear bad
  obtain ⟨hc1, hc2⟩ := i32_n (x := x) (by omega)
  obtain ⟨m, hm⟩ : ∃ m, m = x.toInt.toNat := ⟨_, rfl⟩
  have hxm : x.toInt = (m : Int) := by omega
  rw [hxm] at hq t40
  rw [← hm] at hc1 hc2
  have hm5 : m ≤ 5 := by omega
  clear hm hxm z1 z2
  subst hc1
  obtain ⟨n, hn⟩ : ∃ n, n = if m < 4 then 32 else 8 := ⟨_, rfl⟩
  have hnn : n ≤ 32 := by rw [hn]; split <;> omega
  have t32 : V K 0 0 mX12_set 32 (ls1 (kla [.ref 140, .int (nI m)]) 2 (.int (nI (tpe S).length))) [.int (nI n), .int (nI (tpe S).length), .ref 140] (hup G 140 (MO th (nI 0) (nI (lou S).length) hs ps rs)) Q := by
    refine V_icmp_eqN rfl (by omega) (by omega) (fun z => ?_) (fun z => ?_)
    rotate_left
    · refine V_iconst (v := nI 2) rfl (by decide) ?_
      refine V_goto rfl ?_
      refine t40 2 (by decide) (by decide) ?_
      unfold aSt
      rw [if_neg (by omega), if_pos ?_]
      rw [hn] at z
      by_cases q : m < 4
      · rw [if_pos (by omega)]; rw [if_pos q] at z; exact z
      · rw [if_neg (by omega)]; rw [if_neg q] at z; exact z
    clear t40
    have U : aSt S (m : Int) = (0, 0, sRw (tkn S) m (tpe S)) := by
      unfold aSt
      rw [if_neg (by omega), if_neg ?_]
      rw [hn] at z
      by_cases q : m < 4
      · rw [if_pos (by omega)]; rw [if_pos q] at z; exact fun y => y z
      · rw [if_neg (by omega)]; rw [if_neg q] at z; exact fun y => y z
    rw [U] at hq
    refine V_iconst (v := nI 0) rfl (by decide) ?_
    refine V_pf_th rfl rfl rfl (by repeat (first | exact hup_eq | assumption | refine Eq.trans (hup_ne (by first | assumption | exact Ne.symm (by assumption) | decide | omega)) ?_)) ?_
    refine V_aload_n rfl (by first | rfl | assumption) ?_
    refine V_getf rfl rfl rfl (by repeat (first | exact hup_eq | assumption | refine Eq.trans (hup_ne (by first | assumption | exact Ne.symm (by assumption) | decide | omega)) ?_)) (by first | rfl | assumption) ?_
    refine V_if_le rfl (fun _ => ?_) (fun z => absurd (by decide) z)
    rw [hup_hup, z]
    refine V_iconst (v := nI 0) rfl (by decide) ?_
    refine V_istore_n rfl (by decide) ?_
    obtain ⟨G1, hG1⟩ : ∃ G1, G1 = hup G 140 (MO (nI 0) (nI 0) (nI (lou S).length) hs ps rs) := ⟨_, rfl⟩
    rw [← hG1]
    have F1 : FP (fun j => j = 140) G G1 := by rw [hG1]; exact FP.rf.hup rfl
    have k140 : G1.1 140 = some (MO (nI 0) (nI 0) (nI (lou S).length) hs ps rs) := by rw [hG1, hup_eq]
    have hR1 : RM T S G1 := by rw [hG1]; exact hR.ob
    clear hG1
    have k141 := F1.get (by decide) g141
    have ho1 := ho.fp (F1.2 142 (by decide))
    have ht1 := ht.nl.fp (F1.2 141 (by decide))
    obtain ⟨R, k157, hRP⟩ := id hR1.2.1
    obtain ⟨c, k158, hcP⟩ := id hR1.2.2.1
    have hgd : ∀ j, j < n → b j = gD (tpe S) j := fun j hj => (gD_of hl (by omega)).symm
    have hgb : ∀ j, j < n → gD (tpe S) j < 256 := fun j hj => by rw [← hgd j hj]; exact hb j
    by_cases h4 : m < 4
    · have hn32 : n = 32 := by rw [hn, if_pos h4]
      rw [hn32] at hgd hgb ⊢
      obtain ⟨ro, hro⟩ : ∃ ro, ro = if m < 2 then m else m + 4 := ⟨_, rfl⟩
      have hro2 : ro < 8 := by rw [hro]; split <;> omega
      refine V_loop 32 (fun i lc G' => lc 0 = some (.ref 140) ∧ lc 1 = some (.int (nI m)) ∧ lc 2 = some (.int (nI 32)) ∧ lc 3 = some (.int (nI i)) ∧ G' = hup G1 157 (YA 640 (ovw R (32 * ro) i b))) ?_ ?_ 0 _ _ (Nat.zero_le _) ⟨rfl, rfl, rfl, rfl, by rw [ovw_0, hup_same k157]⟩
      · rintro i lc G' hi ⟨l0, l1, l2, l3, rfl⟩ ih
        refine V_iload_n rfl (by first | rfl | assumption) ?_
        refine V_iload_n rfl (by first | rfl | assumption) ?_
        refine V_icmp_geN rfl (by omega) (by decide) (fun h => absurd h (by omega)) (fun _ => ?_)
        refine V_iload_n rfl (by first | rfl | assumption) ?_
        refine V_iconst (v := nI 3) rfl (by decide) ?_
        refine V_icmp_leN rfl (by omega) (by decide) (fun _ => ?_) (fun h => absurd (by omega) h)
        have t101 : V K 0 0 mX12_set 101 lc [.int (nI ro), .ref 157] (hup G1 157 (YA 640 (ovw R (32 * ro) i b))) Q := by
          refine V_callS (M' := mX12_row) (mc := 0) (ms := 0) (bc' := 0) (bs' := 0) rfl cw_X12_267 is_X12_row rfl (Nat.le_of_ble_eq_true rfl) ⟨Nat.le_of_ble_eq_true rfl, Nat.le_of_ble_eq_true rfl⟩ ⟨Nat.le_of_ble_eq_true rfl, Nat.le_of_ble_eq_true rfl⟩ (As := [.int (nI ro)]) (c_mrow (Q := fun o G2 => o = .inl (some (.int (nI (32 * ro)))) ∧ G2 = hup G1 157 (YA 640 (ovw R (32 * ro) i b))) ⟨rfl, rfl⟩) (fun o G2 h => ?_) (fun E G' h => by cases h.1)
          obtain ⟨h, rfl⟩ := h
          cases h
          refine V_iload_n rfl (by first | rfl | assumption) ?_
          refine V_iaddN rfl ?_
          refine V_aload_n rfl (by first | rfl | assumption) ?_
          refine V_getf rfl rfl rfl (by repeat (first | exact hup_eq | assumption | refine Eq.trans (hup_ne (by first | assumption | exact Ne.symm (by assumption) | decide | omega)) ?_)) (by first | rfl | assumption) ?_
          refine V_iload_n rfl (by first | rfl | assumption) ?_
          refine V_baldB rfl (by repeat (first | exact hup_eq | assumption | refine Eq.trans (hup_ne (by first | assumption | exact Ne.symm (by assumption) | decide | omega)) ?_)) rfl (by first | omega | decide) (by first | omega | decide) ?_
          refine V_bastB rfl (by repeat (first | exact hup_eq | assumption | refine Eq.trans (hup_ne (by first | assumption | exact Ne.symm (by assumption) | decide | omega)) ?_)) rfl (by first | omega | decide) (by first | omega | decide) (by first | assumption | solve_by_elim | exact Nat.mod_lt _ (by decide) | omega) ?_
          refine V_iincN (d := 1) rfl (by first | rfl | assumption) (by decide) (by decide) ?_
          refine V_goto rfl ?_
          rw [hup_hup, ovw_s]
          exact ih _ _ ⟨l0, l1, l2, rfl, rfl⟩
        refine V_aload_n rfl (by first | rfl | assumption) ?_
        refine V_getf rfl rfl rfl (by repeat (first | exact hup_eq | assumption | refine Eq.trans (hup_ne (by first | assumption | exact Ne.symm (by assumption) | decide | omega)) ?_)) (by first | rfl | assumption) ?_
        refine V_iload_n rfl (by first | rfl | assumption) ?_
        refine V_iconst (v := nI 2) rfl (by decide) ?_
        refine V_icmp_geN rfl (by omega) (by decide) (fun h2 => ?_) (fun h2 => ?_)
        · rw [if_neg (by omega)] at hro
          rw [hro] at t101 ⊢
          refine V_iload_n rfl (by first | rfl | assumption) ?_
          refine V_iconst (v := nI 4) rfl (by decide) ?_
          refine V_iaddN rfl ?_
          exact t101
        · rw [if_pos (by omega)] at hro
          rw [hro] at t101 ⊢
          refine V_iload_n rfl (by first | rfl | assumption) ?_
          refine V_goto rfl ?_
          exact t101
      · rintro lc G' ⟨l0, l1, l2, l3, rfl⟩
        refine V_iload_n rfl (by first | rfl | assumption) ?_
        refine V_iload_n rfl (by first | rfl | assumption) ?_
        refine V_icmp_geN rfl (by decide) (by decide) (fun _ => ?_) (fun h => absurd (Nat.le_refl _) h)
        have hfin := RM.set_r (m := m) (G' := hup G1 157 (YA 640 (ovw R (32 * ro) 32 b))) hR1 hRP h4 hgd hgb (fun j _ _ h => hup_ne h) (by rw [hup_eq, hro])
        refine V_vret rfl rfl (hq _ ((F1.sub (fun x hx => by rw [hx]; decide)).hup (by decide)) ⟨?_, ?_, ?_, hs, ps, rs, ?_⟩)
        · have : m = 0 ∨ m = 1 ∨ m = 2 ∨ m = 3 := by omega
          rcases this with rfl | rfl | rfl | rfl
          · exact hfin
          · exact hfin
          · exact hfin
          · exact hfin
        · have e : tpe (sRw (tkn S) (m : Int) (tpe S)) = [] := by unfold sRw; repeat (first | rfl | split)
          show tpM 141 600 (tpe (sRw (tkn S) (m : Int) (tpe S))) _
          rw [e]
          exact ht1.fp (hup_ne (by decide))
        · have e : lou (sRw (tkn S) (m : Int) (tpe S)) = lou S := by unfold sRw; repeat (first | rfl | split)
          show tpM 142 64 (lou (sRw (tkn S) (m : Int) (tpe S))) _
          rw [e]
          exact ho1.fp (hup_ne (by decide))
        · have e1 : tpe (sRw (tkn S) (m : Int) (tpe S)) = [] := by unfold sRw; repeat (first | rfl | split)
          have e2 : lou (sRw (tkn S) (m : Int) (tpe S)) = lou S := by unfold sRw; repeat (first | rfl | split)
          show _ = some (MO (nI 0) (nI (tpe (sRw (tkn S) (m : Int) (tpe S))).length) (nI (lou (sRw (tkn S) (m : Int) (tpe S))).length) hs ps rs)
          rw [e1, e2, hup_ne (by decide)]
          exact k140
    · have hn8 : n = 8 := by rw [hn, if_neg h4]
      rw [hn8] at hgd hgb ⊢
      refine V_loop 8 (fun i lc G' => lc 0 = some (.ref 140) ∧ lc 1 = some (.int (nI m)) ∧ lc 2 = some (.int (nI 8)) ∧ lc 3 = some (.int (nI i)) ∧ G' = hup G1 158 (YA 16 (ovw c (8 * (m - 4)) i b))) ?_ ?_ 0 _ _ (Nat.zero_le _) ⟨rfl, rfl, rfl, rfl, by rw [ovw_0, hup_same k158]⟩
      · rintro i lc G' hi ⟨l0, l1, l2, l3, rfl⟩ ih
        refine V_iload_n rfl (by first | rfl | assumption) ?_
        refine V_iload_n rfl (by first | rfl | assumption) ?_
        refine V_icmp_geN rfl (by omega) (by decide) (fun h => absurd h (by omega)) (fun _ => ?_)
        refine V_iload_n rfl (by first | rfl | assumption) ?_
        refine V_iconst (v := nI 3) rfl (by decide) ?_
        refine V_icmp_leN rfl (by omega) (by decide) (fun h => absurd h (by omega)) (fun _ => ?_)
        refine V_aload_n rfl (by first | rfl | assumption) ?_
        refine V_getf rfl rfl rfl (by repeat (first | exact hup_eq | assumption | refine Eq.trans (hup_ne (by first | assumption | exact Ne.symm (by assumption) | decide | omega)) ?_)) (by first | rfl | assumption) ?_
        refine V_bipush (v := nI 8) rfl (by decide) ?_
        refine V_iload_n rfl (by first | rfl | assumption) ?_
        refine V_iconst (v := nI 4) rfl (by decide) ?_
        refine V_isubN rfl (by first | omega | decide) ?_
        refine V_imulN rfl ?_
        refine V_iload_n rfl (by first | rfl | assumption) ?_
        refine V_iaddN rfl ?_
        refine V_aload_n rfl (by first | rfl | assumption) ?_
        refine V_getf rfl rfl rfl (by repeat (first | exact hup_eq | assumption | refine Eq.trans (hup_ne (by first | assumption | exact Ne.symm (by assumption) | decide | omega)) ?_)) (by first | rfl | assumption) ?_
        refine V_iload_n rfl (by first | rfl | assumption) ?_
        refine V_baldB rfl (by repeat (first | exact hup_eq | assumption | refine Eq.trans (hup_ne (by first | assumption | exact Ne.symm (by assumption) | decide | omega)) ?_)) rfl (by first | omega | decide) (by first | omega | decide) ?_
        refine V_bastB rfl (by repeat (first | exact hup_eq | assumption | refine Eq.trans (hup_ne (by first | assumption | exact Ne.symm (by assumption) | decide | omega)) ?_)) rfl (by first | omega | decide) (by first | omega | decide) (by first | assumption | solve_by_elim | exact Nat.mod_lt _ (by decide) | omega) ?_
        refine V_goto rfl ?_
        refine V_iincN (d := 1) rfl (by first | rfl | assumption) (by decide) (by decide) ?_
        refine V_goto rfl ?_
        rw [hup_hup, ovw_s]
        exact ih _ _ ⟨l0, l1, l2, rfl, rfl⟩
      · rintro lc G' ⟨l0, l1, l2, l3, rfl⟩
        refine V_iload_n rfl (by first | rfl | assumption) ?_
        refine V_iload_n rfl (by first | rfl | assumption) ?_
        refine V_icmp_geN rfl (by decide) (by decide) (fun _ => ?_) (fun h => absurd (Nat.le_refl _) h)
        have hfin := RM.set_c (e := m - 4) (G' := hup G1 158 (YA 16 (ovw c (8 * (m - 4)) 8 b))) hR1 hcP (by omega) hgd hgb (fun j _ _ h => hup_ne h) hup_eq
        refine V_vret rfl rfl (hq _ ((F1.sub (fun x hx => by rw [hx]; decide)).hup (by decide)) ⟨?_, ?_, ?_, hs, ps, rs, ?_⟩)
        · have : m = 4 ∨ m = 5 := by omega
          rcases this with rfl | rfl
          · exact hfin
          · exact hfin
        · have e : tpe (sRw (tkn S) (m : Int) (tpe S)) = [] := by unfold sRw; repeat (first | rfl | split)
          show tpM 141 600 (tpe (sRw (tkn S) (m : Int) (tpe S))) _
          rw [e]
          exact ht1.fp (hup_ne (by decide))
        · have e : lou (sRw (tkn S) (m : Int) (tpe S)) = lou S := by unfold sRw; repeat (first | rfl | split)
          show tpM 142 64 (lou (sRw (tkn S) (m : Int) (tpe S))) _
          rw [e]
          exact ho1.fp (hup_ne (by decide))
        · have e1 : tpe (sRw (tkn S) (m : Int) (tpe S)) = [] := by unfold sRw; repeat (first | rfl | split)
          have e2 : lou (sRw (tkn S) (m : Int) (tpe S)) = lou S := by unfold sRw; repeat (first | rfl | split)
          show _ = some (MO (nI 0) (nI (tpe (sRw (tkn S) (m : Int) (tpe S))).length) (nI (lou (sRw (tkn S) (m : Int) (tpe S))).length) hs ps rs)
          rw [e1, e2, hup_ne (by decide)]
          exact k140
  refine V_iload_n rfl (by first | rfl | assumption) ?_
  refine V_iload_n rfl (by first | rfl | assumption) ?_
  refine V_iconst (v := nI 4) rfl (by decide) ?_
  refine V_icmp_geN rfl (by omega) (by decide) (fun h2 => ?_) (fun h2 => ?_)
  · rw [if_neg (by omega)] at hn
    rw [hn] at t32
    refine V_bipush (v := nI 8) rfl (by decide) ?_
    exact t32
  · rw [if_pos (by omega)] at hn
    rw [hn] at t32
    refine V_bipush (v := nI 32) rfl (by decide) ?_
    refine V_goto rfl ?_
    exact t32
end MApi3
