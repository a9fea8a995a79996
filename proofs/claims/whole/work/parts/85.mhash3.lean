section MHash3
variable {K : kK} {G : kG} {Q : kO → kG → Prop} {th ta os hs ps rs : Int32}
abbrev PH (j : Nat) : Prop := j = 147 ∨ j = 148 ∨ j = 149 ∨ j = 151
set_option maxHeartbeats 8000000 in
theorem c_mhend {tc ta9 Nt : Nat} {o : Nat → Nat} {l : List Nat} {T : TB} (g140 : G.1 140 = some (MO th ta os (nI l.length) ps rs)) (hm : hM T G) (hl : mhl l G) (hln : l.length ≤ 700) (gt9 : G.1 tc = some (YA Nt o)) (htc : tc = 157 ∨ tc = 161) (hNt : ta9 + 32 ≤ Nt ∧ Nt < 2 ^ 20)
    (hq : ∀ G', FP (fun j => PH j ∨ j = tc) G G' → hM T G' → mhl [] G' → G'.1 tc = some (YA Nt (ovw o ta9 32 (hL T l))) → Q (.inl none) G') : C K 0 0 mX12_hashEnd [.ref 140, .ref tc, .int (nI ta9)] G Q := by
  obtain ⟨⟨f0, g145, e0⟩, ⟨r, g146, e1⟩, ⟨w0, g147⟩, ⟨h0, g148⟩, s0, g151⟩ := hm
  obtain ⟨b, g149, hb, hlb⟩ := hl
  have hHL : ∀ i, i < 32 → hshF f0 r b l.length i = hL T l i := fun i hi => by
    unfold hL HSH
    exact hshF_congr e1 e0 (fun j hj => by rw [← lst_get (f := b) hj, hlb]) hi
  generalize l.length = n at g140 hln hHL
  obtain ⟨A, hA⟩ : ∃ A, A = (n + 72) / 64 := ⟨_, rfl⟩
  have eA : (n + 9 + 63) / 64 * 64 = 64 * A := by rw [hA]; omega
  have eA2 : (n + 72) / 64 * 64 = 64 * A := by rw [hA]; omega
  have hA1 : 64 * A ≤ 800 := by omega
  have hA2 : n + 9 ≤ 64 * A := by omega
  refine C_of okX12_hashEnd (Nat.le_of_ble_eq_true rfl) ?_
  refine V_aload_n rfl (by first | rfl | assumption) ?_
  refine V_getf rfl rfl rfl (by repeat (first | exact hup_eq | assumption | refine Eq.trans (hup_ne (by first | assumption | exact Ne.symm (by assumption) | decide | omega)) ?_)) (by first | rfl | assumption) ?_
  refine V_istore_n rfl (by decide) ?_
  refine V_iload_n rfl (by first | rfl | assumption) ?_
  refine V_bipush (v := nI 9) rfl (by decide) ?_
  refine V_iaddN rfl ?_
  refine V_bipush (v := nI 63) rfl (by decide) ?_
  refine V_iaddN rfl ?_
  refine V_bipush (v := nI 64) rfl (by decide) ?_
  refine V_idivN rfl (by first | omega | decide) (by first | omega | decide) (by first | omega | decide) ?_
  refine V_bipush (v := nI 64) rfl (by decide) ?_
  refine V_imulN rfl ?_
  refine V_istore rfl (by decide) ?_
  refine V_iload_n rfl (by first | rfl | assumption) ?_
  refine V_istore rfl (by decide) ?_
  rw [eA]
  have LP := V_loop (K := K) (bc := 0) (bs := 0) (M := mX12_hashEnd) (head := 23) (Q := Q) (64 * A - n) (fun i lc G' => lc 0 = some (.ref 140) ∧ lc 1 = some (.ref tc) ∧ lc 2 = some (.int (nI ta9)) ∧ lc 3 = some (.int (nI n)) ∧ lc 4 = some (.int (nI (64 * A))) ∧ lc 5 = some (.int (nI (n + i))) ∧ G' = hup G 149 (YA 800 (ovw b n i (fun j => pad b n (n + j))))) ?_ ?_
  · exact LP 0 _ _ (Nat.zero_le _) ⟨rfl, rfl, rfl, rfl, rfl, rfl, by rw [ovw_0, hup_same g149]⟩
  · rintro i lc G' hi ⟨l0, l1, l2, l3, l4, l5, rfl⟩ ih
    have tl : ∀ x : Nat, x % 256 = pad b n (n + i) → V K 0 0 mX12_hashEnd 79 lc [.long (lN x), .int (nI (n + i)), .ref 149] (hup G 149 (YA 800 (ovw b n i (fun j => pad b n (n + j))))) Q := by
      intro x hx
      refine V_l2iN rfl ?_
      refine V_i2bN rfl ?_
      refine V_bastB rfl (by repeat (first | exact hup_eq | assumption | refine Eq.trans (hup_ne (by first | assumption | exact Ne.symm (by assumption) | decide | omega)) ?_)) rfl (by first | omega | decide) (by first | omega | decide) (by first | assumption | solve_by_elim | exact Nat.mod_lt _ (by decide) | omega) ?_
      refine V_iincN (d := 1) rfl (by first | rfl | assumption) (by decide) (by decide) ?_
      refine V_goto rfl ?_
      rw [hup_hup, ovw_s' (g := fun j => pad b n (n + j)) hx, Nat.add_assoc]
      exact ih _ _ ⟨l0, l1, l2, l3, l4, rfl, rfl⟩
    refine V_iload rfl (by first | rfl | assumption) ?_
    refine V_iload rfl (by first | rfl | assumption) ?_
    refine V_icmp_geN rfl (by omega) (by omega) (fun h => absurd h (by omega)) (fun _ => ?_)
    refine V_aload_n rfl (by first | rfl | assumption) ?_
    refine V_getf rfl rfl rfl (by repeat (first | exact hup_eq | assumption | refine Eq.trans (hup_ne (by first | assumption | exact Ne.symm (by assumption) | decide | omega)) ?_)) (by first | rfl | assumption) ?_
    refine V_iload rfl (by first | rfl | assumption) ?_
    refine V_iload rfl (by first | rfl | assumption) ?_
    refine V_iload_n rfl (by first | rfl | assumption) ?_
    refine V_icmp_neN rfl (by omega) (by omega) (fun z => ?_) (fun z => ?_)
    · refine V_iload rfl (by first | rfl | assumption) ?_
      refine V_iload rfl (by first | rfl | assumption) ?_
      refine V_bipush (v := nI 8) rfl (by decide) ?_
      refine V_isubN rfl (by first | omega | decide) ?_
      refine V_icmp_geN rfl (by omega) (by omega) (fun z2 => ?_) (fun z2 => ?_)
      · refine V_iload_n rfl (by first | rfl | assumption) ?_
        refine V_i2lN rfl (by first | omega | decide) ?_
        refine V_ldc2 (v := lN 8) rfl kc_X12_212 ?_
        refine V_lmulN rfl ?_
        refine V_bipush (v := nI 8) rfl (by decide) ?_
        refine V_iload rfl (by first | rfl | assumption) ?_
        refine V_iconst (v := nI 1) rfl (by decide) ?_
        refine V_isubN rfl (by first | omega | decide) ?_
        refine V_iload rfl (by first | rfl | assumption) ?_
        refine V_isubN rfl (by first | omega | decide) ?_
        refine V_imulN rfl ?_
        refine V_lshrN' rfl (by first | omega | decide) (by first | omega | decide) ?_
        refine tl _ ?_
        unfold pad
        rw [if_neg (by omega), if_neg z, eA2, if_neg (by omega), Nat.mul_comm n 8, Nat.pow_mul]
      · refine V_lconst (v := lN 0) rfl (by decide) ?_
        refine V_goto rfl ?_
        refine tl _ ?_
        unfold pad
        rw [if_neg (by omega), if_neg z, eA2, if_pos (by omega)]
    · refine V_ldc2 (v := lN 128) rfl kc_X12_210 ?_
      refine V_goto rfl ?_
      refine tl _ ?_
      unfold pad
      rw [if_neg (by omega), if_pos z]
  rintro lc G' ⟨l0, l1, l2, l3, l4, l5, rfl⟩
  obtain ⟨b1, hb1⟩ : ∃ b1, b1 = ovw b n (64 * A - n) (fun j => pad b n (n + j)) := ⟨_, rfl⟩
  have hp : ∀ j, j < 64 * A → b1 j = pad b n j := fun j hj => by
    rw [hb1]
    by_cases h : j < n
    · rw [ovw_out (Or.inl h)]
      unfold pad
      rw [if_pos h]
    · rw [ovw_at (by omega) (by omega)]
      show pad b n (n + (j - n)) = _
      congr 1
      omega
  have hb2 : ∀ j, b1 j < 256 := fun j => by
    rw [hb1]
    exact ovw_lt hb (fun j _ => pad_lt (fun j _ => hb j) _) j
  rw [← hb1]
  clear hb1
  refine V_iload rfl (by first | rfl | assumption) ?_
  refine V_iload rfl (by first | rfl | assumption) ?_
  refine V_icmp_geN rfl (by omega) (by omega) (fun _ => ?_) (fun h => absurd (by omega) h)
  refine V_iconst (v := nI 0) rfl (by decide) ?_
  refine V_istore rfl (by decide) ?_
  refine V_loop 8 (fun i lc G' => lc 0 = some (.ref 140) ∧ lc 1 = some (.ref tc) ∧ lc 2 = some (.int (nI ta9)) ∧ lc 4 = some (.int (nI (64 * A))) ∧ lc 5 = some (.int (nI i)) ∧ ∃ h, (∀ j, j < i → h j = f0 j) ∧ G' = hup (hup G 149 (YA 800 b1)) 148 (IA 8 h)) ?_ ?_ 0 _ _ (Nat.zero_le _) ⟨l0, l1, l2, l4, rfl, h0, fun j hj => absurd hj (Nat.not_lt_zero j), (hup_same ((hup_ne (by decide)).trans g148)).symm⟩
  · rintro i lc G' hi ⟨l0, l1, l2, l4, l5, h, hh, rfl⟩ ih
    refine V_iload rfl (by first | rfl | assumption) ?_
    refine V_bipush (v := nI 8) rfl (by decide) ?_
    refine V_icmp_geN rfl (by omega) (by decide) (fun h => absurd h (by omega)) (fun _ => ?_)
    refine V_aload_n rfl (by first | rfl | assumption) ?_
    refine V_getf rfl rfl rfl (by repeat (first | exact hup_eq | assumption | refine Eq.trans (hup_ne (by first | assumption | exact Ne.symm (by assumption) | decide | omega)) ?_)) (by first | rfl | assumption) ?_
    refine V_iload rfl (by first | rfl | assumption) ?_
    refine V_aload_n rfl (by first | rfl | assumption) ?_
    refine V_getf rfl rfl rfl (by repeat (first | exact hup_eq | assumption | refine Eq.trans (hup_ne (by first | assumption | exact Ne.symm (by assumption) | decide | omega)) ?_)) (by first | rfl | assumption) ?_
    refine V_iload rfl (by first | rfl | assumption) ?_
    refine V_ialdJ rfl (by repeat (first | exact hup_eq | assumption | refine Eq.trans (hup_ne (by first | assumption | exact Ne.symm (by assumption) | decide | omega)) ?_)) rfl (by first | omega | decide) (by first | omega | decide) ?_
    refine V_iastJ rfl (by repeat (first | exact hup_eq | assumption | refine Eq.trans (hup_ne (by first | assumption | exact Ne.symm (by assumption) | decide | omega)) ?_)) rfl (by first | omega | decide) (by first | omega | decide) ?_
    refine V_iincN (d := 1) rfl (by first | rfl | assumption) (by decide) (by decide) ?_
    refine V_goto rfl ?_
    rw [hup_hup]
    refine ih _ _ ⟨l0, l1, l2, l4, rfl, _, fun j hj => ?_, rfl⟩
    by_cases e : j = i
    · subst e; rw [pk_us]
    · rw [pk_un e]; exact hh j (by omega)
  rintro lc G' ⟨l0, l1, l2, l4, l5, h, hh, rfl⟩
  refine V_iload rfl (by first | rfl | assumption) ?_
  refine V_bipush (v := nI 8) rfl (by decide) ?_
  refine V_icmp_geN rfl (by decide) (by decide) (fun _ => ?_) (fun h => absurd (Nat.le_refl _) h)
  refine V_iconst (v := nI 0) rfl (by decide) ?_
  refine V_istore rfl (by decide) ?_
  have LP := V_loop (K := K) (bc := 0) (bs := 0) (M := mX12_hashEnd) (head := 121) (Q := Q) A (fun i lc G' => lc 0 = some (.ref 140) ∧ lc 1 = some (.ref tc) ∧ lc 2 = some (.int (nI ta9)) ∧ lc 4 = some (.int (nI (64 * A))) ∧ lc 5 = some (.int (nI (64 * i))) ∧ ∃ w s h, (∀ j, j < 8 → h j = hbl f0 r (pad b n) i j) ∧ FP PH G G' ∧ G'.1 149 = some (YA 800 b1) ∧ G'.1 147 = some (IA 64 w) ∧ G'.1 148 = some (IA 8 h) ∧ G'.1 151 = some (IA 16 s)) ?_ ?_
  · refine LP 0 _ _ (Nat.zero_le _) ⟨l0, l1, l2, l4, rfl, w0, s0, h, hh, (FP.rf.hup (by decide)).hup (by decide), by repeat (first | exact hup_eq | assumption | refine Eq.trans (hup_ne (by first | assumption | exact Ne.symm (by assumption) | decide | omega)) ?_), by repeat (first | exact hup_eq | assumption | refine Eq.trans (hup_ne (by first | assumption | exact Ne.symm (by assumption) | decide | omega)) ?_), by repeat (first | exact hup_eq | assumption | refine Eq.trans (hup_ne (by first | assumption | exact Ne.symm (by assumption) | decide | omega)) ?_), by repeat (first | exact hup_eq | assumption | refine Eq.trans (hup_ne (by first | assumption | exact Ne.symm (by assumption) | decide | omega)) ?_)⟩
  · rintro i lc G' hi ⟨l0, l1, l2, l4, l5, w, s, h, hh, F, k149, k147, k148, k151⟩ ih
    have k140 := F.get (by decide) g140
    have k146 := F.get (by decide) g146
    refine V_iload rfl (by first | rfl | assumption) ?_
    refine V_iload rfl (by first | rfl | assumption) ?_
    refine V_icmp_geN rfl (by omega) (by omega) (fun h => absurd h (by omega)) (fun _ => ?_)
    refine V_aload_n rfl (by first | rfl | assumption) ?_
    refine V_iload rfl (by first | rfl | assumption) ?_
    refine V_callV (M' := mX12_hashBlock) (mc := 0) (ms := 0) (bc' := 0) (bs' := 0) rfl cw_X12_214 iv_X12_hashBlock (by repeat (first | exact hup_eq | assumption | refine Eq.trans (hup_ne (by first | assumption | exact Ne.symm (by assumption) | decide | omega)) ?_)) rfl rfl (Nat.le_of_ble_eq_true rfl) ⟨Nat.le_of_ble_eq_true rfl, Nat.le_of_ble_eq_true rfl⟩ ⟨Nat.le_of_ble_eq_true rfl, Nat.le_of_ble_eq_true rfl⟩ (As := [.int (nI (64 * i))]) (c_mblock (Q := fun o G2 => o = .inl none ∧ ∃ w s h2, (∀ j, j < 8 → h2 j = mixF r (exw (bW b1 (64 * i)) 48) h j) ∧ G2 = hup (hup (hup G' 147 (IA 64 w)) 151 (IA 16 s)) 148 (IA 8 h2)) k140 k146 k147 k148 k149 k151 hb2 (by omega) (fun w s h2 q => ⟨rfl, w, s, h2, q, rfl⟩)) (fun o G2 h => ?_) (fun E G' h => by cases h.1)
    obtain ⟨h9, w2, s2, h2, hh2, rfl⟩ := h
    cases h9
    refine V_iload rfl (by first | rfl | assumption) ?_
    refine V_bipush (v := nI 64) rfl (by decide) ?_
    refine V_iaddN rfl ?_
    refine V_istore rfl (by decide) ?_
    refine V_goto rfl ?_
    refine ih _ _ ⟨l0, l1, l2, l4, by rw [Nat.mul_add]; rfl, w2, s2, h2, fun j hj => ?_, ((F.hup (by decide)).hup (by decide)).hup (by decide), by repeat (first | exact hup_eq | assumption | refine Eq.trans (hup_ne (by first | assumption | exact Ne.symm (by assumption) | decide | omega)) ?_), by repeat (first | exact hup_eq | assumption | refine Eq.trans (hup_ne (by first | assumption | exact Ne.symm (by assumption) | decide | omega)) ?_), by repeat (first | exact hup_eq | assumption | refine Eq.trans (hup_ne (by first | assumption | exact Ne.symm (by assumption) | decide | omega)) ?_), by repeat (first | exact hup_eq | assumption | refine Eq.trans (hup_ne (by first | assumption | exact Ne.symm (by assumption) | decide | omega)) ?_)⟩
    rw [hh2 j hj]
    show _ = mixF r (exw (bW (pad b n) (64 * i)) 48) (hbl f0 r (pad b n) i) j
    exact mixF_congr (exw_congr (bW_congr (fun j hj => hp _ (by omega))) 48) (fun _ _ => rfl) hh j hj
  rintro lc G' ⟨l0, l1, l2, l4, l5, w, s, h, hh, F, k149, k147, k148, k151⟩
  have k140 := F.get (by decide) g140
  have kt := F.get (j := tc) (by rintro (q | q | q | q) <;> omega) gt9
  refine V_iload rfl (by first | rfl | assumption) ?_
  refine V_iload rfl (by first | rfl | assumption) ?_
  refine V_icmp_geN rfl (by omega) (by omega) (fun _ => ?_) (fun h => absurd (Nat.le_refl _) h)
  refine V_iconst (v := nI 0) rfl (by decide) ?_
  refine V_istore rfl (by decide) ?_
  refine V_loop 32 (fun i lc G2 => lc 0 = some (.ref 140) ∧ lc 1 = some (.ref tc) ∧ lc 2 = some (.int (nI ta9)) ∧ lc 5 = some (.int (nI i)) ∧ G2 = hup G' tc (YA Nt (ovw o ta9 i (hL T l)))) ?_ ?_ 0 _ _ (Nat.zero_le _) ⟨l0, l1, l2, rfl, by rw [ovw_0, hup_same kt]⟩
  · rintro i lc G2 hi ⟨l0, l1, l2, l5, rfl⟩ ih
    have t1 : tc ≠ 148 := by omega
    have t2 : tc ≠ 140 := by omega
    refine V_iload rfl (by first | rfl | assumption) ?_
    refine V_bipush (v := nI 32) rfl (by decide) ?_
    refine V_icmp_geN rfl (by omega) (by decide) (fun h => absurd h (by omega)) (fun _ => ?_)
    refine V_aload_n rfl (by first | rfl | assumption) ?_
    refine V_iload_n rfl (by first | rfl | assumption) ?_
    refine V_iload rfl (by first | rfl | assumption) ?_
    refine V_iaddN rfl ?_
    refine V_aload_n rfl (by first | rfl | assumption) ?_
    refine V_getf rfl rfl rfl (by repeat (first | exact hup_eq | assumption | refine Eq.trans (hup_ne (by first | assumption | exact Ne.symm (by assumption) | decide | omega)) ?_)) (by first | rfl | assumption) ?_
    refine V_iload rfl (by first | rfl | assumption) ?_
    refine V_iconst (v := nI 4) rfl (by decide) ?_
    refine V_idivN rfl (by first | omega | decide) (by first | omega | decide) (by first | omega | decide) ?_
    refine V_ialdJ rfl (by repeat (first | exact hup_eq | assumption | refine Eq.trans (hup_ne (by first | assumption | exact Ne.symm (by assumption) | decide | omega)) ?_)) rfl (by first | omega | decide) (by first | omega | decide) ?_
    refine V_bipush (v := nI 24) rfl (by decide) ?_
    refine V_bipush (v := nI 8) rfl (by decide) ?_
    refine V_iload rfl (by first | rfl | assumption) ?_
    refine V_iconst (v := nI 4) rfl (by decide) ?_
    refine V_iremN rfl (by first | omega | decide) (by first | omega | decide) (by first | omega | decide) ?_
    refine V_imulN rfl ?_
    refine V_isubN rfl (by first | omega | decide) ?_
    refine V_ishr rfl ?_
    refine V_i2b rfl ?_
    refine V_bastM rfl (by repeat (first | exact hup_eq | assumption | refine Eq.trans (hup_ne (by first | assumption | exact Ne.symm (by assumption) | decide | omega)) ?_)) rfl (by omega) (by omega) ?_
    rw [lw_8, lw_sar _ (by omega), hh _ (by omega), hup_hup, ovw_s' (g := hL T l) (by rw [← hHL i hi]; unfold hshF wbyte; rw [hA])]
    refine V_iincN (d := 1) rfl (by first | rfl | assumption) (by decide) (by decide) ?_
    refine V_goto rfl ?_
    exact ih _ _ ⟨l0, l1, l2, rfl, rfl⟩
  · rintro lc G2 ⟨l0, l1, l2, l5, rfl⟩
    have F9 : FP (fun j => PH j ∨ j = tc) G (hup G' tc (YA Nt (ovw o ta9 32 (hL T l)))) := (F.sub (fun x hx => Or.inl hx)).hup (Or.inr rfl)
    refine V_iload rfl (by first | rfl | assumption) ?_
    refine V_bipush (v := nI 32) rfl (by decide) ?_
    refine V_icmp_geN rfl (by decide) (by decide) (fun _ => ?_) (fun h => absurd (Nat.le_refl _) h)
    refine V_vret rfl rfl (hq _ F9 ⟨⟨f0, F9.get (by rintro ((q | q | q | q) | q) <;> omega) g145, e0⟩, ⟨r, F9.get (by rintro ((q | q | q | q) | q) <;> omega) g146, e1⟩, ⟨w, (hup_ne (by omega)).trans k147⟩, ⟨h, (hup_ne (by omega)).trans k148⟩, s, (hup_ne (by omega)).trans k151⟩ ⟨b1, (hup_ne (by omega)).trans k149, hb2, rfl⟩ hup_eq)
end MHash3
