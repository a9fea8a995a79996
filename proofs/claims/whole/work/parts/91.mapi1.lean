/-! the reference's calls: tape and result -/
section MApi1
variable {K : kK} {G : kG} {Q : kO → kG → Prop} {T : TB} {S : SG} {th ta os hs ps rs : Int32}
abbrev PM (j : Nat) : Prop := 140 ≤ j ∧ j ≤ 183
def tpM (c N : Nat) (l : List Nat) (G : kG) : Prop := ∃ b, G.1 c = some (YA N b) ∧ (∀ j, b j < 256) ∧ lst b l.length = l ∧ l.length ≤ N
def RMA (T : TB) (S : SG) (th : Int32) (G : kG) : Prop := RM T S G ∧ tpM 141 600 (tpe S) G ∧ tpM 142 64 (lou S) G ∧ ∃ hs ps rs, G.1 140 = some (MO th (nI (tpe S).length) (nI (lou S).length) hs ps rs)
theorem tpM.fp {c N : Nat} {l : List Nat} {G' : kG} (h : tpM c N l G) (e : G'.1 c = G.1 c) : tpM c N l G' := by obtain ⟨f, a, b⟩ := h; exact ⟨f, e.trans a, b⟩
theorem tpM.nl {c N : Nat} {l : List Nat} (h : tpM c N l G) : tpM c N [] G := by obtain ⟨f, a, b, _⟩ := h; exact ⟨f, a, b, rfl, Nat.zero_le _⟩
theorem tpM.cpy {c N n : Nat} {f o : Nat → Nat} {G' : kG} (h : G'.1 c = some (YA N (ovw o 0 n f))) (ho : ∀ j, o j < 256) (hf : ∀ j, j < n → f j < 256) (hn : n ≤ N) : tpM c N (lst f n) G' := by
  refine ⟨_, h, ovw_lt ho hf, ?_, by rw [lst_len]; exact hn⟩
  rw [lst_len]
  exact lst_congr (fun j hj => by rw [ovw_at (Nat.zero_le _) (by omega)]; rfl)
def rowP (S : SG) (R : Nat → Nat) : Prop := (∀ j, R j < 256) ∧ ∀ j, j < 32 → (∀ e, e < 2 → R (32 * e + j) = rw9 (S.1 e) 0 j ∧ R (32 * (2 + e) + j) = rw9 (S.1 e) 3 j ∧ R (32 * (4 + e) + j) = rw9 (S.1 e) 2 j) ∧ R (192 + j) = S.2.1 0 j ∧ R (224 + j) = S.2.1 1 j ∧ R (256 + j) = nine j
theorem rowP.sc {R g : Nat → Nat} {a n : Nat} (h : rowP S R) (ha : 288 ≤ a) (hg : ∀ j, j < n → g j < 256) : rowP S (ovw R a n g) := by
  refine ⟨ovw_lt h.1 hg, fun j hj => ⟨fun e he => ?_, ?_, ?_, ?_⟩⟩
  · rw [ovw_out (by omega), ovw_out (by omega), ovw_out (by omega)]; exact (h.2 j hj).1 e he
  · rw [ovw_out (by omega)]; exact (h.2 j hj).2.1
  · rw [ovw_out (by omega)]; exact (h.2 j hj).2.2.1
  · rw [ovw_out (by omega)]; exact (h.2 j hj).2.2.2
theorem rowP.w0 {R g : Nat → Nat} {e : Nat} (h : rowP S R) (he : e < 2) (hg : ∀ j, j < 32 → g j < 256) : rowP (sE S e (srw (S.1 e) 0 g)) (ovw R (32 * e) 32 g) := by
  refine ⟨ovw_lt h.1 hg, fun j hj => ⟨fun i hi => ?_, ?_, ?_, ?_⟩⟩
  · rw [ovw_out (j := 32 * (2 + i) + j) (by omega), ovw_out (j := 32 * (4 + i) + j) (by omega), srw_o (k := 0) (i := 3) (by decide), srw_o (k := 0) (i := 2) (by decide)]
    refine ⟨?_, ((h.2 j hj).1 i hi).2⟩
    by_cases z : i = e
    · rw [z, srw_e, ovw_in hj]
    · rw [ovw_out (by omega), srw_n z]; exact ((h.2 j hj).1 i hi).1
  · rw [ovw_out (by omega)]; exact (h.2 j hj).2.1
  · rw [ovw_out (by omega)]; exact (h.2 j hj).2.2.1
  · rw [ovw_out (by omega)]; exact (h.2 j hj).2.2.2
theorem rowP.w3 {R g : Nat → Nat} {e : Nat} (h : rowP S R) (he : e < 2) (hg : ∀ j, j < 32 → g j < 256) : rowP (sE S e (srw (S.1 e) 3 g)) (ovw R (32 * (2 + e)) 32 g) := by
  refine ⟨ovw_lt h.1 hg, fun j hj => ⟨fun i hi => ?_, ?_, ?_, ?_⟩⟩
  · rw [ovw_out (j := 32 * i + j) (by omega), ovw_out (j := 32 * (4 + i) + j) (by omega), srw_o (k := 3) (i := 0) (by decide), srw_o (k := 3) (i := 2) (by decide)]
    refine ⟨((h.2 j hj).1 i hi).1, ?_, ((h.2 j hj).1 i hi).2.2⟩
    by_cases z : i = e
    · rw [z, srw_e, ovw_in hj]
    · rw [ovw_out (by omega), srw_n z]; exact ((h.2 j hj).1 i hi).2.1
  · rw [ovw_out (by omega)]; exact (h.2 j hj).2.1
  · rw [ovw_out (by omega)]; exact (h.2 j hj).2.2.1
  · rw [ovw_out (by omega)]; exact (h.2 j hj).2.2.2
theorem rowP.w2 {R g : Nat → Nat} {e : Nat} (h : rowP S R) (he : e < 2) (hg : ∀ j, j < 32 → g j < 256) : rowP (sE S e (srw (S.1 e) 2 g)) (ovw R (32 * (4 + e)) 32 g) := by
  refine ⟨ovw_lt h.1 hg, fun j hj => ⟨fun i hi => ?_, ?_, ?_, ?_⟩⟩
  · rw [ovw_out (j := 32 * i + j) (by omega), ovw_out (j := 32 * (2 + i) + j) (by omega), srw_o (k := 2) (i := 0) (by decide), srw_o (k := 2) (i := 3) (by decide)]
    refine ⟨((h.2 j hj).1 i hi).1, ((h.2 j hj).1 i hi).2.1, ?_⟩
    by_cases z : i = e
    · rw [z, srw_e, ovw_in hj]
    · rw [ovw_out (by omega), srw_n z]; exact ((h.2 j hj).1 i hi).2.2
  · rw [ovw_out (by omega)]; exact (h.2 j hj).2.1
  · rw [ovw_out (by omega)]; exact (h.2 j hj).2.2.1
  · rw [ovw_out (by omega)]; exact (h.2 j hj).2.2.2
theorem rowP.h {R g : Nat → Nat} {k : Nat} (h : rowP S R) (hk : k < 2) (hg : ∀ j, j < 32 → g j < 256) : rowP (sH S k g) (ovw R (32 * (6 + k)) 32 g) := by
  refine ⟨ovw_lt h.1 hg, fun j hj => ⟨fun i hi => ?_, ?_, ?_, ?_⟩⟩
  · rw [ovw_out (j := 32 * i + j) (by omega), ovw_out (j := 32 * (2 + i) + j) (by omega), ovw_out (j := 32 * (4 + i) + j) (by omega)]; exact (h.2 j hj).1 i hi
  · show _ = up S.2.1 k g 0 j
    by_cases z : k = 0
    · subst z; rw [up_eq, ovw_in (a := 32 * (6 + 0)) hj]
    · rw [up_ne (by omega), ovw_out (by omega)]; exact (h.2 j hj).2.1
  · show _ = up S.2.1 k g 1 j
    by_cases z : k = 1
    · subst z; rw [up_eq, ovw_in (a := 32 * (6 + 1)) hj]
    · rw [up_ne (by omega), ovw_out (by omega)]; exact (h.2 j hj).2.2.1
  · rw [ovw_out (by omega)]; exact (h.2 j hj).2.2.2
theorem RM.r157 {S' : SG} {G' : kG} (h : RM T S G) (F : ∀ j, 143 ≤ j → j ≤ 181 → j ≠ 157 → G'.1 j = G.1 j) (hw : rwo S S') (hk : ∀ i j, i = 1 ∨ 4 ≤ i → rw9 (S'.1 j) i = rw9 (S.1 j) i) (h2 : rRow S' G') : RM T S' G' := by
  refine h.rw hw (fun j a b c => F j a b (by omega)) h2 ?_ ?_ ?_ ?_
  · exact (h.2.2.1.fp (F _ (by decide) (by decide) (by decide))).st (fun j _ => hk 1 j (by decide))
  · exact (h.2.2.2.1.fp (F _ (by decide) (by decide) (by decide))).st (fun j _ => ⟨hk _ j (by decide), hk _ j (by decide)⟩)
  · exact (h.2.2.2.2.1.fp (F _ (by decide) (by decide) (by decide))).st (fun j _ => ⟨hk _ j (by decide), hk _ j (by decide), hk _ j (by decide), hk _ j (by decide)⟩)
  · exact (h.2.2.2.2.2.1.fp (F _ (by decide) (by decide) (by decide))).st (fun j _ => ⟨hk _ j (by decide), hk _ j (by decide)⟩)
theorem RM.r158 {S' : SG} {G' : kG} (h : RM T S G) (F : ∀ j, 143 ≤ j → j ≤ 181 → j ≠ 158 → G'.1 j = G.1 j) (hw : rwo S S') (hk : ∀ i j, i ≠ 1 → rw9 (S'.1 j) i = rw9 (S.1 j) i) (e2 : S'.2.1 = S.2.1) (h2 : rCk S' G') : RM T S' G' := by
  refine h.rw hw (fun j a b c => F j a b (by omega)) ?_ h2 ?_ ?_ ?_
  · exact (h.2.1.fp (F _ (by decide) (by decide) (by decide))).st (fun j _ => ⟨hk _ j (by decide), hk _ j (by decide), hk _ j (by decide)⟩) e2
  · exact (h.2.2.2.1.fp (F _ (by decide) (by decide) (by decide))).st (fun j _ => ⟨hk _ j (by decide), hk _ j (by decide)⟩)
  · exact (h.2.2.2.2.1.fp (F _ (by decide) (by decide) (by decide))).st (fun j _ => ⟨hk _ j (by decide), hk _ j (by decide), hk _ j (by decide), hk _ j (by decide)⟩)
  · exact (h.2.2.2.2.2.1.fp (F _ (by decide) (by decide) (by decide))).st (fun j _ => ⟨hk _ j (by decide), hk _ j (by decide)⟩)
theorem c_mthrown (g140 : G.1 140 = some (MO th ta os hs ps rs)) (hq : Q (.inl (some (.int th))) G) : C K 0 0 mX12_thrown [.ref 140] G Q := by
  refine C_of okX12_thrown (Nat.le_of_ble_eq_true rfl) ?_
  refine V_aload_n rfl (by first | rfl | assumption) ?_
  refine V_getf rfl rfl rfl (by repeat (first | exact hup_eq | assumption | refine Eq.trans (hup_ne (by first | assumption | exact Ne.symm (by assumption) | decide | omega)) ?_)) (by first | rfl | assumption) ?_
  exact V_iret rfl rfl hq
theorem c_mtaken {n : Nat} (g140 : G.1 140 = some (MO th (nI n) os hs ps rs)) (hq : Q (.inl (some (.int (nI n)))) (hup G 140 (MO th (nI 0) os hs ps rs))) : C K 0 0 mX12_taken [.ref 140] G Q := by
  refine C_of okX12_taken (Nat.le_of_ble_eq_true rfl) ?_
  refine V_aload_n rfl (by first | rfl | assumption) ?_
  refine V_getf rfl rfl rfl (by repeat (first | exact hup_eq | assumption | refine Eq.trans (hup_ne (by first | assumption | exact Ne.symm (by assumption) | decide | omega)) ?_)) (by first | rfl | assumption) ?_
  refine V_istore_n rfl (by decide) ?_
  refine V_aload_n rfl (by first | rfl | assumption) ?_
  refine V_iconst (v := nI 0) rfl (by decide) ?_
  refine V_pf_ta rfl rfl rfl (by repeat (first | exact hup_eq | assumption | refine Eq.trans (hup_ne (by first | assumption | exact Ne.symm (by assumption) | decide | omega)) ?_)) ?_
  refine V_iload_n rfl (by first | rfl | assumption) ?_
  exact V_iret rfl rfl hq
theorem c_mtell {a N s c : Nat} {f o : Nat → Nat} (g140 : G.1 140 = some (MO th ta os hs ps rs)) (g142 : G.1 142 = some (YA 64 o)) (ga : G.1 a = some (YA N f)) (ha : a ≠ 142 ∧ a ≠ 140) (hf : ∀ j, f j < 256) (hs9 : s + c ≤ N) (hN : N < 2 ^ 20) (hc : c ≤ 64)
    (hq : Q (.inl none) (hup (hup G 140 (MO th ta (nI c) hs ps rs)) 142 (YA 64 (ovw o 0 c (sft f s))))) : C K 0 0 mX12_tell [.ref 140, .ref a, .int (nI s), .int (nI c)] G Q := by
  obtain ⟨a1, a2⟩ := ha
  refine C_of okX12_tell (Nat.le_of_ble_eq_true rfl) ?_
  refine V_aload_n rfl (by first | rfl | assumption) ?_
  refine V_iload_n rfl (by first | rfl | assumption) ?_
  refine V_pf_os rfl rfl rfl (by repeat (first | exact hup_eq | assumption | refine Eq.trans (hup_ne (by first | assumption | exact Ne.symm (by assumption) | decide | omega)) ?_)) ?_
  refine V_iconst (v := nI 0) rfl (by decide) ?_
  refine V_istore rfl (by decide) ?_
  have LP := V_loop (K := K) (bc := 0) (bs := 0) (M := mX12_tell) (head := 8) (Q := Q) c (fun i lc G' => lc 0 = some (.ref 140) ∧ lc 1 = some (.ref a) ∧ lc 2 = some (.int (nI s)) ∧ lc 3 = some (.int (nI c)) ∧ lc 4 = some (.int (nI i)) ∧ G' = hup (hup G 140 (MO th ta (nI c) hs ps rs)) 142 (YA 64 (ovw o 0 i (sft f s)))) ?_ ?_
  · exact LP 0 _ _ (Nat.zero_le _) ⟨rfl, rfl, rfl, rfl, rfl, by rw [ovw_0, hup_same (k := 142) ((hup_ne (by decide)).trans g142)]⟩
  · rintro i lc G' hi ⟨l0, l1, l2, l3, l4, rfl⟩ ih
    refine V_iload rfl (by first | rfl | assumption) ?_
    refine V_iload_n rfl (by first | rfl | assumption) ?_
    refine V_icmp_geN rfl (by omega) (by omega) (fun h => absurd h (by omega)) (fun _ => ?_)
    refine V_aload_n rfl (by first | rfl | assumption) ?_
    refine V_getf rfl rfl rfl (by repeat (first | exact hup_eq | assumption | refine Eq.trans (hup_ne (by first | assumption | exact Ne.symm (by assumption) | decide | omega)) ?_)) (by first | rfl | assumption) ?_
    refine V_iload rfl (by first | rfl | assumption) ?_
    refine V_aload_n rfl (by first | rfl | assumption) ?_
    refine V_iload_n rfl (by first | rfl | assumption) ?_
    refine V_iload rfl (by first | rfl | assumption) ?_
    refine V_iaddN rfl ?_
    refine V_baldB rfl (by repeat (first | exact hup_eq | assumption | refine Eq.trans (hup_ne (by first | assumption | exact Ne.symm (by assumption) | decide | omega)) ?_)) rfl (by first | omega | decide) (by first | omega | decide) ?_
    refine V_bastB rfl (by repeat (first | exact hup_eq | assumption | refine Eq.trans (hup_ne (by first | assumption | exact Ne.symm (by assumption) | decide | omega)) ?_)) rfl (by first | omega | decide) (by first | omega | decide) (by first | assumption | solve_by_elim | exact Nat.mod_lt _ (by decide) | omega) ?_
    refine V_iincN (d := 1) rfl (by first | rfl | assumption) (by decide) (by decide) ?_
    refine V_goto rfl ?_
    have e := ovw_s (o := o) (g := sft f s) (a := 0) (i := i)
    rw [Nat.zero_add] at e
    rw [hup_hup, show f (s + i) = sft f s i from rfl, e]
    exact ih _ _ ⟨l0, l1, l2, l3, rfl, rfl⟩
  · rintro lc G' ⟨l0, l1, l2, l3, l4, rfl⟩
    refine V_iload rfl (by first | rfl | assumption) ?_
    refine V_iload_n rfl (by first | rfl | assumption) ?_
    refine V_icmp_geN rfl (by omega) (by omega) (fun _ => ?_) (fun h => absurd (Nat.le_refl _) h)
    exact V_vret rfl rfl hq
theorem lw_ty (w : Int64) (i : Nat) : lw (w >>> ((nI (8 * i)).toInt64 &&& 63)).toInt32.toInt8.toInt32 = tyB w i := by rw [lw_8]; rfl
theorem c_Mtype {w : Int64} {x : Int32} (h : RMA T S th G) (hq : ∀ G', FP PM G G' → RMA T (aTy S w x.toInt).2.2 0 G' → Q (.inl (some (.int (aTy S w x.toInt).2.1))) G') : C K 0 0 mX12_type [.ref 140, .long w, .int x] G Q := by
  obtain ⟨hR, ht, ho, hs, ps, rs, g140⟩ := h
  have hO : ∀ l : List Nat, RM T (sT S l) G := fun l => hR
  refine C_of okX12_type (Nat.le_of_ble_eq_true rfl) ?_
  refine V_aload_n rfl (by first | rfl | assumption) ?_
  refine V_iconst (v := nI 0) rfl (by decide) ?_
  refine V_pf_th rfl rfl rfl (by repeat (first | exact hup_eq | assumption | refine Eq.trans (hup_ne (by first | assumption | exact Ne.symm (by assumption) | decide | omega)) ?_)) ?_
  have bad : x.toInt < 1 ∨ 8 < x.toInt ∨ 600 < ((tpe S).length : Int) + x.toInt → V K 0 0 mX12_type 28 (kla [.ref 140, .long w, .int x]) [] (hup G 140 (MO (nI 0) (nI (tpe S).length) (nI (lou S).length) hs ps rs)) Q := by
    intro z
    have U : aTy S w x.toInt = (0, 0, S) := by unfold aTy; rw [if_pos z]
    rw [U] at hq
    refine V_iconst (v := 0) rfl (by decide) ?_
    exact V_zret rfl rfl (Or.inl rfl) (hq _ (FP.rf.hup (by decide)) ⟨hR.ob, ht.fp (hup_ne (by decide)), ho.fp (hup_ne (by decide)), hs, ps, rs, hup_eq⟩)
  refine V_iload_n rfl (by rfl) ?_
  refine V_iconst (v := 1) rfl (by decide) ?_
  refine V_icmp_ltZ (b := 1) rfl rfl (by decide) (fun z => bad (Or.inl z)) (fun z1 => ?_)
  refine V_iload_n rfl (by rfl) ?_
  refine V_bipush (v := 8) rfl (by decide) ?_
  refine V_icmp_gtZ (b := 8) rfl rfl (by decide) (fun z => bad (Or.inr (Or.inl z))) (fun z2 => ?_)
  obtain ⟨hc1, hc2⟩ := i32_n (x := x) (by omega)
  obtain ⟨m, hm⟩ : ∃ m, m = x.toInt.toNat := ⟨_, rfl⟩
  have hxm : x.toInt = (m : Int) := by omega
  rw [← hm] at hc1 hc2
  rw [hxm] at hq bad
  have hm8 : 1 ≤ m ∧ m ≤ 8 := by omega
  clear z1 z2 hm hxm
  subst hc1
  obtain ⟨b, g141, hb, hl, hl6⟩ := ht
  refine V_aload_n rfl (by first | rfl | assumption) ?_
  refine V_getf rfl rfl rfl (by repeat (first | exact hup_eq | assumption | refine Eq.trans (hup_ne (by first | assumption | exact Ne.symm (by assumption) | decide | omega)) ?_)) (by first | rfl | assumption) ?_
  refine V_iload_n rfl (by first | rfl | assumption) ?_
  refine V_iaddN rfl ?_
  refine V_sipush (v := nI 600) rfl (by decide) ?_
  refine V_icmp_leN rfl (by omega) (by decide) (fun z => ?_) (fun z => bad (Or.inr (Or.inr (by omega))))
  clear bad
  have U : aTy S w (m : Int) = (0, 1, sT S (tpe S ++ lst (tyB w) m)) := by
    unfold aTy
    rw [if_neg (by omega)]
    rfl
  rw [U] at hq
  refine V_iconst (v := nI 0) rfl (by decide) ?_
  refine V_istore rfl (by decide) ?_
  obtain ⟨n, hn⟩ : ∃ n, n = (tpe S).length := ⟨_, rfl⟩
  rw [← hn] at g140 hl z ⊢
  have LP := V_loop (K := K) (bc := 0) (bs := 0) (M := mX12_type) (head := 33) (Q := Q) m (fun i lc G' => lc 0 = some (.ref 140) ∧ lc 1 = some (.long w) ∧ lc 2 = some kmk ∧ lc 3 = some (.int (nI m)) ∧ lc 4 = some (.int (nI i)) ∧ G' = hup (hup G 141 (YA 600 (ovw b n i (tyB w)))) 140 (MO (nI 0) (nI (n + i)) (nI (lou S).length) hs ps rs)) ?_ ?_
  · exact LP 0 _ _ (Nat.zero_le _) ⟨rfl, rfl, rfl, rfl, rfl, by rw [ovw_0, hup_same g141]; rfl⟩
  · rintro i lc G3 hi ⟨l0, l1, l2, l3, l4, rfl⟩ again
    refine V_iload rfl (by first | rfl | assumption) ?_
    refine V_iload_n rfl (by first | rfl | assumption) ?_
    refine V_icmp_geN rfl (by omega) (by omega) (fun z => absurd z (by omega)) (fun _ => ?_)
    refine V_aload_n rfl (by first | rfl | assumption) ?_
    refine V_getf rfl rfl rfl (by repeat (first | exact hup_eq | assumption | refine Eq.trans (hup_ne (by first | assumption | exact Ne.symm (by assumption) | decide | omega)) ?_)) (by first | rfl | assumption) ?_
    refine V_aload_n rfl (by first | rfl | assumption) ?_
    refine V_getf rfl rfl rfl (by repeat (first | exact hup_eq | assumption | refine Eq.trans (hup_ne (by first | assumption | exact Ne.symm (by assumption) | decide | omega)) ?_)) (by first | rfl | assumption) ?_
    refine V_lload_n rfl (by first | rfl | assumption) (by first | rfl | assumption) ?_
    refine V_bipush (v := nI 8) rfl (by decide) ?_
    refine V_iload rfl (by first | rfl | assumption) ?_
    refine V_imulN rfl ?_
    refine V_lshr rfl ?_
    refine V_l2i rfl ?_
    refine V_i2b rfl ?_
    refine V_bastM rfl (by repeat (first | exact hup_eq | assumption | refine Eq.trans (hup_ne (by first | assumption | exact Ne.symm (by assumption) | decide | omega)) ?_)) rfl (by first | omega | decide) (by first | omega | decide) ?_
    refine V_aload_n rfl (by first | rfl | assumption) ?_
    refine V_dup rfl rfl ?_
    refine V_getf rfl rfl rfl (by repeat (first | exact hup_eq | assumption | refine Eq.trans (hup_ne (by first | assumption | exact Ne.symm (by assumption) | decide | omega)) ?_)) (by first | rfl | assumption) ?_
    refine V_iconst (v := nI 1) rfl (by decide) ?_
    refine V_iaddN rfl ?_
    refine V_pf_ta rfl rfl rfl (by repeat (first | exact hup_eq | assumption | refine Eq.trans (hup_ne (by first | assumption | exact Ne.symm (by assumption) | decide | omega)) ?_)) ?_
    refine V_iincN (d := 1) rfl (by first | rfl | assumption) (by decide) (by decide) ?_
    refine V_goto rfl ?_
    rw [lw_ty, hup4 (by decide), ovw_s, Nat.add_assoc]
    exact again _ _ ⟨l0, l1, l2, l3, rfl, rfl⟩
  · rintro lc G3 ⟨l0, l1, l2, l3, l4, rfl⟩
    refine V_iload rfl (by first | rfl | assumption) ?_
    refine V_iload_n rfl (by first | rfl | assumption) ?_
    refine V_icmp_geN rfl (by omega) (by omega) (fun _ => ?_) (fun z => absurd (Nat.le_refl _) z)
    refine V_iconst (v := 1) rfl (by decide) ?_
    have el : (tpe S ++ lst (tyB w) m).length = n + m := by rw [List.length_append, lst_len, hn]
    refine V_zret rfl rfl (Or.inr rfl) (hq _ ((FP.rf.hup (by decide)).hup (by decide)) ⟨(hO _).fp (fun j a b => (hup_ne (by omega)).trans (hup_ne (by omega))), ?_, ho.fp ((hup_ne (by decide)).trans (hup_ne (by decide))), hs, ps, rs, ?_⟩)
    · refine ⟨_, (hup_ne (by decide)).trans hup_eq, ovw_lt hb (fun j _ => Nat.mod_lt _ (by decide)), ?_, ?_⟩
      · show lst _ (tpe S ++ lst (tyB w) m).length = tpe S ++ lst (tyB w) m
        rw [el, lst_app]
        congr 1
        · rw [← hl]
          exact lst_congr (fun j hj => ovw_out (by omega))
        · exact lst_congr (fun j hj => ovw_in hj)
      · show (tpe S ++ lst (tyB w) m).length ≤ 600
        rw [el]; exact z
    · rw [hup_eq]
      show some (MO 0 _ _ hs ps rs) = some (MO 0 (nI (tpe S ++ lst (tyB w) m).length) _ hs ps rs)
      rw [el]
      rfl
/-- the tape is taken, its old bytes are still there -/
theorem tpM.gd {c N : Nat} {l : List Nat} {b : Nat → Nat} (hl : lst b l.length = l) {j : Nat} (hj : j < l.length) : gD l j = b j := gD_of hl hj
theorem c_Mout {x : Int32} (h : RMA T S th G) (hq : ∀ G', FP PM G G' → RMA T (aOu S x.toInt).2.2 (nI (aOu S x.toInt).1) G' → Q (.inl (some (.int (aOu S x.toInt).2.1))) G') : C K 0 0 mX12_out [.ref 140, .int x] G Q := by
  obtain ⟨hR, ht, ho, hs, ps, rs, g140⟩ := h
  obtain ⟨b, g142, hb, hl, hl6⟩ := id ho
  refine C_of okX12_out (Nat.le_of_ble_eq_true rfl) ?_
  have fin : ∀ t : Nat, RMA T S (nI t) (hup G 140 (MO (nI t) (nI (tpe S).length) (nI (lou S).length) hs ps rs)) := fun t => ⟨hR.ob, ht.fp (hup_ne (by decide)), ho.fp (hup_ne (by decide)), hs, ps, rs, hup_eq⟩
  have bad : x.toInt < 0 ∨ ((lou S).length : Int) ≤ x.toInt → V K 0 0 mX12_out 13 (kla [.ref 140, .int x]) [.ref 140] G Q := by
    intro z
    have U : aOu S x.toInt = (1, 0, S) := by unfold aOu; rw [if_pos z]
    rw [U] at hq
    refine V_iconst (v := nI 1) rfl (by decide) ?_
    refine V_goto rfl ?_
    refine V_pf_th rfl rfl rfl (by repeat (first | exact hup_eq | assumption | refine Eq.trans (hup_ne (by first | assumption | exact Ne.symm (by assumption) | decide | omega)) ?_)) ?_
    refine V_aload_n rfl (by first | rfl | assumption) ?_
    refine V_getf rfl rfl rfl (by repeat (first | exact hup_eq | assumption | refine Eq.trans (hup_ne (by first | assumption | exact Ne.symm (by assumption) | decide | omega)) ?_)) (by first | rfl | assumption) ?_
    refine V_if_le rfl (fun z => absurd z (by decide)) (fun _ => ?_)
    refine V_iconst (v := 0) rfl (by decide) ?_
    refine V_goto rfl ?_
    exact V_iret rfl rfl (hq _ (FP.rf.hup (by decide)) (fin 1))
  refine V_aload_n rfl (by rfl) ?_
  refine V_iload_n rfl (by rfl) ?_
  refine V_if_ltZ rfl rfl (fun z => bad (Or.inl z)) (fun z1 => ?_)
  refine V_iload_n rfl (by first | rfl | assumption) ?_
  refine V_aload_n rfl (by first | rfl | assumption) ?_
  refine V_getf rfl rfl rfl (by repeat (first | exact hup_eq | assumption | refine Eq.trans (hup_ne (by first | assumption | exact Ne.symm (by assumption) | decide | omega)) ?_)) (by first | rfl | assumption) ?_
  refine V_icmp_ltZ (b := ((lou S).length : Int)) rfl rfl (nI_toInt (by omega)) (fun z => ?_) (fun z => bad (Or.inr (by omega)))
  clear bad
  obtain ⟨hc1, hc2⟩ := i32_n (x := x) (by omega)
  obtain ⟨m, hm⟩ : ∃ m, m = x.toInt.toNat := ⟨_, rfl⟩
  have hxm : x.toInt = (m : Int) := by omega
  have U : aOu S x.toInt = (0, nI (gD (lou S) m), S) := by unfold aOu; rw [if_neg (by omega), hm]
  rw [U] at hq
  rw [← hm] at hc1
  subst hc1
  refine V_iconst (v := nI 0) rfl (by decide) ?_
  refine V_pf_th rfl rfl rfl (by repeat (first | exact hup_eq | assumption | refine Eq.trans (hup_ne (by first | assumption | exact Ne.symm (by assumption) | decide | omega)) ?_)) ?_
  refine V_aload_n rfl (by first | rfl | assumption) ?_
  refine V_getf rfl rfl rfl (by repeat (first | exact hup_eq | assumption | refine Eq.trans (hup_ne (by first | assumption | exact Ne.symm (by assumption) | decide | omega)) ?_)) (by first | rfl | assumption) ?_
  refine V_if_le rfl (fun _ => ?_) (fun z => absurd (by decide) z)
  have hbm := hb m
  refine V_aload_n rfl (by first | rfl | assumption) ?_
  refine V_getf rfl rfl rfl (by repeat (first | exact hup_eq | assumption | refine Eq.trans (hup_ne (by first | assumption | exact Ne.symm (by assumption) | decide | omega)) ?_)) (by first | rfl | assumption) ?_
  refine V_iload_n rfl (by first | rfl | assumption) ?_
  refine V_baldB rfl (by repeat (first | exact hup_eq | assumption | refine Eq.trans (hup_ne (by first | assumption | exact Ne.symm (by assumption) | decide | omega)) ?_)) rfl (by first | omega | decide) (by first | omega | decide) ?_
  refine V_sipush (v := nI 255) rfl (by decide) ?_
  refine V_bandB rfl (by first | assumption | solve_by_elim | exact Nat.mod_lt _ (by decide) | omega) ?_
  rw [← gD_of hl (show m < (lou S).length by omega)]
  exact V_iret rfl rfl (hq _ (FP.rf.hup (by decide)) (fin 0))
end MApi1
