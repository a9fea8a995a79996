section CSeal
variable {K : kK} {G : kG} {Q : kO → kG → Prop}
def FP (P : Nat → Prop) (G G' : kG) : Prop := G'.2 = G.2 ∧ ∀ j, ¬ P j → G'.1 j = G.1 j
theorem FR.P {S : List Nat} {G' : kG} {P : Nat → Prop} (h : FR S G G') (hs : ∀ x, x ∈ S → P x) : FP P G G' := ⟨h.1, fun j hj => h.2 j (fun q => hj (hs j q))⟩
theorem FP.rf {P : Nat → Prop} : FP P G G := ⟨rfl, fun _ _ => rfl⟩
theorem FP.hup {P : Nat → Prop} {G' : kG} {k : Nat} {e : kE} (h : FP P G G') (hk : P k) : FP P G (hup G' k e) := ⟨h.1, fun j hj => (hup_ne (fun q => hj (by rw [q]; exact hk))).trans (h.2 j hj)⟩
theorem FP.trans {P P' : Nat → Prop} {G' G'' : kG} (h : FP P G G') (h' : FP P' G' G'') (hs : ∀ x, P' x → P x) : FP P G G'' := ⟨h'.1.trans h.1, fun j hj => (h'.2 j (fun q => hj (hs j q))).trans (h.2 j hj)⟩
theorem FP.get {P : Nat → Prop} {G' : kG} {j : Nat} {e : Option kE} (h : FP P G G') (hj : ¬ P j) (he : G.1 j = e) : G'.1 j = e := (h.2 j hj).trans he
theorem FP.sub {P P' : Nat → Prop} {G' : kG} (h : FP P G G') (hs : ∀ x, P x → P' x) : FP P' G G' := ⟨h.1, fun j hj => h.2 j (fun q => hj (hs j q))⟩
def bI (b : Bool) : Int32 := if b then 1 else 0
theorem bI_01 (b : Bool) : bI b = 0 ∨ bI b = 1 := by cases b <;> simp [bI]
theorem bI_N (b : Bool) : bI b = nI (if b then 1 else 0) := by cases b <;> rfl
theorem bI_eq0 {b : Bool} : bI b = 0 ↔ b = false := by cases b <;> simp [bI]
/-- a Row object with its data, whose bytes are a list -/
def Rw (G : kG) (r d N : Nat) (l : List Nat) : Prop := G.1 r = some (ROB d l.length) ∧ l.length ≤ N ∧ ∃ b, G.1 d = some (BA N b) ∧ lst b l.length = l ∧ ∀ j, j < l.length → b j < 256
def Rb (G : kG) (c N : Nat) (f : Nat → Nat) : Prop := ∃ b, G.1 c = some (BA N b) ∧ (∀ j, j < N → b j = f j) ∧ ∀ j, j < N → f j < 256
abbrev KYO (h b : Nat) (made : Bool) : kE := .inr (4, [.ref h, .ref b, .int (bI made)])
theorem Rb.fp {G' : kG} {c N : Nat} {f : Nat → Nat} (h : Rb G c N f) (e : G'.1 c = G.1 c) : Rb G' c N f := by
  obtain ⟨b, h1, h2⟩ := h
  exact ⟨b, e.trans h1, h2⟩
theorem Rw.fp {G' : kG} {r d N : Nat} {l : List Nat} (h : Rw G r d N l) (e : G'.1 r = G.1 r) (e2 : G'.1 d = G.1 d) : Rw G' r d N l := by
  obtain ⟨h1, h2, b, h3, h4⟩ := h
  exact ⟨e.trans h1, h2, b, e2.trans h3, h4⟩
theorem gD_lst {f : Nat → Nat} {n j : Nat} (h : j < n) : gD (lst f n) j = f j := lst_get h
theorem lst_gD (l : List Nat) : lst (gD l) l.length = l := by
  apply List.ext_getElem?
  intro i
  by_cases h : i < l.length
  · simp [lst, gD, h]
  · simp [lst, h]
theorem lst_ext {l : List Nat} {f : Nat → Nat} {n : Nat} (hn : l.length = n) (h : ∀ j, j < n → f j = gD l j) : lst f n = l := by
  rw [lst_congr h, ← hn, lst_gD]
theorem nI_xor (a b : Nat) : nI a ^^^ nI b = nI (a ^^^ b) := by
  apply Int32.toBitVec_inj.mp
  show BitVec.ofNat 32 a ^^^ BitVec.ofNat 32 b = BitVec.ofNat 32 (a ^^^ b)
  apply BitVec.eq_of_toNat_eq
  rw [BitVec.toNat_xor, BitVec.toNat_ofNat, BitVec.toNat_ofNat, BitVec.toNat_ofNat, Nat.xor_mod_two_pow]
theorem xor_b {a b : Nat} (ha : a < 256) (hb : b < 256) : a ^^^ b < 256 := Nat.xor_lt_two_pow (n := 8) ha hb
theorem ksm_lt (T : TB) (h b : Nat → Nat) (n i : Nat) : ksm T h b n i < 256 := by
  unfold ksm
  split <;> exact STRM_lt _ _ _ _ _
abbrev SLO : kE := .inr (6, [.ref 20, .ref 24, .ref 30])
set_option maxHeartbeats 8000000 in
theorem c_hide {r d N m k kh kb n : Nat} {f : Nat → Nat} {h b : Nat → Nat} {made : Bool} {T : TB} (hQ : kSX K 3 = some (32, fun j => nI (T.2.2 j))) (hqt : ∀ j, j < 32 → T.2.2 j < 16) (g19 : G.1 19 = some SLO) (hs : smr G) (gr : G.1 r = some (ROB d m)) (gd : G.1 d = some (BA N f)) (hr : r < 19 ∨ 23 < r) (hd : d < 19 ∨ 23 < d) (hm : 4 ≤ m ∧ m ≤ N ∧ N < 2 ^ 20) (gk : G.1 k = some (KYO kh kb made)) (gh : Rb G kh 32 h) (gb : Rb G kb 32 b) (hk : k ≠ d ∧ kh ≠ d ∧ kb ≠ d ∧ (k < 19 ∨ 23 < k) ∧ (kh < 19 ∨ 23 < kh) ∧ (kb < 19 ∨ 23 < kb)) (hn : n < 2 ^ 31)
    (hq : ∀ G' f', FP (fun j => j = 21 ∨ j = 22 ∨ j = 23 ∨ j = d) G G' → smr G' → G'.1 d = some (BA N f') → (∀ j, j < m → f' j = f j ^^^ ksm T h b n j) → Q (.inl none) G') : C K 0 0 mX7_hide [.ref 19, .ref r, .ref k, .int (nI n)] G Q := by
  have hrd : r ≠ d := by rintro rfl; rw [gr] at gd; cases gd
  obtain ⟨h9, eh, hh1, hh2⟩ := id gh
  obtain ⟨b9, eb, hb1, hb2⟩ := id gb
  have hh9 : ∀ j, j < 32 → h9 j < 256 := fun j hj => by rw [hh1 j hj]; exact hh2 j hj
  have hb9 : ∀ j, j < 32 → b9 j < 256 := fun j hj => by rw [hb1 j hj]; exact hb2 j hj
  have g20 := hs.1
  refine C_of okX7_hide (Nat.le_of_ble_eq_true rfl) ?_
  refine V_aload_n rfl (by first | rfl | assumption) ?_
  refine V_getf rfl rfl rfl (by repeat (first | exact hup_eq | assumption | refine Eq.trans (hup_ne (by first | assumption | exact Ne.symm (by assumption) | decide | omega)) ?_)) (by first | rfl | assumption) ?_
  refine V_aload_n rfl (by first | rfl | assumption) ?_
  refine V_getf rfl rfl rfl (by repeat (first | exact hup_eq | assumption | refine Eq.trans (hup_ne (by first | assumption | exact Ne.symm (by assumption) | decide | omega)) ?_)) (by first | rfl | assumption) ?_
  refine V_iload_n rfl (by first | rfl | assumption) ?_
  refine V_i2lN rfl (by first | omega | decide) ?_
  refine V_iconst (v := nI 0) rfl (by decide) ?_
  refine V_callV (M' := mX8_make) (mc := 0) (ms := 0) (bc' := 0) (bs' := 0) rfl cw_X7_72 iv_X8_make (by repeat (first | exact hup_eq | assumption | refine Eq.trans (hup_ne (by first | assumption | exact Ne.symm (by assumption) | decide | omega)) ?_)) rfl rfl (Nat.le_of_ble_eq_true rfl) ⟨Nat.le_of_ble_eq_true rfl, Nat.le_of_ble_eq_true rfl⟩ ⟨Nat.le_of_ble_eq_true rfl, Nat.le_of_ble_eq_true rfl⟩ (As := [.ref kh, .long (lN n), .int (nI 0)]) (c_smake (key := h9) (Q := fun o G' => o = .inl none ∧ ∃ s, FR [21, 22, 23] G G' ∧ smr G' ∧ G'.1 21 = some (BA 64 s) ∧ ∀ j, j < 64 → s j = STRM T.2.2 h n 0 j) hQ hqt hs eh (by decide) (by omega) hh9 (by omega) (fun G' s h1 h2 h3 h4 => ⟨rfl, s, h1, h2, h3, fun j hj => by rw [h4 j hj, STRM_congr hh1]⟩)) (fun o G' h => ?_) (fun E G' h => by cases h.1)
  obtain ⟨h0, s, hF, hs1, e21, hs2⟩ := h
  cases h0
  have F1 : FP (fun j => j = 21 ∨ j = 22 ∨ j = 23 ∨ j = d) G G' := hF.P (by intro x hx; simp at hx; omega)
  refine V_iconst (v := nI 0) rfl (by decide) ?_
  refine V_istore rfl (by decide) ?_
  have nd21 : d ≠ 21 := by omega
  have F1n : FP (fun j => j = 21 ∨ j = 22 ∨ j = 23) G G' := hF.P (by intro x hx; simp at hx; omega)
  refine V_loop 4 (fun i lc G2 => lc 0 = some (.ref 19) ∧ lc 1 = some (.ref r) ∧ lc 2 = some (.ref k) ∧ lc 3 = some (.int (nI n)) ∧ lc 4 = some (.int (nI i)) ∧ ∃ f', (∀ j, j < N → f' j = if j < i then f j ^^^ ksm T h b n j else f j) ∧ G2 = hup G' d (BA N f')) ?_ ?_ 0 _ _ (Nat.zero_le _) ⟨rfl, rfl, rfl, rfl, rfl, f, fun j hj => by rw [if_neg (Nat.not_lt_zero j)], (hup_same (F1n.get (by omega) gd)).symm⟩
  · rintro i lc G2 hi ⟨l0, l1, l2, l3, l4, f', hf', rfl⟩ ih
    have e19 : (hup G' d (BA N f')).1 19 = some SLO := by rw [hup_ne (by omega)]; exact F1n.get (by omega) g19
    have e20 : (hup G' d (BA N f')).1 20 = some STO := by rw [hup_ne (by omega)]; exact hs1.1
    have e21' : (hup G' d (BA N f')).1 21 = some (BA 64 s) := by rw [hup_ne (by omega)]; exact e21
    have er : (hup G' d (BA N f')).1 r = some (ROB d m) := by rw [hup_ne hrd]; exact F1n.get (by omega) gr
    have ed : (hup G' d (BA N f')).1 d = some (BA N f') := hup_eq
    refine V_iload rfl (by first | rfl | assumption) ?_
    refine V_iconst (v := nI 4) rfl (by decide) ?_
    refine V_icmp_geN rfl (by omega) (by decide) (fun h => absurd h (by omega)) (fun _ => ?_)
    refine V_aload_n rfl (by first | rfl | assumption) ?_
    refine V_getf rfl rfl rfl (by repeat (first | exact hup_eq | assumption | refine Eq.trans (hup_ne (by first | assumption | exact Ne.symm (by assumption) | decide | omega)) ?_)) (by first | rfl | assumption) ?_
    refine V_iload rfl (by first | rfl | assumption) ?_
    refine V_dup2 rfl rfl rfl ?_
    refine V_ialdN rfl (by repeat (first | exact hup_eq | assumption | refine Eq.trans (hup_ne (by first | assumption | exact Ne.symm (by assumption) | decide | omega)) ?_)) rfl (by first | omega | decide) (by first | omega | decide) ?_
    refine V_aload_n rfl (by first | rfl | assumption) ?_
    refine V_getf rfl rfl rfl (by repeat (first | exact hup_eq | assumption | refine Eq.trans (hup_ne (by first | assumption | exact Ne.symm (by assumption) | decide | omega)) ?_)) (by first | rfl | assumption) ?_
    refine V_getf rfl rfl rfl (by repeat (first | exact hup_eq | assumption | refine Eq.trans (hup_ne (by first | assumption | exact Ne.symm (by assumption) | decide | omega)) ?_)) (by first | rfl | assumption) ?_
    refine V_iload rfl (by first | rfl | assumption) ?_
    refine V_ialdN rfl (by repeat (first | exact hup_eq | assumption | refine Eq.trans (hup_ne (by first | assumption | exact Ne.symm (by assumption) | decide | omega)) ?_)) rfl (by first | omega | decide) (by first | omega | decide) ?_
    refine V_ixor rfl ?_
    rw [nI_xor]
    refine V_iastN rfl (by repeat (first | exact hup_eq | assumption | refine Eq.trans (hup_ne (by first | assumption | exact Ne.symm (by assumption) | decide | omega)) ?_)) rfl (by first | omega | decide) (by first | omega | decide) ?_
    refine V_iincN (d := 1) rfl (by first | rfl | assumption) (by decide) (by decide) ?_
    refine V_goto rfl ?_
    rw [hup_hup]
    refine ih _ _ ⟨l0, l1, l2, l3, rfl, _, fun j hj => ?_, rfl⟩
    by_cases e : j = i
    · rw [e, updN_eq, if_pos (by omega), hf' i (by omega), if_neg (by omega), hs2 i (by omega)]
      unfold ksm
      rw [if_pos hi]
    · rw [updN_ne e, hf' j hj]
      by_cases e2 : j < i
      · rw [if_pos e2, if_pos (by omega)]
      · rw [if_neg e2, if_neg (by omega)]
  · rintro lc G2 ⟨l0, l1, l2, l3, l4, f', hf', rfl⟩
    refine V_iload rfl (by first | rfl | assumption) ?_
    refine V_iconst (v := nI 4) rfl (by decide) ?_
    refine V_icmp_geN rfl (by decide) (by decide) (fun _ => ?_) (fun h => absurd (by decide) h)
    refine V_iconst (v := nI 4) rfl (by decide) ?_
    refine V_istore rfl (by decide) ?_
    refine V_loop (m - 4) (fun t lc G2 => lc 0 = some (.ref 19) ∧ lc 1 = some (.ref r) ∧ lc 2 = some (.ref k) ∧ lc 3 = some (.int (nI n)) ∧ lc 4 = some (.int (nI (4 + t))) ∧ FP (fun j => j = 21 ∨ j = 22 ∨ j = 23 ∨ j = d) G G2 ∧ smr G2 ∧ ∃ f' s, G2.1 d = some (BA N f') ∧ G2.1 21 = some (BA 64 s) ∧ (∀ j, j < N → f' j = if j < 4 + t then f j ^^^ ksm T h b n j else f j) ∧ (t % 64 ≠ 0 → ∀ j, j < 64 → s j = STRM T.2.2 b n (1 + t / 64) j)) ?_ ?_ 0 _ _ (Nat.zero_le _) ⟨l0, l1, l2, l3, rfl, F1.hup (by omega), ⟨by rw [hup_ne (by omega)]; exact hs1.1, ⟨s, by rw [hup_ne (by omega)]; exact e21⟩, by rw [hup_ne (by omega)]; exact hs1.2.2.1, by rw [hup_ne (by omega)]; exact hs1.2.2.2⟩, f', s, hup_eq, by rw [hup_ne (by omega)]; exact e21, hf', fun q => absurd rfl q⟩
    · rintro t lc G2 ht ⟨l0, l1, l2, l3, l4, F2, s2, f2, x2, ed, ex, hf2, hx2⟩ ih
      have er : G2.1 r = some (ROB d m) := F2.get (by omega) gr
      have e19 : G2.1 19 = some SLO := F2.get (by omega) g19
      have e20 := s2.1
      have ek := F2.get (by omega) gk
      have eb2 := F2.get (by omega) eb
      refine V_iload rfl (by first | rfl | assumption) ?_
      refine V_aload_n rfl (by first | rfl | assumption) ?_
      refine V_getf rfl rfl rfl (by repeat (first | exact hup_eq | assumption | refine Eq.trans (hup_ne (by first | assumption | exact Ne.symm (by assumption) | decide | omega)) ?_)) (by first | rfl | assumption) ?_
      refine V_icmp_geN rfl (by omega) (by omega) (fun h => absurd h (by omega)) (fun _ => ?_)
      refine V_iload rfl (by first | rfl | assumption) ?_
      refine V_iconst (v := nI 4) rfl (by decide) ?_
      refine V_isubN rfl (by first | omega | decide) ?_
      refine V_istore rfl (by decide) ?_
      refine V_iload rfl (by first | rfl | assumption) ?_
      refine V_bipush (v := nI 64) rfl (by decide) ?_
      refine V_iremN rfl (by first | omega | decide) (by first | omega | decide) (by first | omega | decide) ?_
      rw [show 4 + t - 4 = t by omega]
      have go : ∀ (lc : kLo) (G3 : kG) (x3 : Nat → Nat), lc 0 = some (.ref 19) → lc 1 = some (.ref r) → lc 2 = some (.ref k) → lc 3 = some (.int (nI n)) → lc 4 = some (.int (nI (4 + t))) → lc 5 = some (.int (nI t)) → FP (fun j => j = 21 ∨ j = 22 ∨ j = 23 ∨ j = d) G G3 → smr G3 → G3.1 d = some (BA N f2) → G3.1 21 = some (BA 64 x3) → (∀ j, j < 64 → x3 j = STRM T.2.2 b n (1 + t / 64) j) → V K 0 0 mX7_hide 95 lc [] G3 Q := by
        intro lc G3 x3 l0 l1 l2 l3 l4 l5 F3 s3 ed3 ex3 hx3
        have er3 : G3.1 r = some (ROB d m) := F3.get (by omega) gr
        have e193 : G3.1 19 = some SLO := F3.get (by omega) g19
        have e203 := s3.1
        refine V_aload_n rfl (by first | rfl | assumption) ?_
        refine V_getf rfl rfl rfl (by repeat (first | exact hup_eq | assumption | refine Eq.trans (hup_ne (by first | assumption | exact Ne.symm (by assumption) | decide | omega)) ?_)) (by first | rfl | assumption) ?_
        refine V_iload rfl (by first | rfl | assumption) ?_
        refine V_dup2 rfl rfl rfl ?_
        refine V_ialdN rfl (by repeat (first | exact hup_eq | assumption | refine Eq.trans (hup_ne (by first | assumption | exact Ne.symm (by assumption) | decide | omega)) ?_)) rfl (by first | omega | decide) (by first | omega | decide) ?_
        refine V_aload_n rfl (by first | rfl | assumption) ?_
        refine V_getf rfl rfl rfl (by repeat (first | exact hup_eq | assumption | refine Eq.trans (hup_ne (by first | assumption | exact Ne.symm (by assumption) | decide | omega)) ?_)) (by first | rfl | assumption) ?_
        refine V_getf rfl rfl rfl (by repeat (first | exact hup_eq | assumption | refine Eq.trans (hup_ne (by first | assumption | exact Ne.symm (by assumption) | decide | omega)) ?_)) (by first | rfl | assumption) ?_
        refine V_iload rfl (by first | rfl | assumption) ?_
        refine V_bipush (v := nI 64) rfl (by decide) ?_
        refine V_iremN rfl (by first | omega | decide) (by first | omega | decide) (by first | omega | decide) ?_
        refine V_ialdN rfl (by repeat (first | exact hup_eq | assumption | refine Eq.trans (hup_ne (by first | assumption | exact Ne.symm (by assumption) | decide | omega)) ?_)) rfl (by first | omega | decide) (by first | omega | decide) ?_
        refine V_ixor rfl ?_
        rw [nI_xor]
        refine V_iastN rfl (by repeat (first | exact hup_eq | assumption | refine Eq.trans (hup_ne (by first | assumption | exact Ne.symm (by assumption) | decide | omega)) ?_)) rfl (by first | omega | decide) (by first | omega | decide) ?_
        refine V_iincN (d := 1) rfl (by first | rfl | assumption) (by decide) (by decide) ?_
        refine V_goto rfl ?_
        refine ih _ _ ⟨l0, l1, l2, l3, rfl, F3.hup (by omega), ⟨by rw [hup_ne (by omega)]; exact s3.1, ⟨x3, by rw [hup_ne (by omega)]; exact ex3⟩, by rw [hup_ne (by omega)]; exact s3.2.2.1, by rw [hup_ne (by omega)]; exact s3.2.2.2⟩, _, x3, hup_eq, by rw [hup_ne (by omega)]; exact ex3, fun j hj => ?_, fun q j hj => ?_⟩
        · by_cases e : j = 4 + t
          · rw [e, updN_eq, if_pos (by omega), hf2 _ (by omega), if_neg (by omega), hx3 _ (by omega)]
            unfold ksm
            rw [if_neg (by omega), show 4 + t - 4 = t by omega]
          · rw [updN_ne e, hf2 j hj]
            by_cases e2 : j < 4 + t
            · rw [if_pos e2, if_pos (by omega)]
            · rw [if_neg e2, if_neg (by omega)]
        · rw [hx3 j hj, show (t + 1) / 64 = t / 64 by omega]
      refine V_if_neN rfl (by omega) (fun h => ?_) (fun h => ?_)
      · exact go _ _ x2 l0 l1 l2 l3 l4 rfl F2 s2 ed ex (hx2 h)
      · refine V_aload_n rfl (by first | rfl | assumption) ?_
        refine V_getf rfl rfl rfl (by repeat (first | exact hup_eq | assumption | refine Eq.trans (hup_ne (by first | assumption | exact Ne.symm (by assumption) | decide | omega)) ?_)) (by first | rfl | assumption) ?_
        refine V_aload_n rfl (by first | rfl | assumption) ?_
        refine V_getf rfl rfl rfl (by repeat (first | exact hup_eq | assumption | refine Eq.trans (hup_ne (by first | assumption | exact Ne.symm (by assumption) | decide | omega)) ?_)) (by first | rfl | assumption) ?_
        refine V_iload_n rfl (by first | rfl | assumption) ?_
        refine V_i2lN rfl (by first | omega | decide) ?_
        refine V_iconst (v := nI 1) rfl (by decide) ?_
        refine V_iload rfl (by first | rfl | assumption) ?_
        refine V_bipush (v := nI 64) rfl (by decide) ?_
        refine V_idivN rfl (by first | omega | decide) (by first | omega | decide) (by first | omega | decide) ?_
        refine V_iaddN rfl ?_
        refine V_callV (M' := mX8_make) (mc := 0) (ms := 0) (bc' := 0) (bs' := 0) rfl cw_X7_72 iv_X8_make (by repeat (first | exact hup_eq | assumption | refine Eq.trans (hup_ne (by first | assumption | exact Ne.symm (by assumption) | decide | omega)) ?_)) rfl rfl (Nat.le_of_ble_eq_true rfl) ⟨Nat.le_of_ble_eq_true rfl, Nat.le_of_ble_eq_true rfl⟩ ⟨Nat.le_of_ble_eq_true rfl, Nat.le_of_ble_eq_true rfl⟩ (As := [.ref kb, .long (lN n), .int (nI (1 + t / 64))]) (c_smake (key := b9) (Q := fun o G' => o = .inl none ∧ ∃ s, FR [21, 22, 23] G2 G' ∧ smr G' ∧ G'.1 21 = some (BA 64 s) ∧ ∀ j, j < 64 → s j = STRM T.2.2 b n (1 + t / 64) j) hQ hqt s2 eb2 (by decide) (by omega) hb9 (by omega) (fun G' s h1 h2 h3 h4 => ⟨rfl, s, h1, h2, h3, fun j hj => by rw [h4 j hj, STRM_congr hb1]⟩)) (fun o G' h => ?_) (fun E G' h => by cases h.1)
        obtain ⟨h0, x3, hF3, s3, ex3, hx3⟩ := h
        cases h0
        exact go _ _ x3 l0 l1 l2 l3 l4 rfl (F2.trans (P' := fun j => j = 21 ∨ j = 22 ∨ j = 23) (hF3.P (by intro x hx; simp at hx; omega)) (fun x hx => by omega)) s3 (hF3.get (by simp; omega) ed) ex3 hx3
    · rintro lc G2 ⟨l0, l1, l2, l3, l4, F2, s2, f2, x2, ed, ex, hf2, hx2⟩
      have er : G2.1 r = some (ROB d m) := F2.get (by omega) gr
      refine V_iload rfl (by first | rfl | assumption) ?_
      refine V_aload_n rfl (by first | rfl | assumption) ?_
      refine V_getf rfl rfl rfl (by repeat (first | exact hup_eq | assumption | refine Eq.trans (hup_ne (by first | assumption | exact Ne.symm (by assumption) | decide | omega)) ?_)) (by first | rfl | assumption) ?_
      refine V_icmp_geN rfl (by omega) (by omega) (fun _ => ?_) (fun h => absurd h (by omega))
      exact V_vret rfl rfl (hq G2 f2 F2 s2 ed (fun j hj => by rw [hf2 j (by omega), if_pos (by omega)]))
end CSeal
