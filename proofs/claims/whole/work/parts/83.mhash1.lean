/-! the reference: the hash -/
theorem lw_sar (x : Int32) {s : Nat} (hs : s ≤ 24) : lw (x >>> (nI s &&& 31)) = x.toBitVec.toNat / 2 ^ s % 2 ^ 8 := by
  unfold lw
  have e : (x >>> (nI s &&& 31)).toBitVec = x.toBitVec.sshiftRight (((nI s &&& 31).toBitVec.smod 32).toNat) := rfl
  rw [e, amt32 s (by omega)]
  apply Nat.eq_of_testBit_eq
  intro i
  show Nat.testBit (_ % 2 ^ 8) i = _
  rw [Nat.testBit_mod_two_pow, Nat.testBit_mod_two_pow, Nat.testBit_div_two_pow]
  by_cases h : i < 8
  · have : (x.toBitVec.sshiftRight s).toNat.testBit i = (x.toBitVec.sshiftRight s).getLsbD i := rfl
    rw [this, BitVec.getLsbD_sshiftRight]
    have h2 : s + i < 32 := by omega
    simp only [h2, if_true, show ¬ (32 ≤ i) by omega, decide_false, Bool.not_false, Bool.true_and]
    rw [Nat.add_comm i s]
    rfl
  · simp [h]
section MHash
variable {K : kK} {G : kG} {Q : kO → kG → Prop} {th ta os hs ps rs : Int32}
theorem c_mright {x : Int32} {k : Nat} (hk : 0 < k ∧ k < 32) (hq : Q (.inl (some (.int (rotW x k (32 - k))))) G) : C K 0 0 mX12_right [.int x, .int (nI k)] G Q := by
  refine C_of okX12_right (Nat.le_of_ble_eq_true rfl) ?_
  refine V_iload_n rfl (by first | rfl | assumption) ?_
  refine V_iload_n rfl (by first | rfl | assumption) ?_
  refine V_iushr rfl ?_
  refine V_iload_n rfl (by first | rfl | assumption) ?_
  refine V_bipush (v := nI 32) rfl (by decide) ?_
  refine V_iload_n rfl (by first | rfl | assumption) ?_
  refine V_isubN rfl (by first | omega | decide) ?_
  refine V_ishl rfl ?_
  refine V_ior rfl ?_
  exact V_iret rfl rfl hq
theorem c_mleft {x : Int32} {k : Nat} (hk : 0 < k ∧ k < 32) (hq : Q (.inl (some (.int (lrot x k (32 - k))))) G) : C K 0 0 mX12_left [.int x, .int (nI k)] G Q := by
  refine C_of okX12_left (Nat.le_of_ble_eq_true rfl) ?_
  refine V_iload_n rfl (by first | rfl | assumption) ?_
  refine V_iload_n rfl (by first | rfl | assumption) ?_
  refine V_ishl rfl ?_
  refine V_iload_n rfl (by first | rfl | assumption) ?_
  refine V_bipush (v := nI 32) rfl (by decide) ?_
  refine V_iload_n rfl (by first | rfl | assumption) ?_
  refine V_isubN rfl (by first | omega | decide) ?_
  refine V_iushr rfl ?_
  refine V_ior rfl ?_
  exact V_iret rfl rfl hq
theorem c_mrow {k : Nat} (hq : Q (.inl (some (.int (nI (32 * k))))) G) : C K 0 0 mX12_row [.int (nI k)] G Q := by
  refine C_of okX12_row (Nat.le_of_ble_eq_true rfl) ?_
  refine V_bipush (v := nI 32) rfl (by decide) ?_
  refine V_iload_n rfl (by first | rfl | assumption) ?_
  refine V_imulN rfl ?_
  exact V_iret rfl rfl hq
theorem c_mhbegin (g140 : G.1 140 = some (MO th ta os hs ps rs)) (hq : Q (.inl none) (hup G 140 (MO th ta os (nI 0) ps rs))) : C K 0 0 mX12_hashBegin [.ref 140] G Q := by
  refine C_of okX12_hashBegin (Nat.le_of_ble_eq_true rfl) ?_
  refine V_aload_n rfl (by first | rfl | assumption) ?_
  refine V_iconst (v := nI 0) rfl (by decide) ?_
  refine V_pf_hs rfl rfl rfl (by repeat (first | exact hup_eq | assumption | refine Eq.trans (hup_ne (by first | assumption | exact Ne.symm (by assumption) | decide | omega)) ?_)) ?_
  exact V_vret rfl rfl hq
/-- what was added to the hash -/
def mhl (l : List Nat) (G : kG) : Prop := ∃ b, G.1 149 = some (YA 800 b) ∧ (∀ j, b j < 256) ∧ lst b l.length = l
theorem c_mhadd {a N s c : Nat} {f : Nat → Nat} {l : List Nat} (g140 : G.1 140 = some (MO th ta os (nI l.length) ps rs)) (hl : mhl l G) (ga : G.1 a = some (YA N f)) (ha : a ≠ 149 ∧ a ≠ 140) (hs9 : s + c ≤ N) (hN : N < 2 ^ 20) (hf : ∀ j, f j < 256) (hm : l.length + c ≤ 800)
    (hq : ∀ G', FP (fun j => j = 140 ∨ j = 149) G G' → G'.1 140 = some (MO th ta os (nI (l ++ lst (sft f s) c).length) ps rs) → mhl (l ++ lst (sft f s) c) G' → Q (.inl none) G') : C K 0 0 mX12_hashAdd [.ref 140, .ref a, .int (nI s), .int (nI c)] G Q := by
  obtain ⟨b, g149, hb, hlb⟩ := hl
  generalize hn : l.length = n at g140 hm hlb
  refine C_of okX12_hashAdd (Nat.le_of_ble_eq_true rfl) ?_
  refine V_iconst (v := nI 0) rfl (by decide) ?_
  refine V_istore rfl (by decide) ?_
  have LP := V_loop (K := K) (bc := 0) (bs := 0) (M := mX12_hashAdd) (head := 3) (Q := Q) c (fun i lc G' => lc 0 = some (.ref 140) ∧ lc 1 = some (.ref a) ∧ lc 2 = some (.int (nI s)) ∧ lc 3 = some (.int (nI c)) ∧ lc 4 = some (.int (nI i)) ∧ G' = hup (hup G 149 (YA 800 (ovw b n i (sft f s)))) 140 (MO th ta os (nI (n + i)) ps rs)) ?_ ?_
  · exact LP 0 _ _ (Nat.zero_le _) ⟨rfl, rfl, rfl, rfl, rfl, by rw [ovw_0, hup_same g149, Nat.add_zero, hup_same g140]⟩
  · rintro i lc G' hi ⟨l0, l1, l2, l3, l4, rfl⟩ ih
    obtain ⟨a1, a2⟩ := ha
    refine V_iload rfl (by first | rfl | assumption) ?_
    refine V_iload_n rfl (by first | rfl | assumption) ?_
    refine V_icmp_geN rfl (by omega) (by omega) (fun h => absurd h (by omega)) (fun _ => ?_)
    refine V_aload_n rfl (by first | rfl | assumption) ?_
    refine V_getf rfl rfl rfl (by repeat (first | exact hup_eq | assumption | refine Eq.trans (hup_ne (by first | assumption | exact Ne.symm (by assumption) | decide | omega)) ?_)) (by first | rfl | assumption) ?_
    refine V_aload_n rfl (by first | rfl | assumption) ?_
    refine V_getf rfl rfl rfl (by repeat (first | exact hup_eq | assumption | refine Eq.trans (hup_ne (by first | assumption | exact Ne.symm (by assumption) | decide | omega)) ?_)) (by first | rfl | assumption) ?_
    refine V_aload_n rfl (by first | rfl | assumption) ?_
    refine V_iload_n rfl (by first | rfl | assumption) ?_
    refine V_iload rfl (by first | rfl | assumption) ?_
    refine V_iaddN rfl ?_
    refine V_baldB rfl (by repeat (first | exact hup_eq | assumption | refine Eq.trans (hup_ne (by first | assumption | exact Ne.symm (by assumption) | decide | omega)) ?_)) rfl (by first | omega | decide) (by first | omega | decide) ?_
    refine V_bastB rfl (by repeat (first | exact hup_eq | assumption | refine Eq.trans (hup_ne (by first | assumption | exact Ne.symm (by assumption) | decide | omega)) ?_)) rfl (by first | omega | decide) (by first | omega | decide) (by first | assumption | solve_by_elim | exact Nat.mod_lt _ (by decide) | omega) ?_
    refine V_aload_n rfl (by first | rfl | assumption) ?_
    refine V_dup rfl rfl ?_
    refine V_getf rfl rfl rfl (by repeat (first | exact hup_eq | assumption | refine Eq.trans (hup_ne (by first | assumption | exact Ne.symm (by assumption) | decide | omega)) ?_)) (by first | rfl | assumption) ?_
    refine V_iconst (v := nI 1) rfl (by decide) ?_
    refine V_iaddN rfl ?_
    refine V_pf_hs rfl rfl rfl (by repeat (first | exact hup_eq | assumption | refine Eq.trans (hup_ne (by first | assumption | exact Ne.symm (by assumption) | decide | omega)) ?_)) ?_
    refine V_iincN (d := 1) rfl (by first | rfl | assumption) (by decide) (by decide) ?_
    refine V_goto rfl ?_
    rw [hup4 (by decide), ovw_s' (g := sft f s) (by rfl), Nat.add_assoc]
    exact ih _ _ ⟨l0, l1, l2, l3, rfl, rfl⟩
  · rintro lc G' ⟨l0, l1, l2, l3, l4, rfl⟩
    refine V_iload rfl (by first | rfl | assumption) ?_
    refine V_iload_n rfl (by first | rfl | assumption) ?_
    refine V_icmp_geN rfl (by omega) (by omega) (fun _ => ?_) (fun h => absurd (Nat.le_refl _) h)
    refine V_vret rfl rfl (hq _ ((FP.rf.hup (Or.inr rfl)).hup (Or.inl rfl)) ?_ ?_)
    · rw [hup_eq, List.length_append, lst_len, hn]
    · refine ⟨_, (hup_ne (by decide)).trans hup_eq, ovw_lt hb (fun j _ => hf _), ?_⟩
      rw [List.length_append, lst_len, hn, lst_app]
      congr 1
      · rw [← hlb]
        exact lst_congr (fun j hj => ovw_out (by omega))
      · exact lst_congr (fun j hj => ovw_in hj)
def pbe (b : Nat → Nat) (a : Nat) : Nat → Nat
  | 0 => 0
  | k + 1 => pbe b a k * 2 ^ 8 + b (a + k)
theorem pbe_4 (b : Nat → Nat) (s t : Nat) : nI (pbe b (s + 4 * t) 4) = bW b s t := by
  unfold bW
  refine congrArg nI ?_
  simp only [pbe, Nat.add_zero]
  omega
/-- the hash's rows: constants, words, state -/
def hM (T : TB) (G : kG) : Prop := (∃ f, G.1 145 = some (IA 8 f) ∧ ∀ j, j < 8 → f j = T.1 j) ∧ (∃ f, G.1 146 = some (IA 64 f) ∧ ∀ j, j < 64 → f j = T.2.1 j) ∧ (∃ w, G.1 147 = some (IA 64 w)) ∧ (∃ w, G.1 148 = some (IA 8 w)) ∧ ∃ w, G.1 151 = some (IA 16 w)
def shf (s : Nat → Int32) (i j : Nat) : Int32 := if 7 - i < j ∧ j ≤ 7 then s (j - 1) else s j
theorem shf_s {s : Nat → Int32} {i : Nat} (hi : i < 7) : upd (shf s i) (7 - i) (shf s i (7 - i - 1)) = shf s (i + 1) := by
  funext j
  have e1 : shf s i (7 - i - 1) = s (7 - i - 1) := by unfold shf; rw [if_neg (by omega)]
  rw [e1]
  by_cases e : j = 7 - i
  · subst e; rw [pk_us]; unfold shf; rw [if_pos (by omega)]
  · rw [pk_un e]
    unfold shf
    by_cases h : 7 - i < j ∧ j ≤ 7
    · rw [if_pos h, if_pos (by omega)]
    · rw [if_neg h, if_neg (by omega)]
theorem rn_step {r w s r' w' : Nat → Int32} {z : W8} {t : Nat} (hs : ∀ j, j < 8 → s j = g8 z j) (hr : r' t = r t) (hw : w' t = w t) : ∀ j, j < 8 → upd (upd (shf s 7) 4 (shf s 7 4 + (s 7 + (rotW (s 4) 6 26 ^^^ rotW (s 4) 11 21 ^^^ rotW (s 4) 25 7) + (s 4 &&& s 5 ^^^ (s 4 ^^^ (-1)) &&& s 6) + r' t + w' t))) 0 ((s 7 + (rotW (s 4) 6 26 ^^^ rotW (s 4) 11 21 ^^^ rotW (s 4) 25 7) + (s 4 &&& s 5 ^^^ (s 4 ^^^ (-1)) &&& s 6) + r' t + w' t) + ((rotW (s 0) 2 30 ^^^ rotW (s 0) 13 19 ^^^ rotW (s 0) 22 10) + (s 0 &&& s 1 ^^^ s 0 &&& s 2 ^^^ s 1 &&& s 2))) j = g8 (rnd r w t z) j := by
  have h0 := hs 0 (by decide)
  have h1 := hs 1 (by decide)
  have h2 := hs 2 (by decide)
  have h3 := hs 3 (by decide)
  have h4 := hs 4 (by decide)
  have h5 := hs 5 (by decide)
  have h6 := hs 6 (by decide)
  have h7 := hs 7 (by decide)
  have e1 : s 7 + (rotW (s 4) 6 26 ^^^ rotW (s 4) 11 21 ^^^ rotW (s 4) 25 7) + (s 4 &&& s 5 ^^^ (s 4 ^^^ (-1)) &&& s 6) + r' t + w' t = rn1 r w t z := by rw [h4, h5, h6, h7, hr, hw]; rfl
  have e2 : (rotW (s 0) 2 30 ^^^ rotW (s 0) 13 19 ^^^ rotW (s 0) 22 10) + (s 0 &&& s 1 ^^^ s 0 &&& s 2 ^^^ s 1 &&& s 2) = rn2 z := by rw [h0, h1, h2]; rfl
  rw [e1, e2]
  intro j hj
  have : j = 0 ∨ j = 1 ∨ j = 2 ∨ j = 3 ∨ j = 4 ∨ j = 5 ∨ j = 6 ∨ j = 7 := by omega
  rcases this with rfl | rfl | rfl | rfl | rfl | rfl | rfl | rfl
  · rw [pk_us]; rfl
  · rw [pk_un (by decide), pk_un (by decide)]; exact h0
  · rw [pk_un (by decide), pk_un (by decide)]; exact h1
  · rw [pk_un (by decide), pk_un (by decide)]; exact h2
  · rw [pk_un (by decide), pk_us]; show s 3 + _ = _; rw [h3]; rfl
  · rw [pk_un (by decide), pk_un (by decide)]; exact h4
  · rw [pk_un (by decide), pk_un (by decide)]; exact h5
  · rw [pk_un (by decide), pk_un (by decide)]; exact h6
end MHash
