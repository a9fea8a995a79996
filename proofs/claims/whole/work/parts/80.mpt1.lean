/-! numbers bit by bit -/
/-- a digit of w bits of the lowest n bits -/
def dgt (w U n k : Nat) : Nat := U % 2 ^ n / 2 ^ (w * k) % 2 ^ w
theorem mod_p2s (U n : Nat) : U % 2 ^ (n + 1) = U % 2 ^ n + U / 2 ^ n % 2 * 2 ^ n := by
  rw [Nat.pow_succ, Nat.mod_mul, Nat.mul_comm (2 ^ n)]
theorem dgt_s {w U n k : Nat} (hw : 0 < w) : dgt w U (n + 1) k = if k = n / w then dgt w U n k + U / 2 ^ n % 2 * 2 ^ (n % w) else dgt w U n k := by
  unfold dgt
  rw [mod_p2s]
  generalize hb : U / 2 ^ n % 2 = b
  have hb2 : b < 2 := by rw [← hb]; exact Nat.mod_lt _ (by decide)
  have hl : U % 2 ^ n < 2 ^ n := Nat.mod_lt _ (Nat.two_pow_pos n)
  generalize U % 2 ^ n = L at hl
  have hnw := Nat.div_add_mod n w
  have hr : n % w < w := Nat.mod_lt _ hw
  by_cases e : k = n / w
  · rw [if_pos e]
    subst e
    have ep : 2 ^ n = 2 ^ (n % w) * 2 ^ (w * (n / w)) := by rw [← Nat.pow_add]; congr 1; omega
    have h1 : L / 2 ^ (w * (n / w)) < 2 ^ (n % w) := by
      rw [Nat.div_lt_iff_lt_mul (Nat.two_pow_pos _), ← ep]
      exact hl
    have h2 : 2 ^ w = 2 ^ (n % w + 1) * 2 ^ (w - (n % w + 1)) := by rw [← Nat.pow_add]; congr 1; omega
    have h3 : 0 < 2 ^ (w - (n % w + 1)) := Nat.two_pow_pos _
    have h4 : 2 ^ (n % w + 1) ≤ 2 ^ w := Nat.pow_le_pow_right (by decide) (by omega)
    have h5 : (2 : Nat) ^ (n % w + 1) = 2 * 2 ^ (n % w) := by rw [Nat.pow_succ, Nat.mul_comm]
    have h6 : b * 2 ^ (n % w) ≤ 1 * 2 ^ (n % w) := Nat.mul_le_mul_right _ (by omega)
    rw [ep, ← Nat.mul_assoc, Nat.add_mul_div_right _ _ (Nat.two_pow_pos _), Nat.mod_eq_of_lt (by omega), Nat.mod_eq_of_lt (a := L / _) (by omega)]
  · rw [if_neg e]
    by_cases h : k < n / w
    · have ek : w * k + w ≤ n := by
        have : w * (k + 1) ≤ w * (n / w) := Nat.mul_le_mul_left w h
        rw [Nat.mul_add, Nat.mul_one] at this
        omega
      have ep : 2 ^ n = 2 ^ (n - (w * k + w)) * 2 ^ w * 2 ^ (w * k) := by rw [← Nat.pow_add, ← Nat.pow_add]; congr 1; omega
      rw [ep, ← Nat.mul_assoc, Nat.add_mul_div_right _ _ (Nat.two_pow_pos _), ← Nat.mul_assoc, Nat.add_mul_mod_self_right]
    · have ek : n + 1 ≤ w * k := by
        have : w * (n / w + 1) ≤ w * k := Nat.mul_le_mul_left w (by omega)
        rw [Nat.mul_add, Nat.mul_one] at this
        omega
      have hp : 2 ^ (n + 1) ≤ 2 ^ (w * k) := Nat.pow_le_pow_right (by decide) ek
      have h5 : (2 : Nat) ^ (n + 1) = 2 * 2 ^ n := by rw [Nat.pow_succ, Nat.mul_comm]
      have h6 : b * 2 ^ n ≤ 1 * 2 ^ n := Nat.mul_le_mul_right _ (by omega)
      rw [Nat.div_eq_of_lt (by omega), Nat.div_eq_of_lt (by omega)]
theorem dgt_lt (w U n k : Nat) : dgt w U n k < 2 ^ w := Nat.mod_lt _ (Nat.two_pow_pos w)
/-- the digit that grows has room -/
theorem dgt_room {w U n : Nat} : dgt w U n (n / w) < 2 ^ (n % w) := by
  unfold dgt
  refine Nat.lt_of_le_of_lt (Nat.mod_le _ _) ?_
  rw [Nat.div_lt_iff_lt_mul (Nat.two_pow_pos _), ← Nat.pow_add]
  rw [Nat.add_comm, Nat.div_add_mod]
  exact Nat.mod_lt _ (Nat.two_pow_pos n)
theorem dgt_0 (w U k : Nat) : dgt w U 0 k = 0 := by
  unfold dgt
  rw [Nat.pow_zero, Nat.mod_one]
  simp
theorem vs_dgt (B V : Nat) (hB : 0 < B) : ∀ n, vs B (fun k => V / B ^ k % B) n = V % B ^ n
  | 0 => by simp [vs, Nat.mod_one]
  | n + 1 => by
    simp only [vs]
    rw [vs_dgt B V hB n, Nat.pow_succ, Nat.mod_mul, Nat.mul_comm (B ^ n)]
theorem dgt_v {w U n m : Nat} : vs (2 ^ w) (dgt w U n) m = U % 2 ^ n % (2 ^ w) ^ m := by
  rw [← vs_dgt (2 ^ w) (U % 2 ^ n) (Nat.two_pow_pos w) m]
  refine vs_congr (fun k _ => ?_)
  unfold dgt
  rw [← Nat.pow_mul]
/-- a bit of a number out of its digits -/
theorem dig_bit {w N : Nat} {o : Nat → Nat} (hw : 0 < w) (h : ∀ j, j < N → o j < 2 ^ w) {n : Nat} (hn : n < w * N) : o (n / w) / 2 ^ (n % w) % 2 = vs (2 ^ w) o N / 2 ^ n % 2 := by
  have hk : n / w < N := (Nat.div_lt_iff_lt_mul hw).mpr (by rw [Nat.mul_comm]; exact hn)
  rw [dig_uniq (Nat.two_pow_pos w) h rfl (n / w) hk]
  generalize vs (2 ^ w) o N = V
  have hnw := Nat.div_add_mod n w
  have hr : n % w < w := Nat.mod_lt _ hw
  rw [← Nat.pow_mul]
  have e1 : V / 2 ^ n = V / 2 ^ (w * (n / w)) / 2 ^ (n % w) := by rw [Nat.div_div_eq_div_mul, ← Nat.pow_add, hnw]
  rw [e1]
  generalize V / 2 ^ (w * (n / w)) = X
  have e2 : 2 ^ w = 2 ^ (n % w) * (2 * 2 ^ (w - (n % w + 1))) := by
    rw [← Nat.mul_assoc, ← Nat.pow_succ, ← Nat.pow_add]; congr 1; omega
  rw [e2, Nat.mod_mul_right_div_self, Nat.mod_mul_right_mod]
theorem byte_bit {o : Nat → Nat} (h : ∀ j, o j < 256) {N n : Nat} (hn : n < 8 * N) : o (n / 8) / 2 ^ (n % 8) % 2 = vs 256 o N / 2 ^ n % 2 := dig_bit (w := 8) (by decide) (fun j _ => h j) hn
theorem tb_iff (x i : Nat) : x / 2 ^ i % 2 = 1 ↔ x.testBit i = true := by
  rw [Nat.testBit_eq_decide_div_mod_eq]
  simp
/-- the bits of the factor that count -/
theorem bit_fac {k : Nat → Nat} {t : Nat} (ht : t ≤ 254) : bitf (facf k) t = 1 ↔ t = 254 ∨ (2 < t ∧ k (t / 8) / 2 ^ (t % 8) % 2 = 1) := by
  unfold bitf facf
  by_cases h0 : t / 8 = 0
  · rw [if_pos h0, tb_iff, Nat.testBit_and, Bool.and_eq_true, h0, tb_iff]
    have : t = 0 ∨ t = 1 ∨ t = 2 ∨ t = 3 ∨ t = 4 ∨ t = 5 ∨ t = 6 ∨ t = 7 := by omega
    rcases this with rfl | rfl | rfl | rfl | rfl | rfl | rfl | rfl <;> simp [show Nat.testBit 248 0 = false from by decide, show Nat.testBit 248 1 = false from by decide, show Nat.testBit 248 2 = false from by decide, show Nat.testBit 248 3 = true from by decide, show Nat.testBit 248 4 = true from by decide, show Nat.testBit 248 5 = true from by decide, show Nat.testBit 248 6 = true from by decide, show Nat.testBit 248 7 = true from by decide, show Nat.testBit 127 0 = true from by decide, show Nat.testBit 127 1 = true from by decide, show Nat.testBit 127 2 = true from by decide, show Nat.testBit 127 3 = true from by decide, show Nat.testBit 127 4 = true from by decide, show Nat.testBit 127 5 = true from by decide, show Nat.testBit 127 6 = true from by decide, show Nat.testBit 64 0 = false from by decide, show Nat.testBit 64 1 = false from by decide, show Nat.testBit 64 2 = false from by decide, show Nat.testBit 64 3 = false from by decide, show Nat.testBit 64 4 = false from by decide, show Nat.testBit 64 5 = false from by decide, show Nat.testBit 64 6 = true from by decide]
  · rw [if_neg h0]
    by_cases h1 : t / 8 = 31
    · rw [if_pos h1, tb_iff, Nat.testBit_or, Nat.testBit_and, h1, tb_iff]
      have : t = 248 ∨ t = 249 ∨ t = 250 ∨ t = 251 ∨ t = 252 ∨ t = 253 ∨ t = 254 := by omega
      rcases this with rfl | rfl | rfl | rfl | rfl | rfl | rfl <;> simp [show Nat.testBit 248 0 = false from by decide, show Nat.testBit 248 1 = false from by decide, show Nat.testBit 248 2 = false from by decide, show Nat.testBit 248 3 = true from by decide, show Nat.testBit 248 4 = true from by decide, show Nat.testBit 248 5 = true from by decide, show Nat.testBit 248 6 = true from by decide, show Nat.testBit 248 7 = true from by decide, show Nat.testBit 127 0 = true from by decide, show Nat.testBit 127 1 = true from by decide, show Nat.testBit 127 2 = true from by decide, show Nat.testBit 127 3 = true from by decide, show Nat.testBit 127 4 = true from by decide, show Nat.testBit 127 5 = true from by decide, show Nat.testBit 127 6 = true from by decide, show Nat.testBit 64 0 = false from by decide, show Nat.testBit 64 1 = false from by decide, show Nat.testBit 64 2 = false from by decide, show Nat.testBit 64 3 = false from by decide, show Nat.testBit 64 4 = false from by decide, show Nat.testBit 64 5 = false from by decide, show Nat.testBit 64 6 = true from by decide]
    · rw [if_neg h1]
      exact ⟨fun h => Or.inr ⟨by omega, h⟩, fun h => by rcases h with h | h; omega; exact h.2⟩
theorem mulP_comm (a b : Nat) : mulP a b = mulP b a := by unfold mulP; rw [Nat.mul_comm]
theorem addP_comm (a b : Nat) : addP a b = addP b a := by unfold addP; rw [Nat.add_comm]
theorem lg_cmp0 {x y : Int64} : lg_cmp x y = 0 ↔ x = y := by
  unfold lg_cmp
  by_cases a : y < x
  · rw [if_pos a]
    refine ⟨fun h => absurd h (by decide), fun h => ?_⟩
    rw [h] at a
    exact absurd (Int64.lt_iff_toInt_lt.mp a) (Int.lt_irrefl _)
  · rw [if_neg a]
    by_cases b : x = y
    · rw [if_pos b]; exact ⟨fun _ => b, fun _ => rfl⟩
    · rw [if_neg b]; exact ⟨fun h => absurd h (by decide), fun h => absurd h b⟩
theorem lN_eq63 {a b : Nat} (ha : a < 2 ^ 63) (hb : b < 2 ^ 63) : lN a = lN b ↔ a = b := by
  refine ⟨fun h => ?_, fun h => by rw [h]⟩
  have := congrArg Int64.toInt h
  rw [pf_lI ha, pf_lI hb] at this
  omega
section MPt
variable {K : kK} {G : kG} {Q : kO → kG → Prop} {th ta os hs ps rs : Int32}
theorem V_if_ltLN {bc bs : Nat} {M : kM} {pc n t : Nat} {lc : kLo} {st : List Value} {a b : Nat} {o : Int} (h : kf M pc = some (.ifCond .lt o, n, t)) (ha : a < 2 ^ 63) (hb : b < 2 ^ 63) (k : a < b → V K bc bs M t lc st G Q) (k2 : ¬ a < b → V K bc bs M n lc st G Q) : V K bc bs M pc lc (.int (lg_cmp (lN a) (lN b)) :: st) G Q :=
  V_if_ltL h (fun q => k (by rw [pf_lI ha, pf_lI hb] at q; omega)) (fun q => k2 (by rw [pf_lI ha, pf_lI hb] at q; omega))
theorem V_if_neLN {bc bs : Nat} {M : kM} {pc n t : Nat} {lc : kLo} {st : List Value} {a b : Nat} {o : Int} (h : kf M pc = some (.ifCond .ne o, n, t)) (ha : a < 2 ^ 63) (hb : b < 2 ^ 63) (k : ¬ a = b → V K bc bs M t lc st G Q) (k2 : a = b → V K bc bs M n lc st G Q) : V K bc bs M pc lc (.int (lg_cmp (lN a) (lN b)) :: st) G Q :=
  V_if_ne h (fun q => k (fun e => q (lg_cmp0.mpr ((lN_eq63 ha hb).mpr e)))) (fun q => k2 ((lN_eq63 ha hb).mp (lg_cmp0.mp q)))
theorem c_mbit {a N s n : Nat} {f : Nat → Nat} (ga : G.1 a = some (YA N f)) (hf : ∀ j, f j < 256) (hn : n < 2 ^ 20) (hs9 : s + n / 8 < N) (hN : N < 2 ^ 20) (hq : Q (.inl (some (.int (nI (f (s + n / 8) / 2 ^ (n % 8) % 2))))) G) : C K 0 0 mX12_bitOf [.ref a, .int (nI s), .int (nI n)] G Q := by
  refine C_of okX12_bitOf (Nat.le_of_ble_eq_true rfl) ?_
  refine V_aload_n rfl (by first | rfl | assumption) ?_
  refine V_iload_n rfl (by first | rfl | assumption) ?_
  refine V_iload_n rfl (by first | rfl | assumption) ?_
  refine V_bipush (v := nI 8) rfl (by decide) ?_
  refine V_idivN rfl (by first | omega | decide) (by first | omega | decide) (by first | omega | decide) ?_
  refine V_iaddN rfl ?_
  refine V_baldB rfl (by repeat (first | exact hup_eq | assumption | refine Eq.trans (hup_ne (by first | assumption | exact Ne.symm (by assumption) | decide | omega)) ?_)) rfl (by first | omega | decide) (by first | omega | decide) ?_
  refine V_iload_n rfl (by first | rfl | assumption) ?_
  refine V_bipush (v := nI 8) rfl (by decide) ?_
  refine V_iremN rfl (by first | omega | decide) (by first | omega | decide) (by first | omega | decide) ?_
  refine V_ishr rfl ?_
  refine V_iconst (v := 1) rfl (by decide) ?_
  refine V_iand rfl ?_
  rw [bB_c2 _ (hf _) _ (by omega)]
  exact V_iret rfl rfl hq
/-- rows 1 and 2 change places with rows 3 and 4 -/
def swp (D : Nat → Nat) (i j : Nat) : Nat := if 17 ≤ j ∧ j < 17 + i then D (j + 34) else if 51 ≤ j ∧ j < 51 + i then D (j - 34) else D j
theorem swp_s {D : Nat → Nat} {i : Nat} (hi : i < 34) : updN (updN (swp D i) (17 + i) (swp D i (17 + i + 34))) (17 + i + 34) (swp D i (17 + i)) = swp D (i + 1) := by
  funext j
  have e1 : swp D i (17 + i + 34) = D (17 + i + 34) := by unfold swp; rw [if_neg (by omega), if_neg (by omega)]
  have e2 : swp D i (17 + i) = D (17 + i) := by unfold swp; rw [if_neg (by omega), if_neg (by omega)]
  rw [e1, e2]
  by_cases h1 : j = 17 + i + 34
  · rw [h1, updN_eq]; unfold swp; rw [if_neg (by omega), if_pos (by omega)]; congr 1
  · rw [updN_ne h1]
    by_cases h2 : j = 17 + i
    · rw [h2, updN_eq]; unfold swp; rw [if_pos (by omega)]
    · rw [updN_ne h2]
      unfold swp
      by_cases h3 : 17 ≤ j ∧ j < 17 + i
      · rw [if_pos h3, if_pos (by omega)]
      · by_cases h4 : 51 ≤ j ∧ j < 51 + i
        · rw [if_neg h3, if_pos h4, if_neg (by omega), if_pos (by omega)]
        · rw [if_neg h3, if_neg h4, if_neg (by omega), if_neg (by omega)]
theorem dH.to {D D' : Nat → Nat} {r s A : Nat} (h : dH D r A) (e : ∀ k, k < 17 → D' (17 * s + k) = D (17 * r + k)) : dH D' s A :=
  ⟨fun k hk => by rw [e k hk]; exact h.1 k hk, by rw [vs_congr e]; exact h.2⟩
theorem dH.sw {D : Nat → Nat} {r s A : Nat} (h : dH D r A) (e : (r = 1 ∧ s = 3) ∨ (r = 2 ∧ s = 4) ∨ (r = 3 ∧ s = 1) ∨ (r = 4 ∧ s = 2) ∨ (r = s ∧ (r = 0 ∨ 5 ≤ r))) : dH (swp D 34) s A := by
  refine h.to (fun k hk => ?_)
  unfold swp
  rcases e with ⟨rfl, rfl⟩ | ⟨rfl, rfl⟩ | ⟨rfl, rfl⟩ | ⟨rfl, rfl⟩ | ⟨rfl, e⟩
  · rw [if_neg (by omega), if_pos (by omega)]; congr 1; omega
  · rw [if_neg (by omega), if_pos (by omega)]; congr 1; omega
  · rw [if_pos (by omega)]; congr 1; omega
  · rw [if_pos (by omega)]; congr 1; omega
  · rw [if_neg (by omega), if_neg (by omega)]
theorem c_mturn {D : Nat → Nat} {one : Bool} (g140 : G.1 140 = some (MO th ta os hs ps rs)) (hc : crM D G)
    (hq : ∀ G', FP P34 G G' → crM (if one then swp D 34 else D) G' → Q (.inl none) G') : C K 0 0 mX12_turnRound [.ref 140, .int (bI one)] G Q := by
  have g143 := hc.1
  refine C_of okX12_turnRound (Nat.le_of_ble_eq_true rfl) ?_
  refine V_bipush (v := nI 17) rfl (by decide) ?_
  refine V_istore_n rfl (by decide) ?_
  cases one with
  | false =>
    refine V_iload_n rfl (by first | rfl | assumption) ?_
    refine V_bipush (v := nI 51) rfl (by decide) ?_
    refine V_icmp_geN rfl (by decide) (by decide) (fun h => absurd h (by decide)) (fun _ => ?_)
    refine V_iload_n rfl (by rfl) ?_
    refine V_if_eqB rfl (fun _ => ?_) (fun h => Bool.noConfusion h)
    exact V_vret rfl rfl (hq _ FP.rf hc)
  | true =>
    refine V_loop 34 (fun i lc G' => lc 0 = some (.ref 140) ∧ lc 1 = some (.int (bI true)) ∧ lc 2 = some (.int (nI (17 + i))) ∧ G' = hup G 143 (LA 340 (swp D i))) ?_ ?_ 0 _ _ (Nat.zero_le _) ⟨rfl, rfl, rfl, by rw [show swp D 0 = D from funext (fun j => by unfold swp; rw [if_neg (by omega), if_neg (by omega)]), hup_same g143]⟩
    · rintro i lc G' hi ⟨l0, l1, l2, rfl⟩ ih
      refine V_iload_n rfl (by first | rfl | assumption) ?_
      refine V_bipush (v := nI 51) rfl (by decide) ?_
      refine V_icmp_geN rfl (by omega) (by decide) (fun h => absurd h (by omega)) (fun _ => ?_)
      refine V_iload_n rfl (by assumption) ?_
      refine V_if_eqB rfl (fun h => Bool.noConfusion h) (fun _ => ?_)
      refine V_aload_n rfl (by first | rfl | assumption) ?_
      refine V_getf rfl rfl rfl (by repeat (first | exact hup_eq | assumption | refine Eq.trans (hup_ne (by first | assumption | exact Ne.symm (by assumption) | decide | omega)) ?_)) (by first | rfl | assumption) ?_
      refine V_iload_n rfl (by first | rfl | assumption) ?_
      refine V_laldN rfl (by repeat (first | exact hup_eq | assumption | refine Eq.trans (hup_ne (by first | assumption | exact Ne.symm (by assumption) | decide | omega)) ?_)) rfl (by first | omega | decide) (by first | omega | decide) ?_
      refine V_lstore_n rfl (by decide) ?_
      refine V_aload_n rfl (by first | rfl | assumption) ?_
      refine V_getf rfl rfl rfl (by repeat (first | exact hup_eq | assumption | refine Eq.trans (hup_ne (by first | assumption | exact Ne.symm (by assumption) | decide | omega)) ?_)) (by first | rfl | assumption) ?_
      refine V_iload_n rfl (by first | rfl | assumption) ?_
      refine V_aload_n rfl (by first | rfl | assumption) ?_
      refine V_getf rfl rfl rfl (by repeat (first | exact hup_eq | assumption | refine Eq.trans (hup_ne (by first | assumption | exact Ne.symm (by assumption) | decide | omega)) ?_)) (by first | rfl | assumption) ?_
      refine V_iload_n rfl (by first | rfl | assumption) ?_
      refine V_bipush (v := nI 34) rfl (by decide) ?_
      refine V_iaddN rfl ?_
      refine V_laldN rfl (by repeat (first | exact hup_eq | assumption | refine Eq.trans (hup_ne (by first | assumption | exact Ne.symm (by assumption) | decide | omega)) ?_)) rfl (by first | omega | decide) (by first | omega | decide) ?_
      refine V_lastN rfl (by repeat (first | exact hup_eq | assumption | refine Eq.trans (hup_ne (by first | assumption | exact Ne.symm (by assumption) | decide | omega)) ?_)) rfl (by first | omega | decide) (by first | omega | decide) ?_
      refine V_aload_n rfl (by first | rfl | assumption) ?_
      refine V_getf rfl rfl rfl (by repeat (first | exact hup_eq | assumption | refine Eq.trans (hup_ne (by first | assumption | exact Ne.symm (by assumption) | decide | omega)) ?_)) (by first | rfl | assumption) ?_
      refine V_iload_n rfl (by first | rfl | assumption) ?_
      refine V_bipush (v := nI 34) rfl (by decide) ?_
      refine V_iaddN rfl ?_
      refine V_lload_n rfl (by first | rfl | assumption) (by first | rfl | assumption) ?_
      refine V_lastN rfl (by repeat (first | exact hup_eq | assumption | refine Eq.trans (hup_ne (by first | assumption | exact Ne.symm (by assumption) | decide | omega)) ?_)) rfl (by first | omega | decide) (by first | omega | decide) ?_
      refine V_iincN (d := 1) rfl (by first | rfl | assumption) (by decide) (by decide) ?_
      refine V_goto rfl ?_
      rw [hup_hup, hup_hup, swp_s hi]
      exact ih _ _ ⟨l0, l1, rfl, rfl⟩
    · rintro lc G' ⟨l0, l1, l2, rfl⟩
      refine V_iload_n rfl (by first | rfl | assumption) ?_
      refine V_bipush (v := nI 51) rfl (by decide) ?_
      refine V_icmp_geN rfl (by decide) (by decide) (fun _ => ?_) (fun h => absurd (Nat.le_refl _) h)
      exact V_vret rfl rfl (hq _ (FP.rf.hup (Or.inl rfl)) hc.up)
/-- the digits say: not below P -/
def grt (x : Nat → Nat) : Nat → Bool
  | 0 => decide (32749 ≤ x 0)
  | i + 1 => grt x i && decide (x (i + 1) = 32767)
theorem grt_t {x : Nat → Nat} : ∀ i, grt x i = true → 32749 ≤ x 0 ∧ ∀ k, 0 < k → k ≤ i → x k = 32767
  | 0, h => ⟨by simpa [grt] using h, fun k h1 h2 => by omega⟩
  | i + 1, h => by
    simp only [grt, Bool.and_eq_true, decide_eq_true_eq] at h
    have := grt_t i h.1
    refine ⟨this.1, fun k h1 h2 => ?_⟩
    by_cases e : k = i + 1
    · rw [e]; exact h.2
    · exact this.2 k h1 (by omega)
theorem grt_f {x : Nat → Nat} (h0 : 32749 ≤ x 0) : ∀ i, (∀ k, 0 < k → k ≤ i → x k = 32767) → grt x i = true
  | 0, _ => by simpa [grt] using h0
  | i + 1, h => by
    simp only [grt, Bool.and_eq_true, decide_eq_true_eq]
    exact ⟨grt_f h0 i (fun k h1 h2 => h k h1 (by omega)), h _ (by omega) (Nat.le_refl _)⟩
theorem mx_v : vs (2 ^ 15) (fun k => if k = 0 then 0 else 32767) 17 = PP - 32749 := by decide +kernel
theorem vs_z : vs (2 ^ 15) (smf 0) 17 = 0 := by decide +kernel
theorem grt_ok {x : Nat → Nat} (h : ∀ k, k < 17 → x k < 2 ^ 15) : vs (2 ^ 15) (if grt x 16 then smf (x 0 - 32749) else x) 17 = vs (2 ^ 15) x 17 % PP := by
  have hV : vs (2 ^ 15) x 17 < (2 ^ 15) ^ 17 := vs_lt (by decide) h
  cases hg : grt x 16 with
  | true =>
    obtain ⟨g1, g2⟩ := grt_t 16 hg
    rw [if_pos rfl]
    have e1 : vs (2 ^ 15) x 17 = (PP - 32749) + x 0 := by
      rw [← mx_v]
      exact vs_hd (by simp) 17 (by decide) (fun k h1 h2 => by rw [if_neg (by omega)]; exact g2 k h1 (by omega))
    have e2 : vs (2 ^ 15) (smf (x 0 - 32749)) 17 = 0 + (x 0 - 32749) := by
      rw [← vs_z]
      exact vs_hd (by simp [smf]) 17 (by decide) (fun k h1 _ => by unfold smf; rw [if_neg (by omega), if_neg (by omega)])
    have h0 := h 0 (by decide)
    rw [e2, e1]
    have hPP : PP = 57896044618658097711785492504343953926634992332820282019728792003956564819949 := rfl
    have hp : PP - 32749 + x 0 = (x 0 - 32749) + PP := by omega
    rw [hp, Nat.add_mod_right, Nat.mod_eq_of_lt (by omega)]
    omega
  | false =>
    simp only [Bool.false_eq_true, if_false]
    by_cases hl : vs (2 ^ 15) x 17 < PP
    · rw [Nat.mod_eq_of_lt hl]
    · exfalso
      have hd := dig_uniq (B := 2 ^ 15) (by decide) h rfl
      generalize vs (2 ^ 15) x 17 = V at hV hl hd
      have hPP : PP = 57896044618658097711785492504343953926634992332820282019728792003956564819949 := rfl
      have ht : grt x 16 = true := by
        refine grt_f (by rw [hd 0 (by decide)]; omega) 16 (fun k h1 h2 => ?_)
        rw [hd k (by omega)]
        have : k = 1 ∨ k = 2 ∨ k = 3 ∨ k = 4 ∨ k = 5 ∨ k = 6 ∨ k = 7 ∨ k = 8 ∨ k = 9 ∨ k = 10 ∨ k = 11 ∨ k = 12 ∨ k = 13 ∨ k = 14 ∨ k = 15 ∨ k = 16 := by omega
        rcases this with rfl | rfl | rfl | rfl | rfl | rfl | rfl | rfl | rfl | rfl | rfl | rfl | rfl | rfl | rfl | rfl <;> omega
      rw [hg] at ht
      cases ht
set_option maxHeartbeats 4000000 in
theorem c_msettle {a A : Nat} {D : Nat → Nat} (g140 : G.1 140 = some (MO th ta os hs ps rs)) (hc : crM D G) (ha : a < 20) (hA : dH D a A)
    (hq : ∀ G' D', FP P34 G G' → crM D' G' → (∀ k, k < 17 → D' (17 * a + k) < 2 ^ 15) → vs (2 ^ 15) (fun k => D' (17 * a + k)) 17 = A → Q (.inl none) G') : C K 0 0 mX12_settle [.ref 140, .int (nI a)] G Q := by
  have g143 := hc.1
  obtain ⟨x, hx⟩ : ∃ x, x = fun k => D (17 * a + k) := ⟨_, rfl⟩
  have ex : ∀ k, D (17 * a + k) = x k := fun k => by rw [hx]
  have ex0 : D (17 * a) = x 0 := ex 0
  have hx1 : ∀ k, k < 17 → x k < 2 ^ 15 := fun k hk => by rw [hx]; exact hA.1 k hk
  have hx2 : vs (2 ^ 15) x 17 % PP = A := by rw [hx]; exact hA.2
  have b0 := hx1 0 (by decide)
  refine C_of okX12_settle (Nat.le_of_ble_eq_true rfl) ?_
  have t21 : ∀ c : Bool, c = grt x 0 → V K 0 0 mX12_settle 21 (kla [.ref 140, .int (nI a)]) [.int (bI c)] G Q := by
    rintro c rfl
    refine V_istore_n rfl (by decide) ?_
    refine V_iconst (v := nI 1) rfl (by decide) ?_
    refine V_istore_n rfl (by decide) ?_
    refine V_loop 16 (fun i lc G' => lc 0 = some (.ref 140) ∧ lc 1 = some (.int (nI a)) ∧ lc 2 = some (.int (bI (grt x i))) ∧ lc 3 = some (.int (nI (1 + i))) ∧ G' = G) ?_ ?_ 0 _ _ (Nat.zero_le _) ⟨rfl, rfl, rfl, rfl, rfl⟩
    · rintro i lc G' hi ⟨l0, l1, l2, l3, rfl⟩ ih
      have tl : ∀ c : Bool, c = grt x (i + 1) → V K 0 0 mX12_settle 57 lc [.int (bI c)] G' Q := by
        rintro c rfl
        refine V_istore_n rfl (by decide) ?_
        refine V_iincN (d := 1) rfl (by first | rfl | assumption) (by decide) (by decide) ?_
        refine V_goto rfl ?_
        exact ih _ _ ⟨l0, l1, rfl, rfl, rfl⟩
      have bi := hx1 (1 + i) (by omega)
      refine V_iload_n rfl (by first | rfl | assumption) ?_
      refine V_bipush (v := nI 17) rfl (by decide) ?_
      refine V_icmp_geN rfl (by omega) (by decide) (fun h => absurd h (by omega)) (fun _ => ?_)
      refine V_iload_n rfl (by assumption) ?_
      refine V_if_eqB rfl (fun h => ?_) (fun h => ?_)
      · refine V_iconst (v := bI false) rfl (by decide) ?_
        exact tl false (by simp only [grt]; rw [h]; rfl)
      · refine V_aload_n rfl (by first | rfl | assumption) ?_
        refine V_getf rfl rfl rfl (by repeat (first | exact hup_eq | assumption | refine Eq.trans (hup_ne (by first | assumption | exact Ne.symm (by assumption) | decide | omega)) ?_)) (by first | rfl | assumption) ?_
        refine V_bipush (v := nI 17) rfl (by decide) ?_
        refine V_iload_n rfl (by first | rfl | assumption) ?_
        refine V_imulN rfl ?_
        refine V_iload_n rfl (by first | rfl | assumption) ?_
        refine V_iaddN rfl ?_
        refine V_laldN rfl (by repeat (first | exact hup_eq | assumption | refine Eq.trans (hup_ne (by first | assumption | exact Ne.symm (by assumption) | decide | omega)) ?_)) rfl (by first | omega | decide) (by first | omega | decide) ?_
        refine V_ldc2 (v := lN 32767) rfl kc_X12_158 ?_
        rw [ex]
        refine V_lcmp rfl ?_
        refine V_if_neLN rfl (by omega) (by decide) (fun h2 => ?_) (fun h2 => ?_)
        · refine V_iconst (v := bI false) rfl (by decide) ?_
          refine tl false ?_
          simp only [grt]
          rw [Nat.add_comm i 1, decide_eq_false h2, Bool.and_false]
        · refine V_iconst (v := bI true) rfl (by decide) ?_
          refine V_goto rfl ?_
          refine tl true ?_
          simp only [grt]
          rw [Nat.add_comm i 1, decide_eq_true h2, h]
          rfl
    · rintro lc G' ⟨l0, l1, l2, l3, rfl⟩
      refine V_iload_n rfl (by first | rfl | assumption) ?_
      refine V_bipush (v := nI 17) rfl (by decide) ?_
      refine V_icmp_geN rfl (by decide) (by decide) (fun _ => ?_) (fun h => absurd (by decide) h)
      refine V_iconst (v := nI 0) rfl (by decide) ?_
      refine V_istore_n rfl (by decide) ?_
      have fin : ∀ D', D' = ovw D (17 * a) 17 (if grt x 16 then smf (x 0 - 32749) else x) → Q (.inl none) (hup G' 143 (LA 340 D')) := by
        rintro D' rfl
        have e2 : ∀ k, k < 17 → ovw D (17 * a) 17 (if grt x 16 then smf (x 0 - 32749) else x) (17 * a + k) = (if grt x 16 then smf (x 0 - 32749) else x) k := fun k hk => ovw_in hk
        refine hq _ _ (FP.rf.hup (Or.inl rfl)) hc.up (fun k hk => ?_) ?_
        · rw [e2 k hk]
          split
          · unfold smf; split <;> omega
          · exact hx1 k hk
        · rw [vs_congr e2, grt_ok hx1]
          exact hx2
      cases hg : grt x 16 with
      | false =>
        rw [hg] at fin l2
        refine V_iload_n rfl (by first | rfl | assumption) ?_
        refine V_bipush (v := nI 17) rfl (by decide) ?_
        refine V_icmp_geN rfl (by decide) (by decide) (fun h => absurd h (by decide)) (fun _ => ?_)
        refine V_iload_n rfl (by assumption) ?_
        refine V_if_eqB rfl (fun _ => ?_) (fun h => Bool.noConfusion h)
        refine V_vret rfl rfl ?_
        have := fin D (by simp only [Bool.false_eq_true, if_false]; exact (ovw_self (fun k _ => (ex k).symm)).symm)
        rw [hup_same g143] at this
        exact this
      | true =>
        rw [hg] at fin l2
        refine V_loop 17 (fun i lc G9 => lc 0 = some (.ref 140) ∧ lc 1 = some (.int (nI a)) ∧ lc 2 = some (.int (bI true)) ∧ lc 3 = some (.int (nI i)) ∧ G9 = hup G' 143 (LA 340 (ovw D (17 * a) i (smf (x 0 - 32749))))) ?_ ?_ 0 _ _ (Nat.zero_le _) ⟨l0, l1, l2, rfl, by rw [ovw_0, hup_same g143]⟩
        · rintro i lc G9 hi ⟨l0, l1, l2, l3, rfl⟩ ih
          have tail : V K 0 0 mX12_settle 107 lc [.long (lN (smf (x 0 - 32749) i)), .int (nI (17 * a + i)), .ref 143] (hup G' 143 (LA 340 (ovw D (17 * a) i (smf (x 0 - 32749))))) Q := by
            refine V_lastN rfl (by repeat (first | exact hup_eq | assumption | refine Eq.trans (hup_ne (by first | assumption | exact Ne.symm (by assumption) | decide | omega)) ?_)) rfl (by first | omega | decide) (by first | omega | decide) ?_
            refine V_iincN (d := 1) rfl (by first | rfl | assumption) (by decide) (by decide) ?_
            refine V_goto rfl ?_
            rw [hup_hup, ovw_s]
            exact ih _ _ ⟨l0, l1, l2, rfl, rfl⟩
          refine V_iload_n rfl (by first | rfl | assumption) ?_
          refine V_bipush (v := nI 17) rfl (by decide) ?_
          refine V_icmp_geN rfl (by omega) (by decide) (fun h => absurd h (by omega)) (fun _ => ?_)
          refine V_iload_n rfl (by assumption) ?_
          refine V_if_eqB rfl (fun h => Bool.noConfusion h) (fun _ => ?_)
          refine V_aload_n rfl (by first | rfl | assumption) ?_
          refine V_getf rfl rfl rfl (by repeat (first | exact hup_eq | assumption | refine Eq.trans (hup_ne (by first | assumption | exact Ne.symm (by assumption) | decide | omega)) ?_)) (by first | rfl | assumption) ?_
          refine V_bipush (v := nI 17) rfl (by decide) ?_
          refine V_iload_n rfl (by first | rfl | assumption) ?_
          refine V_imulN rfl ?_
          refine V_iload_n rfl (by first | rfl | assumption) ?_
          refine V_iaddN rfl ?_
          refine V_iload_n rfl (by first | rfl | assumption) ?_
          refine V_if_neN rfl (by omega) (fun h => ?_) (fun h => ?_)
          · refine V_lconst (v := lN 0) rfl (by decide) ?_
            rw [show smf (x 0 - 32749) i = 0 from if_neg h] at tail
            exact tail
          · have h32 := (grt_t 16 hg).1
            rw [show smf (x 0 - 32749) i = x 0 - 32749 from if_pos h] at tail
            subst h
            rw [ovw_0] at tail ⊢
            refine V_aload_n rfl (by first | rfl | assumption) ?_
            refine V_getf rfl rfl rfl (by repeat (first | exact hup_eq | assumption | refine Eq.trans (hup_ne (by first | assumption | exact Ne.symm (by assumption) | decide | omega)) ?_)) (by first | rfl | assumption) ?_
            refine V_bipush (v := nI 17) rfl (by decide) ?_
            refine V_iload_n rfl (by first | rfl | assumption) ?_
            refine V_imulN rfl ?_
            refine V_laldN rfl (by repeat (first | exact hup_eq | assumption | refine Eq.trans (hup_ne (by first | assumption | exact Ne.symm (by assumption) | decide | omega)) ?_)) rfl (by first | omega | decide) (by first | omega | decide) ?_
            rw [ex0]
            refine V_ldc2 (v := lN 32749) rfl kc_X12_202 ?_
            refine V_lsubN rfl (by first | omega | decide) ?_
            refine V_goto rfl ?_
            exact tail
        · rintro lc G9 ⟨l0, l1, l2, l3, rfl⟩
          refine V_iload_n rfl (by first | rfl | assumption) ?_
          refine V_bipush (v := nI 17) rfl (by decide) ?_
          refine V_icmp_geN rfl (by decide) (by decide) (fun _ => ?_) (fun h => absurd (Nat.le_refl _) h)
          exact V_vret rfl rfl (fin _ rfl)
  refine V_aload_n rfl (by first | rfl | assumption) ?_
  refine V_getf rfl rfl rfl (by repeat (first | exact hup_eq | assumption | refine Eq.trans (hup_ne (by first | assumption | exact Ne.symm (by assumption) | decide | omega)) ?_)) (by first | rfl | assumption) ?_
  refine V_bipush (v := nI 17) rfl (by decide) ?_
  refine V_iload_n rfl (by first | rfl | assumption) ?_
  refine V_imulN rfl ?_
  refine V_laldN rfl (by repeat (first | exact hup_eq | assumption | refine Eq.trans (hup_ne (by first | assumption | exact Ne.symm (by assumption) | decide | omega)) ?_)) rfl (by first | omega | decide) (by first | omega | decide) ?_
  refine V_ldc2 (v := lN 32749) rfl kc_X12_202 ?_
  rw [ex0]
  refine V_lcmp rfl ?_
  refine V_if_ltLN rfl (by omega) (by decide) (fun h => ?_) (fun h => ?_)
  · refine V_iconst (v := bI false) rfl (by decide) ?_
    exact t21 false (by simp only [grt]; rw [decide_eq_false (by omega)])
  · refine V_iconst (v := bI true) rfl (by decide) ?_
    refine V_goto rfl ?_
    exact t21 true (by simp only [grt]; rw [decide_eq_true (by omega)])
end MPt
