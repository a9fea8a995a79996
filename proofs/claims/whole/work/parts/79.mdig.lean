/-! the reference: digits of fifteen bits -/
theorem hupV {G : kG} {c : Nat} {e e' : kE} (h : e = e') : hup G c e = hup G c e' := by rw [h]
/-- carries of a row of digits: what goes into a place -/
def cyr (B : Nat) (x : Nat → Nat) : Nat → Nat
  | 0 => 0
  | i + 1 => (x i + cyr B x i) / B
def cdg (B : Nat) (x : Nat → Nat) (k : Nat) : Nat := (x k + cyr B x k) % B
/-- one turn of carries: what comes out above comes back c times -/
def trn (B n c : Nat) (x : Nat → Nat) (k : Nat) : Nat := if k = 0 then cdg B x 0 + c * cyr B x n else cdg B x k
theorem cyr_vs (B : Nat) (x : Nat → Nat) : ∀ i, vs B (cdg B x) i + cyr B x i * B ^ i = vs B x i
  | 0 => by simp [vs, cyr]
  | i + 1 => vs_step (cyr_vs B x i) (by unfold cdg; simp only [cyr]; exact Nat.mod_add_div _ _)
theorem cdg_lt {B : Nat} (hB : 0 < B) (x : Nat → Nat) (k : Nat) : cdg B x k < B := Nat.mod_lt _ hB
theorem cyr_q {B : Nat} (hB : 0 < B) (x : Nat → Nat) (i : Nat) : cyr B x i = vs B x i / B ^ i ∧ vs B (cdg B x) i = vs B x i % B ^ i := by
  have h1 := cyr_vs B x i
  have h2 : vs B (cdg B x) i < B ^ i := vs_lt hB (fun j _ => cdg_lt hB x j)
  rw [← h1, Nat.add_mul_div_right _ _ (Nat.pow_pos hB), Nat.div_eq_of_lt h2, Nat.add_mul_mod_self_right, Nat.mod_eq_of_lt h2]
  exact ⟨by omega, rfl⟩
theorem vs_hd {B : Nat} {f g : Nat → Nat} {d : Nat} (h0 : f 0 = g 0 + d) : ∀ n, 0 < n → (∀ k, 0 < k → k < n → f k = g k) → vs B f n = vs B g n + d
  | 1, _, _ => by simp [vs, h0]
  | n + 2, _, h => by
    show vs B f (n + 1) + f (n + 1) * B ^ (n + 1) = vs B g (n + 1) + g (n + 1) * B ^ (n + 1) + d
    rw [vs_hd h0 (n + 1) (by omega) (fun k h1 h2 => h k h1 (by omega)), h (n + 1) (by omega) (by omega)]
    omega
theorem trn_vs {B n c : Nat} (hB : 0 < B) (hn : 0 < n) (x : Nat → Nat) : vs B (trn B n c x) n = vs B x n % B ^ n + c * (vs B x n / B ^ n) := by
  rw [← (cyr_q hB x n).1, ← (cyr_q hB x n).2]
  exact vs_hd (f := trn B n c x) (g := cdg B x) (d := c * cyr B x n) (by unfold trn; rw [if_pos rfl]) n hn (fun k h1 _ => by unfold trn; rw [if_neg (by omega)])
theorem trn_0 {B n c : Nat} {x : Nat → Nat} (h : cyr B x n = 0) (k : Nat) : trn B n c x k = cdg B x k := by
  unfold trn
  split
  · rename_i e; rw [h, e]; omega
  · rfl
def tr4 (B n c : Nat) (x : Nat → Nat) : Nat → Nat → Nat
  | 0 => x
  | i + 1 => trn B n c (tr4 B n c x i)
/-- a step of carries on the number itself -/
theorem trn_num {M c V : Nat} (hc : c < M) (hV : V < M + M) (h2 : ¬ V < M → V - M + c < M) : V % M + c * (V / M) < M ∧ (V % M + c * (V / M)) % (M - c) = V % (M - c) := by
  by_cases h : V < M
  · rw [Nat.mod_eq_of_lt h, Nat.div_eq_of_lt h]
    exact ⟨by omega, by rw [Nat.mul_zero, Nat.add_zero]⟩
  · have e1 : V / M = 1 := Nat.div_eq_of_lt_le (by omega) (by omega)
    have e2 : V % M = V - M := by rw [Nat.mod_eq_sub_mod (by omega), Nat.mod_eq_of_lt (by omega)]
    rw [e1, e2, Nat.mul_one]
    refine ⟨h2 h, ?_⟩
    rw [show V = (V - M + c) + (M - c) by omega, Nat.add_mod_right]
    congr 1
    omega
theorem trn_mod {M c V : Nat} (hc : c < M) : (V % M + c * (V / M)) % (M - c) = V % (M - c) := by
  have e : V = V % M + c * (V / M) + (M - c) * (V / M) := by
    have := Nat.mod_add_div V M
    have h2 : M * (V / M) = c * (V / M) + (M - c) * (V / M) := by rw [← Nat.add_mul]; congr 1; omega
    omega
  conv => rhs; rw [e]
  rw [Nat.add_mul_mod_self_left]
theorem tr4_ok {B n c E : Nat} (hB : 0 < B) (hn : 0 < n) {x : Nat → Nat} (hc : c < B ^ n) (hV : vs B x n / B ^ n ≤ E) (hE : c * E + c < B ^ n) :
    (∀ k, k < n → tr4 B n c x 4 k < B) ∧ vs B (tr4 B n c x 4) n % (B ^ n - c) = vs B x n % (B ^ n - c) := by
  have hM : 0 < B ^ n := Nat.pow_pos hB
  have a1 := trn_vs (c := c) hB hn x
  have a2 := trn_vs (c := c) hB hn (tr4 B n c x 1)
  have a3 := trn_vs (c := c) hB hn (tr4 B n c x 2)
  have a4 := trn_vs (c := c) hB hn (tr4 B n c x 3)
  have l1 : vs B x n % B ^ n < B ^ n := Nat.mod_lt _ hM
  have l2 : c * (vs B x n / B ^ n) ≤ c * E := Nat.mul_le_mul_left _ hV
  have b1 := trn_mod (V := vs B x n) hc
  have b2 := trn_num (V := vs B (tr4 B n c x 1) n) hc (by show vs B (trn B n c x) n < _; omega) (fun _ => by
    have : vs B (tr4 B n c x 1) n = vs B x n % B ^ n + c * (vs B x n / B ^ n) := a1
    omega)
  rw [← a2] at b2
  have e2 : vs B (tr4 B n c x 2) n < B ^ n := b2.1
  rw [Nat.mod_eq_of_lt e2, Nat.div_eq_of_lt e2, Nat.mul_zero, Nat.add_zero] at a3
  have e3 : vs B (tr4 B n c x 3) n < B ^ n := by
    have : vs B (tr4 B n c x 3) n = vs B (tr4 B n c x 2) n := a3
    omega
  rw [Nat.mod_eq_of_lt e3, Nat.div_eq_of_lt e3, Nat.mul_zero, Nat.add_zero] at a4
  have z3 : cyr B (tr4 B n c x 3) n = 0 := by rw [(cyr_q hB _ n).1, Nat.div_eq_of_lt e3]
  refine ⟨fun k _ => ?_, ?_⟩
  · show trn B n c (tr4 B n c x 3) k < B
    rw [trn_0 z3]
    exact cdg_lt hB _ k
  · have c1 : vs B (tr4 B n c x 4) n = vs B (tr4 B n c x 3) n := a4
    have c2 : vs B (tr4 B n c x 3) n = vs B (tr4 B n c x 2) n := a3
    have c3 : vs B (tr4 B n c x 2) n % (B ^ n - c) = vs B (tr4 B n c x 1) n % (B ^ n - c) := b2.2
    have c4 : vs B (tr4 B n c x 1) n % (B ^ n - c) = vs B x n % (B ^ n - c) := by
      have : vs B (tr4 B n c x 1) n = vs B x n % B ^ n + c * (vs B x n / B ^ n) := a1
      rw [this, b1]
    rw [c1, c2, c3, c4]
/-- carries stay small -/
theorem cyr_le {B : Nat} (hB : 2 ^ 10 ≤ B) {x : Nat → Nat} {n : Nat} (h : ∀ k, k < n → x k < 2 ^ 55) : ∀ i, i ≤ n → cyr B x i < 2 ^ 46
  | 0, _ => Nat.two_pow_pos _
  | i + 1, hi => by
    have h1 := cyr_le hB h i (by omega)
    have h2 := h i (by omega)
    simp only [cyr]
    have : (x i + cyr B x i) / B ≤ (x i + cyr B x i) / 2 ^ 10 := Nat.div_le_div_left hB (by decide)
    omega
theorem trn_le {B n c : Nat} (hB : 2 ^ 10 ≤ B) (hB2 : B ≤ 2 ^ 15) (hc : c ≤ 19) {x : Nat → Nat} (h : ∀ k, k < n → x k < 2 ^ 55) : ∀ k, k < n → trn B n c x k < 2 ^ 55 := by
  intro k hk
  have h1 := cyr_le hB h n (Nat.le_refl n)
  have h2 : cdg B x k < B := cdg_lt (by omega) x k
  have h3 : c * cyr B x n ≤ 19 * cyr B x n := Nat.mul_le_mul_right _ hc
  unfold trn
  split
  · rename_i e; subst e; omega
  · omega
theorem tr4_le {B n c : Nat} (hB : 2 ^ 10 ≤ B) (hB2 : B ≤ 2 ^ 15) (hc : c ≤ 19) {x : Nat → Nat} (h : ∀ k, k < n → x k < 2 ^ 55) : ∀ i, ∀ k, k < n → tr4 B n c x i k < 2 ^ 55
  | 0 => h
  | i + 1 => trn_le hB hB2 hc (tr4_le hB hB2 hc h i)
theorem cyr_congr {B : Nat} {x y : Nat → Nat} : ∀ i, (∀ k, k < i → x k = y k) → cyr B x i = cyr B y i
  | 0, _ => rfl
  | i + 1, h => by simp only [cyr]; rw [h i (by omega), cyr_congr i (fun k hk => h k (by omega))]
theorem ovw_self {D g : Nat → Nat} {a n : Nat} (h : ∀ k, k < n → g k = D (a + k)) : ovw D a n g = D := by
  funext j
  unfold ovw
  split
  · rw [h _ (by omega)]; congr 1; omega
  · rfl
theorem ovw_ovw {D g h : Nat → Nat} {a n : Nat} : ovw (ovw D a n g) a n h = ovw D a n h := by
  funext j
  unfold ovw
  split
  · rfl
  · rfl
theorem ovw_up0 {D g h : Nat → Nat} {a n x : Nat} (hn : 0 < n) (h0 : h 0 = x) (hk : ∀ k, 0 < k → k < n → h k = g k) : updN (ovw D a n g) a x = ovw D a n h := by
  funext j
  simp only [ovw, updN]
  by_cases e : j = a
  · rw [if_pos e, if_pos (by omega), ← h0]; congr 1; omega
  · rw [if_neg e]
    split
    · rw [hk _ (by omega) (by omega)]
    · rfl
theorem p255 : ((2 : Nat) ^ 15) ^ 17 - 19 = PP := by decide
theorem tr4_P {x : Nat → Nat} (h : ∀ k, k < 17 → x k < 2 ^ 55) : (∀ k, k < 17 → tr4 (2 ^ 15) 17 19 x 4 k < 2 ^ 15) ∧ vs (2 ^ 15) (tr4 (2 ^ 15) 17 19 x 4) 17 % PP = vs (2 ^ 15) x 17 % PP := by
  have h1 := cyr_le (B := 2 ^ 15) (by decide) h 17 (Nat.le_refl _)
  rw [(cyr_q (by decide) x 17).1] at h1
  have h2 := tr4_ok (B := 2 ^ 15) (n := 17) (c := 19) (E := 2 ^ 46) (by decide) (by decide) (x := x) (by decide) (Nat.le_of_lt h1) (by decide)
  rw [p255] at h2
  exact h2
section MDig
variable {K : kK} {G : kG} {Q : kO → kG → Prop} {th ta os hs ps rs : Int32}
set_option maxHeartbeats 4000000 in
theorem c_mcarry {to : Nat} {D : Nat → Nat} (g140 : G.1 140 = some (MO th ta os hs ps rs)) (g143 : G.1 143 = some (LA 340 D)) (hto : to < 20) (hD : ∀ k, k < 17 → D (17 * to + k) < 2 ^ 55)
    (hq : ∀ y, (∀ k, k < 17 → y k < 2 ^ 15) → vs (2 ^ 15) y 17 % PP = vs (2 ^ 15) (fun k => D (17 * to + k)) 17 % PP → Q (.inl none) (hup G 143 (LA 340 (ovw D (17 * to) 17 y)))) : C K 0 0 mX12_carry [.ref 140, .int (nI to)] G Q := by
  obtain ⟨x, hx⟩ : ∃ x, x = fun k => D (17 * to + k) := ⟨_, rfl⟩
  rw [← hx] at hq
  have hD : ∀ k, k < 17 → x k < 2 ^ 55 := fun k hk => by rw [hx]; exact hD k hk
  refine C_of okX12_carry (Nat.le_of_ble_eq_true rfl) ?_
  refine V_iconst (v := nI 0) rfl (by decide) ?_
  refine V_istore_n rfl (by decide) ?_
  refine V_loop 4 (fun i lc G' => lc 0 = some (.ref 140) ∧ lc 1 = some (.int (nI to)) ∧ lc 2 = some (.int (nI i)) ∧ G' = hup G 143 (LA 340 (ovw D (17 * to) 17 (tr4 (2 ^ 15) 17 19 x i)))) ?_ ?_ 0 _ _ (Nat.zero_le _) ⟨rfl, rfl, rfl, by rw [show ovw D (17 * to) 17 (tr4 (2 ^ 15) 17 19 x 0) = D from ovw_self (fun k _ => by rw [hx]; rfl), hup_same g143]⟩
  · rintro i lc G' hi ⟨l0, l1, l2, rfl⟩ ih
    have hb := tr4_le (B := 2 ^ 15) (n := 17) (c := 19) (by decide) (by decide) (by decide) hD i
    have hs : tr4 (2 ^ 15) 17 19 x (i + 1) = trn (2 ^ 15) 17 19 (tr4 (2 ^ 15) 17 19 x i) := rfl
    generalize tr4 (2 ^ 15) 17 19 x i = xi at hb hs ⊢
    have hc := cyr_le (B := 2 ^ 15) (by decide) hb
    refine V_iload_n rfl (by first | rfl | assumption) ?_
    refine V_iconst (v := nI 4) rfl (by decide) ?_
    refine V_icmp_geN rfl (by omega) (by decide) (fun h => absurd h (by omega)) (fun _ => ?_)
    refine V_lconst (v := lN 0) rfl (by decide) ?_
    refine V_lstore_n rfl (by decide) ?_
    refine V_bipush (v := nI 17) rfl (by decide) ?_
    refine V_iload_n rfl (by first | rfl | assumption) ?_
    refine V_imulN rfl ?_
    refine V_istore rfl (by decide) ?_
    refine V_loop 17 (fun m lc G' => lc 0 = some (.ref 140) ∧ lc 1 = some (.int (nI to)) ∧ lc 2 = some (.int (nI i)) ∧ lc 3 = some (.long (lN (cyr (2 ^ 15) xi m))) ∧ lc 4 = some kmk ∧ lc 5 = some (.int (nI (17 * to + m))) ∧ G' = hup G 143 (LA 340 (ovw (ovw D (17 * to) 17 xi) (17 * to) m (cdg (2 ^ 15) xi)))) ?_ ?_ 0 _ _ (Nat.zero_le _) ⟨l0, l1, l2, rfl, rfl, rfl, by rw [ovw_0]⟩
    · rintro m lc G' hm ⟨l0, l1, l2, l3, l4, l5, rfl⟩ ih2
      have hm1 := hb m hm
      have hm2 := hc m (by omega)
      have e1 : ovw (ovw D (17 * to) 17 xi) (17 * to) m (cdg (2 ^ 15) xi) (17 * to + m) = xi m := by rw [ovw_out (by omega), ovw_in hm]
      refine V_iload rfl (by first | rfl | assumption) ?_
      refine V_bipush (v := nI 17) rfl (by decide) ?_
      refine V_iload_n rfl (by first | rfl | assumption) ?_
      refine V_imulN rfl ?_
      refine V_bipush (v := nI 17) rfl (by decide) ?_
      refine V_iaddN rfl ?_
      refine V_icmp_geN rfl (by omega) (by omega) (fun h => absurd h (by omega)) (fun _ => ?_)
      refine V_aload_n rfl (by first | rfl | assumption) ?_
      refine V_getf rfl rfl rfl (by repeat (first | exact hup_eq | assumption | refine Eq.trans (hup_ne (by first | assumption | exact Ne.symm (by assumption) | decide | omega)) ?_)) (by first | rfl | assumption) ?_
      refine V_iload rfl (by first | rfl | assumption) ?_
      refine V_laldN rfl (by repeat (first | exact hup_eq | assumption | refine Eq.trans (hup_ne (by first | assumption | exact Ne.symm (by assumption) | decide | omega)) ?_)) rfl (by first | omega | decide) (by first | omega | decide) ?_
      rw [e1]
      refine V_lload_n rfl (by first | rfl | assumption) (by first | rfl | assumption) ?_
      refine V_laddN rfl ?_
      refine V_lstore rfl (by decide) ?_
      refine V_aload_n rfl (by first | rfl | assumption) ?_
      refine V_getf rfl rfl rfl (by repeat (first | exact hup_eq | assumption | refine Eq.trans (hup_ne (by first | assumption | exact Ne.symm (by assumption) | decide | omega)) ?_)) (by first | rfl | assumption) ?_
      refine V_iload rfl (by first | rfl | assumption) ?_
      refine V_lload rfl (by first | rfl | assumption) (by first | rfl | assumption) ?_
      refine V_ldc2 (v := lN 32767) rfl kc_X12_158 ?_
      refine V_landN 15 rfl (by decide) (by decide) (by first | omega | decide) ?_
      refine V_lastN rfl (by repeat (first | exact hup_eq | assumption | refine Eq.trans (hup_ne (by first | assumption | exact Ne.symm (by assumption) | decide | omega)) ?_)) rfl (by first | omega | decide) (by first | omega | decide) ?_
      refine V_lload rfl (by first | rfl | assumption) (by first | rfl | assumption) ?_
      refine V_bipush (v := nI 15) rfl (by decide) ?_
      refine V_lshrN' rfl (by first | omega | decide) (by first | omega | decide) ?_
      refine V_lstore_n rfl (by decide) ?_
      refine V_iincN (d := 1) rfl (by first | rfl | assumption) (by decide) (by decide) ?_
      refine V_goto rfl ?_
      rw [hup_hup, ovw_s' (g := cdg (2 ^ 15) xi) (by rfl)]
      exact ih2 _ _ ⟨l0, l1, l2, rfl, rfl, rfl, rfl⟩
    · rintro lc G' ⟨l0, l1, l2, l3, l4, l5, rfl⟩
      rw [ovw_ovw]
      have e1 : ovw D (17 * to) 17 (cdg (2 ^ 15) xi) (17 * to) = cdg (2 ^ 15) xi 0 := ovw_in (k := 0) (by decide)
      refine V_iload rfl (by first | rfl | assumption) ?_
      refine V_bipush (v := nI 17) rfl (by decide) ?_
      refine V_iload_n rfl (by first | rfl | assumption) ?_
      refine V_imulN rfl ?_
      refine V_bipush (v := nI 17) rfl (by decide) ?_
      refine V_iaddN rfl ?_
      refine V_icmp_geN rfl (by omega) (by omega) (fun _ => ?_) (fun h => absurd (Nat.le_refl _) h)
      refine V_aload_n rfl (by first | rfl | assumption) ?_
      refine V_getf rfl rfl rfl (by repeat (first | exact hup_eq | assumption | refine Eq.trans (hup_ne (by first | assumption | exact Ne.symm (by assumption) | decide | omega)) ?_)) (by first | rfl | assumption) ?_
      refine V_bipush (v := nI 17) rfl (by decide) ?_
      refine V_iload_n rfl (by first | rfl | assumption) ?_
      refine V_imulN rfl ?_
      refine V_aload_n rfl (by first | rfl | assumption) ?_
      refine V_getf rfl rfl rfl (by repeat (first | exact hup_eq | assumption | refine Eq.trans (hup_ne (by first | assumption | exact Ne.symm (by assumption) | decide | omega)) ?_)) (by first | rfl | assumption) ?_
      refine V_bipush (v := nI 17) rfl (by decide) ?_
      refine V_iload_n rfl (by first | rfl | assumption) ?_
      refine V_imulN rfl ?_
      refine V_laldN rfl (by repeat (first | exact hup_eq | assumption | refine Eq.trans (hup_ne (by first | assumption | exact Ne.symm (by assumption) | decide | omega)) ?_)) rfl (by first | omega | decide) (by first | omega | decide) ?_
      rw [e1]
      refine V_ldc2 (v := lN 19) rfl kc_X12_160 ?_
      refine V_lload_n rfl (by first | rfl | assumption) (by first | rfl | assumption) ?_
      refine V_lmulN rfl ?_
      refine V_laddN rfl ?_
      refine V_lastN rfl (by repeat (first | exact hup_eq | assumption | refine Eq.trans (hup_ne (by first | assumption | exact Ne.symm (by assumption) | decide | omega)) ?_)) rfl (by first | omega | decide) (by first | omega | decide) ?_
      refine V_iincN (d := 1) rfl (by first | rfl | assumption) (by decide) (by decide) ?_
      refine V_goto rfl ?_
      rw [hup_hup, ovw_up0 (h := trn (2 ^ 15) 17 19 xi) (by decide) (by unfold trn; rw [if_pos rfl]) (fun k h1 _ => by unfold trn; rw [if_neg (by omega)]), ← hs]
      exact ih _ _ ⟨l0, l1, rfl, rfl⟩
  · rintro lc G' ⟨l0, l1, l2, rfl⟩
    refine V_iload_n rfl (by first | rfl | assumption) ?_
    refine V_iconst (v := nI 4) rfl (by decide) ?_
    refine V_icmp_geN rfl (by decide) (by decide) (fun _ => ?_) (fun h => absurd (Nat.le_refl _) h)
    exact V_vret rfl rfl (hq _ (tr4_P hD).1 (tr4_P hD).2)
def smf (s k : Nat) : Nat := if k = 0 then s else 0
theorem c_mputSmall {to s : Nat} {D : Nat → Nat} (g140 : G.1 140 = some (MO th ta os hs ps rs)) (g143 : G.1 143 = some (LA 340 D)) (hto : to < 20) (hs9 : s < 2)
    (hq : Q (.inl none) (hup G 143 (LA 340 (ovw D (17 * to) 17 (smf s))))) : C K 0 0 mX12_putSmall [.ref 140, .int (nI to), .int (nI s)] G Q := by
  refine C_of okX12_putSmall (Nat.le_of_ble_eq_true rfl) ?_
  refine V_iconst (v := nI 0) rfl (by decide) ?_
  refine V_istore_n rfl (by decide) ?_
  refine V_loop 17 (fun i lc G' => lc 0 = some (.ref 140) ∧ lc 1 = some (.int (nI to)) ∧ lc 2 = some (.int (nI s)) ∧ lc 3 = some (.int (nI i)) ∧ G' = hup G 143 (LA 340 (ovw D (17 * to) i (smf s)))) ?_ ?_ 0 _ _ (Nat.zero_le _) ⟨rfl, rfl, rfl, rfl, by rw [ovw_0, hup_same g143]⟩
  · rintro i lc G' hi ⟨l0, l1, l2, l3, rfl⟩ ih
    have tail : V K 0 0 mX12_putSmall 28 lc [.long (lN (smf s i)), .int (nI (17 * to + i)), .ref 143] (hup G 143 (LA 340 (ovw D (17 * to) i (smf s)))) Q := by
      refine V_lastN rfl (by repeat (first | exact hup_eq | assumption | refine Eq.trans (hup_ne (by first | assumption | exact Ne.symm (by assumption) | decide | omega)) ?_)) rfl (by first | omega | decide) (by first | omega | decide) ?_
      refine V_iincN (d := 1) rfl (by first | rfl | assumption) (by decide) (by decide) ?_
      refine V_goto rfl ?_
      rw [hup_hup, ovw_s]
      exact ih _ _ ⟨l0, l1, l2, rfl, rfl⟩
    refine V_iload_n rfl (by first | rfl | assumption) ?_
    refine V_bipush (v := nI 17) rfl (by decide) ?_
    refine V_icmp_geN rfl (by omega) (by decide) (fun h => absurd h (by omega)) (fun _ => ?_)
    refine V_aload_n rfl (by first | rfl | assumption) ?_
    refine V_getf rfl rfl rfl (by repeat (first | exact hup_eq | assumption | refine Eq.trans (hup_ne (by first | assumption | exact Ne.symm (by assumption) | decide | omega)) ?_)) (by first | rfl | assumption) ?_
    refine V_bipush (v := nI 17) rfl (by decide) ?_
    refine V_iload_n rfl (by first | rfl | assumption) ?_
    refine V_imulN rfl ?_
    refine V_iload_n rfl (by first | rfl | assumption) ?_
    refine V_iaddN rfl ?_
    refine V_iload_n rfl (by first | rfl | assumption) ?_
    refine V_if_neN rfl (by omega) (fun h => ?_) (fun h => ?_)
    · refine V_lconst (v := lN 0) rfl (by decide) ?_
      rw [show smf s i = 0 from if_neg h] at tail
      exact tail
    · rw [show smf s i = s from if_pos h] at tail
      refine V_iload_n rfl (by first | rfl | assumption) ?_
      refine V_i2lN rfl (by first | omega | decide) ?_
      refine V_goto rfl ?_
      exact tail
  · rintro lc G' ⟨l0, l1, l2, l3, rfl⟩
    refine V_iload_n rfl (by first | rfl | assumption) ?_
    refine V_bipush (v := nI 17) rfl (by decide) ?_
    refine V_icmp_geN rfl (by decide) (by decide) (fun _ => ?_) (fun h => absurd (Nat.le_refl _) h)
    exact V_vret rfl rfl hq
theorem c_mcopy {to a : Nat} {D : Nat → Nat} (g140 : G.1 140 = some (MO th ta os hs ps rs)) (g143 : G.1 143 = some (LA 340 D)) (hto : to < 20) (ha : a < 20) (hne : a ≠ to)
    (hq : Q (.inl none) (hup G 143 (LA 340 (ovw D (17 * to) 17 (fun k => D (17 * a + k)))))) : C K 0 0 mX12_copy [.ref 140, .int (nI to), .int (nI a)] G Q := by
  refine C_of okX12_copy (Nat.le_of_ble_eq_true rfl) ?_
  refine V_iconst (v := nI 0) rfl (by decide) ?_
  refine V_istore_n rfl (by decide) ?_
  refine V_loop 17 (fun i lc G' => lc 0 = some (.ref 140) ∧ lc 1 = some (.int (nI to)) ∧ lc 2 = some (.int (nI a)) ∧ lc 3 = some (.int (nI i)) ∧ G' = hup G 143 (LA 340 (ovw D (17 * to) i (fun k => D (17 * a + k))))) ?_ ?_ 0 _ _ (Nat.zero_le _) ⟨rfl, rfl, rfl, rfl, by rw [ovw_0, hup_same g143]⟩
  · rintro i lc G' hi ⟨l0, l1, l2, l3, rfl⟩ ih
    refine V_iload_n rfl (by first | rfl | assumption) ?_
    refine V_bipush (v := nI 17) rfl (by decide) ?_
    refine V_icmp_geN rfl (by omega) (by decide) (fun h => absurd h (by omega)) (fun _ => ?_)
    refine V_aload_n rfl (by first | rfl | assumption) ?_
    refine V_getf rfl rfl rfl (by repeat (first | exact hup_eq | assumption | refine Eq.trans (hup_ne (by first | assumption | exact Ne.symm (by assumption) | decide | omega)) ?_)) (by first | rfl | assumption) ?_
    refine V_bipush (v := nI 17) rfl (by decide) ?_
    refine V_iload_n rfl (by first | rfl | assumption) ?_
    refine V_imulN rfl ?_
    refine V_iload_n rfl (by first | rfl | assumption) ?_
    refine V_iaddN rfl ?_
    refine V_aload_n rfl (by first | rfl | assumption) ?_
    refine V_getf rfl rfl rfl (by repeat (first | exact hup_eq | assumption | refine Eq.trans (hup_ne (by first | assumption | exact Ne.symm (by assumption) | decide | omega)) ?_)) (by first | rfl | assumption) ?_
    refine V_bipush (v := nI 17) rfl (by decide) ?_
    refine V_iload_n rfl (by first | rfl | assumption) ?_
    refine V_imulN rfl ?_
    refine V_iload_n rfl (by first | rfl | assumption) ?_
    refine V_iaddN rfl ?_
    refine V_laldN rfl (by repeat (first | exact hup_eq | assumption | refine Eq.trans (hup_ne (by first | assumption | exact Ne.symm (by assumption) | decide | omega)) ?_)) rfl (by first | omega | decide) (by first | omega | decide) ?_
    refine V_lastN rfl (by repeat (first | exact hup_eq | assumption | refine Eq.trans (hup_ne (by first | assumption | exact Ne.symm (by assumption) | decide | omega)) ?_)) rfl (by first | omega | decide) (by first | omega | decide) ?_
    refine V_iincN (d := 1) rfl (by first | rfl | assumption) (by decide) (by decide) ?_
    refine V_goto rfl ?_
    rw [hup_hup, ovw_s' (g := fun k => D (17 * a + k)) (ovw_out (by omega))]
    exact ih _ _ ⟨l0, l1, l2, rfl, rfl⟩
  · rintro lc G' ⟨l0, l1, l2, l3, rfl⟩
    refine V_iload_n rfl (by first | rfl | assumption) ?_
    refine V_bipush (v := nI 17) rfl (by decide) ?_
    refine V_icmp_geN rfl (by decide) (by decide) (fun _ => ?_) (fun h => absurd (Nat.le_refl _) h)
    exact V_vret rfl rfl hq
/-- a row of seventeen digits holds a number modulo P -/
def dH (D : Nat → Nat) (r A : Nat) : Prop := (∀ k, k < 17 → D (17 * r + k) < 2 ^ 15) ∧ vs (2 ^ 15) (fun k => D (17 * r + k)) 17 % PP = A
def dO (to : Nat) (D D' : Nat → Nat) : Prop := ∀ j, j < 17 * to ∨ 17 * to + 17 ≤ j → D' j = D j
theorem dH.keep {D D' : Nat → Nat} {r to A : Nat} (h : dH D r A) (e : dO to D D') (hr : r ≠ to) : dH D' r A := by
  have e2 : ∀ k, k < 17 → D' (17 * r + k) = D (17 * r + k) := fun k hk => e _ (by omega)
  refine ⟨fun k hk => by rw [e2 k hk]; exact h.1 k hk, ?_⟩
  rw [vs_congr e2]
  exact h.2
theorem dO_ovw {D y : Nat → Nat} {to : Nat} : dO to D (ovw D (17 * to) 17 y) := fun j hj => ovw_out hj
theorem dH_ovw {D y : Nat → Nat} {to A : Nat} (h1 : ∀ k, k < 17 → y k < 2 ^ 15) (h2 : vs (2 ^ 15) y 17 % PP = A) : dH (ovw D (17 * to) 17 y) to A := by
  have e2 : ∀ k, k < 17 → ovw D (17 * to) 17 y (17 * to + k) = y k := fun k hk => ovw_in hk
  exact ⟨fun k hk => by rw [e2 k hk]; exact h1 k hk, by rw [vs_congr e2]; exact h2⟩
/-- the cells of the curve: digits D -/
def crM (D : Nat → Nat) (G : kG) : Prop := G.1 143 = some (LA 340 D) ∧ ∃ p, G.1 144 = some (LA 34 p)
abbrev P34 (j : Nat) : Prop := j = 143 ∨ j = 144
theorem crM.up {D D' : Nat → Nat} (h : crM D G) : crM D' (hup G 143 (LA 340 D')) := ⟨hup_eq, h.2.choose, (hup_ne (by decide)).trans h.2.choose_spec⟩
set_option maxHeartbeats 4000000 in
theorem c_madd {to a b A B : Nat} {D : Nat → Nat} (g140 : G.1 140 = some (MO th ta os hs ps rs)) (hc : crM D G) (hto : to < 20) (ha : a < 20) (hb : b < 20) (hA : dH D a A) (hB : dH D b B)
    (hq : ∀ G' D', FP P34 G G' → crM D' G' → dO to D D' → dH D' to (addP A B) → Q (.inl none) G') : C K 0 0 mX12_add [.ref 140, .int (nI to), .int (nI a), .int (nI b)] G Q := by
  have g143 := hc.1
  refine C_of okX12_add (Nat.le_of_ble_eq_true rfl) ?_
  refine V_iconst (v := nI 0) rfl (by decide) ?_
  refine V_istore rfl (by decide) ?_
  refine V_loop 17 (fun i lc G' => lc 0 = some (.ref 140) ∧ lc 1 = some (.int (nI to)) ∧ lc 2 = some (.int (nI a)) ∧ lc 3 = some (.int (nI b)) ∧ lc 4 = some (.int (nI i)) ∧ G' = hup G 143 (LA 340 (ovw D (17 * to) i (fun k => D (17 * a + k) + D (17 * b + k))))) ?_ ?_ 0 _ _ (Nat.zero_le _) ⟨rfl, rfl, rfl, rfl, rfl, by rw [ovw_0, hup_same g143]⟩
  · rintro i lc G' hi ⟨l0, l1, l2, l3, l4, rfl⟩ ih
    refine V_iload rfl (by first | rfl | assumption) ?_
    refine V_bipush (v := nI 17) rfl (by decide) ?_
    refine V_icmp_geN rfl (by omega) (by decide) (fun h => absurd h (by omega)) (fun _ => ?_)
    refine V_aload_n rfl (by first | rfl | assumption) ?_
    refine V_getf rfl rfl rfl (by repeat (first | exact hup_eq | assumption | refine Eq.trans (hup_ne (by first | assumption | exact Ne.symm (by assumption) | decide | omega)) ?_)) (by first | rfl | assumption) ?_
    refine V_bipush (v := nI 17) rfl (by decide) ?_
    refine V_iload_n rfl (by first | rfl | assumption) ?_
    refine V_imulN rfl ?_
    refine V_iload rfl (by first | rfl | assumption) ?_
    refine V_iaddN rfl ?_
    refine V_aload_n rfl (by first | rfl | assumption) ?_
    refine V_getf rfl rfl rfl (by repeat (first | exact hup_eq | assumption | refine Eq.trans (hup_ne (by first | assumption | exact Ne.symm (by assumption) | decide | omega)) ?_)) (by first | rfl | assumption) ?_
    refine V_bipush (v := nI 17) rfl (by decide) ?_
    refine V_iload_n rfl (by first | rfl | assumption) ?_
    refine V_imulN rfl ?_
    refine V_iload rfl (by first | rfl | assumption) ?_
    refine V_iaddN rfl ?_
    refine V_laldN rfl (by repeat (first | exact hup_eq | assumption | refine Eq.trans (hup_ne (by first | assumption | exact Ne.symm (by assumption) | decide | omega)) ?_)) rfl (by first | omega | decide) (by first | omega | decide) ?_
    refine V_aload_n rfl (by first | rfl | assumption) ?_
    refine V_getf rfl rfl rfl (by repeat (first | exact hup_eq | assumption | refine Eq.trans (hup_ne (by first | assumption | exact Ne.symm (by assumption) | decide | omega)) ?_)) (by first | rfl | assumption) ?_
    refine V_bipush (v := nI 17) rfl (by decide) ?_
    refine V_iload_n rfl (by first | rfl | assumption) ?_
    refine V_imulN rfl ?_
    refine V_iload rfl (by first | rfl | assumption) ?_
    refine V_iaddN rfl ?_
    refine V_laldN rfl (by repeat (first | exact hup_eq | assumption | refine Eq.trans (hup_ne (by first | assumption | exact Ne.symm (by assumption) | decide | omega)) ?_)) rfl (by first | omega | decide) (by first | omega | decide) ?_
    refine V_laddN rfl ?_
    refine V_lastN rfl (by repeat (first | exact hup_eq | assumption | refine Eq.trans (hup_ne (by first | assumption | exact Ne.symm (by assumption) | decide | omega)) ?_)) rfl (by first | omega | decide) (by first | omega | decide) ?_
    refine V_iincN (d := 1) rfl (by first | rfl | assumption) (by decide) (by decide) ?_
    refine V_goto rfl ?_
    rw [hup_hup, ovw_s' (g := fun k => D (17 * a + k) + D (17 * b + k)) (by rw [ovw_out (by omega), ovw_out (by omega)])]
    exact ih _ _ ⟨l0, l1, l2, l3, rfl, rfl⟩
  · rintro lc G' ⟨l0, l1, l2, l3, l4, rfl⟩
    have e2 : ∀ k, k < 17 → ovw D (17 * to) 17 (fun k => D (17 * a + k) + D (17 * b + k)) (17 * to + k) = D (17 * a + k) + D (17 * b + k) := fun k hk => ovw_in hk
    refine V_iload rfl (by first | rfl | assumption) ?_
    refine V_bipush (v := nI 17) rfl (by decide) ?_
    refine V_icmp_geN rfl (by decide) (by decide) (fun _ => ?_) (fun h => absurd (Nat.le_refl _) h)
    refine V_aload_n rfl (by first | rfl | assumption) ?_
    refine V_iload_n rfl (by first | rfl | assumption) ?_
    refine V_callV (M' := mX12_carry) (mc := 0) (ms := 0) (bc' := 0) (bs' := 0) rfl cw_X12_162 iv_X12_carry (by repeat (first | exact hup_eq | assumption | refine Eq.trans (hup_ne (by first | assumption | exact Ne.symm (by assumption) | decide | omega)) ?_)) rfl rfl (Nat.le_of_ble_eq_true rfl) ⟨Nat.le_of_ble_eq_true rfl, Nat.le_of_ble_eq_true rfl⟩ ⟨Nat.le_of_ble_eq_true rfl, Nat.le_of_ble_eq_true rfl⟩ (As := [.int (nI to)]) (c_mcarry (D := ovw D (17 * to) 17 (fun k => D (17 * a + k) + D (17 * b + k))) (Q := fun o G' => o = .inl none ∧ Q o G') (by repeat (first | exact hup_eq | assumption | refine Eq.trans (hup_ne (by first | assumption | exact Ne.symm (by assumption) | decide | omega)) ?_)) (by repeat (first | exact hup_eq | assumption | refine Eq.trans (hup_ne (by first | assumption | exact Ne.symm (by assumption) | decide | omega)) ?_)) hto (fun k hk => ?_) (fun y h1 h2 => ⟨rfl, ?_⟩)) (fun o G' h => ?_) (fun E G' h => by cases h.1)
    · have h1 := hA.1 k hk
      have h2 := hB.1 k hk
      rw [e2 k hk]
      omega
    · rw [hup_hup, ovw_ovw]
      rw [vs_congr e2, vs_add] at h2
      refine hq _ _ (FP.rf.hup (Or.inl rfl)) hc.up dO_ovw (dH_ovw h1 ?_)
      rw [h2]
      exact addP_of rfl hA.2 hB.2
    · obtain ⟨h0, h⟩ := h
      cases h0
      exact V_vret rfl rfl h
def fP (k : Nat) : Nat := if k = 0 then 130996 else 131068
theorem fP_v : vs (2 ^ 15) fP 17 = 4 * PP := by decide +kernel
set_option maxHeartbeats 4000000 in
theorem c_msub {to a b A B : Nat} {D : Nat → Nat} (g140 : G.1 140 = some (MO th ta os hs ps rs)) (hc : crM D G) (hto : to < 20) (ha : a < 20) (hb : b < 20) (hA : dH D a A) (hB : dH D b B)
    (hq : ∀ G' D', FP P34 G G' → crM D' G' → dO to D D' → dH D' to (subP A B) → Q (.inl none) G') : C K 0 0 mX12_subtract [.ref 140, .int (nI to), .int (nI a), .int (nI b)] G Q := by
  have g143 := hc.1
  refine C_of okX12_subtract (Nat.le_of_ble_eq_true rfl) ?_
  refine V_iconst (v := nI 0) rfl (by decide) ?_
  refine V_istore rfl (by decide) ?_
  refine V_loop 17 (fun i lc G' => lc 0 = some (.ref 140) ∧ lc 1 = some (.int (nI to)) ∧ lc 2 = some (.int (nI a)) ∧ lc 3 = some (.int (nI b)) ∧ lc 4 = some (.int (nI i)) ∧ G' = hup G 143 (LA 340 (ovw D (17 * to) i (fun k => D (17 * a + k) + fP k - D (17 * b + k))))) ?_ ?_ 0 _ _ (Nat.zero_le _) ⟨rfl, rfl, rfl, rfl, rfl, by rw [ovw_0, hup_same g143]⟩
  · rintro i lc G' hi ⟨l0, l1, l2, l3, l4, rfl⟩ ih
    have h2 := hB.1 i hi
    have e3 : ovw D (17 * to) i (fun k => D (17 * a + k) + fP k - D (17 * b + k)) (17 * a + i) = D (17 * a + i) := ovw_out (by omega)
    have e4 : ovw D (17 * to) i (fun k => D (17 * a + k) + fP k - D (17 * b + k)) (17 * b + i) = D (17 * b + i) := ovw_out (by omega)
    have h3 : 130996 ≤ fP i := by unfold fP; split <;> omega
    have tail : V K 0 0 mX12_subtract 47 lc [.long (lN (fP i)), .long (lN (D (17 * a + i))), .int (nI (17 * to + i)), .ref 143] (hup G 143 (LA 340 (ovw D (17 * to) i (fun k => D (17 * a + k) + fP k - D (17 * b + k))))) Q := by
      refine V_laddN rfl ?_
      refine V_aload_n rfl (by first | rfl | assumption) ?_
      refine V_getf rfl rfl rfl (by repeat (first | exact hup_eq | assumption | refine Eq.trans (hup_ne (by first | assumption | exact Ne.symm (by assumption) | decide | omega)) ?_)) (by first | rfl | assumption) ?_
      refine V_bipush (v := nI 17) rfl (by decide) ?_
      refine V_iload_n rfl (by first | rfl | assumption) ?_
      refine V_imulN rfl ?_
      refine V_iload rfl (by first | rfl | assumption) ?_
      refine V_iaddN rfl ?_
      refine V_laldN rfl (by repeat (first | exact hup_eq | assumption | refine Eq.trans (hup_ne (by first | assumption | exact Ne.symm (by assumption) | decide | omega)) ?_)) rfl (by first | omega | decide) (by first | omega | decide) ?_
      rw [e4]
      refine V_lsubN rfl (by first | omega | decide) ?_
      refine V_lastN rfl (by repeat (first | exact hup_eq | assumption | refine Eq.trans (hup_ne (by first | assumption | exact Ne.symm (by assumption) | decide | omega)) ?_)) rfl (by first | omega | decide) (by first | omega | decide) ?_
      refine V_iincN (d := 1) rfl (by first | rfl | assumption) (by decide) (by decide) ?_
      refine V_goto rfl ?_
      rw [hup_hup, ovw_s' (g := fun k => D (17 * a + k) + fP k - D (17 * b + k)) (by rfl)]
      exact ih _ _ ⟨l0, l1, l2, l3, rfl, rfl⟩
    refine V_iload rfl (by first | rfl | assumption) ?_
    refine V_bipush (v := nI 17) rfl (by decide) ?_
    refine V_icmp_geN rfl (by omega) (by decide) (fun h => absurd h (by omega)) (fun _ => ?_)
    refine V_aload_n rfl (by first | rfl | assumption) ?_
    refine V_getf rfl rfl rfl (by repeat (first | exact hup_eq | assumption | refine Eq.trans (hup_ne (by first | assumption | exact Ne.symm (by assumption) | decide | omega)) ?_)) (by first | rfl | assumption) ?_
    refine V_bipush (v := nI 17) rfl (by decide) ?_
    refine V_iload_n rfl (by first | rfl | assumption) ?_
    refine V_imulN rfl ?_
    refine V_iload rfl (by first | rfl | assumption) ?_
    refine V_iaddN rfl ?_
    refine V_aload_n rfl (by first | rfl | assumption) ?_
    refine V_getf rfl rfl rfl (by repeat (first | exact hup_eq | assumption | refine Eq.trans (hup_ne (by first | assumption | exact Ne.symm (by assumption) | decide | omega)) ?_)) (by first | rfl | assumption) ?_
    refine V_bipush (v := nI 17) rfl (by decide) ?_
    refine V_iload_n rfl (by first | rfl | assumption) ?_
    refine V_imulN rfl ?_
    refine V_iload rfl (by first | rfl | assumption) ?_
    refine V_iaddN rfl ?_
    refine V_laldN rfl (by repeat (first | exact hup_eq | assumption | refine Eq.trans (hup_ne (by first | assumption | exact Ne.symm (by assumption) | decide | omega)) ?_)) rfl (by first | omega | decide) (by first | omega | decide) ?_
    refine V_iload rfl (by first | rfl | assumption) ?_
    rw [e3]
    refine V_if_neN rfl (by omega) (fun h => ?_) (fun h => ?_)
    · rw [show fP i = 131068 from if_neg h] at tail
      refine V_ldc2 (v := lN 131068) rfl kc_X12_168 ?_
      exact tail
    · rw [show fP i = 130996 from if_pos h] at tail
      refine V_ldc2 (v := lN 130996) rfl kc_X12_166 ?_
      refine V_goto rfl ?_
      exact tail
  · rintro lc G' ⟨l0, l1, l2, l3, l4, rfl⟩
    have e2 : ∀ k, k < 17 → ovw D (17 * to) 17 (fun k => D (17 * a + k) + fP k - D (17 * b + k)) (17 * to + k) = D (17 * a + k) + fP k - D (17 * b + k) := fun k hk => ovw_in hk
    have hf : ∀ k, 130996 ≤ fP k ∧ fP k ≤ 131068 := fun k => by unfold fP; split <;> omega
    refine V_iload rfl (by first | rfl | assumption) ?_
    refine V_bipush (v := nI 17) rfl (by decide) ?_
    refine V_icmp_geN rfl (by decide) (by decide) (fun _ => ?_) (fun h => absurd (Nat.le_refl _) h)
    refine V_aload_n rfl (by first | rfl | assumption) ?_
    refine V_iload_n rfl (by first | rfl | assumption) ?_
    refine V_callV (M' := mX12_carry) (mc := 0) (ms := 0) (bc' := 0) (bs' := 0) rfl cw_X12_162 iv_X12_carry (by repeat (first | exact hup_eq | assumption | refine Eq.trans (hup_ne (by first | assumption | exact Ne.symm (by assumption) | decide | omega)) ?_)) rfl rfl (Nat.le_of_ble_eq_true rfl) ⟨Nat.le_of_ble_eq_true rfl, Nat.le_of_ble_eq_true rfl⟩ ⟨Nat.le_of_ble_eq_true rfl, Nat.le_of_ble_eq_true rfl⟩ (As := [.int (nI to)]) (c_mcarry (D := ovw D (17 * to) 17 (fun k => D (17 * a + k) + fP k - D (17 * b + k))) (Q := fun o G' => o = .inl none ∧ Q o G') (by repeat (first | exact hup_eq | assumption | refine Eq.trans (hup_ne (by first | assumption | exact Ne.symm (by assumption) | decide | omega)) ?_)) (by repeat (first | exact hup_eq | assumption | refine Eq.trans (hup_ne (by first | assumption | exact Ne.symm (by assumption) | decide | omega)) ?_)) hto (fun k hk => ?_) (fun y h1 h2 => ⟨rfl, ?_⟩)) (fun o G' h => ?_) (fun E G' h => by cases h.1)
    · have h1 := hA.1 k hk
      have h2 := hB.1 k hk
      have h3 := hf k
      rw [e2 k hk]
      omega
    · rw [hup_hup, ovw_ovw]
      rw [vs_congr e2] at h2
      refine hq _ _ (FP.rf.hup (Or.inl rfl)) hc.up dO_ovw (dH_ovw h1 ?_)
      rw [h2]
      refine subP_of (a := vs (2 ^ 15) (fun k => D (17 * a + k)) 17 + PP * 2) (b := vs (2 ^ 15) (fun k => D (17 * b + k)) 17) ?_ (by rw [Nat.add_mul_mod_self_left]; exact hA.2) hB.2
      rw [← vs_add, vs_congr (w' := fun k => D (17 * a + k) + fP k) (fun k hk => by have h2 := hB.1 k hk; have h3 := hf k; omega), vs_add, fP_v]
      omega
    · obtain ⟨h0, h⟩ := h
      cases h0
      exact V_vret rfl rfl h
theorem cv_lt {x y : Nat → Nat} {L b : Nat} (hx : ∀ k, k < L → x k < 2 ^ b) (hy : ∀ k, k < L → y k < 2 ^ b) : ∀ m, m ≤ L → ∀ k, cv x y L m k ≤ m * 2 ^ (b + b)
  | 0, _, k => Nat.zero_le _
  | m + 1, hm, k => by
    have h1 := cv_lt hx hy m (by omega) k
    have h2 : cvt (x m) y m L k ≤ 2 ^ (b + b) := by
      unfold cvt
      split
      · rw [Nat.pow_add]
        exact Nat.mul_le_mul (Nat.le_of_lt (hx m (by omega))) (Nat.le_of_lt (hy _ (by omega)))
      · exact Nat.zero_le _
    show cv x y L m k + cvt (x m) y m L k ≤ _
    rw [Nat.add_mul, Nat.one_mul]
    omega
theorem cvt_0 {c : Nat} {y : Nat → Nat} {m : Nat} (k : Nat) : cvt c y m 0 k = 0 := if_neg (by omega)
/-- one more product is added -/
theorem cvt_s {w y : Nat → Nat} {c m L : Nat} : updN (fun k => w k + cvt c y m L k) (m + L) (w (m + L) + cvt c y m L (m + L) + c * y L) = fun k => w k + cvt c y m (L + 1) k := by
  funext k
  by_cases e : k = m + L
  · subst e
    rw [updN_eq]
    unfold cvt
    rw [if_neg (by omega), if_pos (by omega), show m + L - m = L by omega]
    omega
  · rw [updN_ne e]
    unfold cvt
    by_cases h : m ≤ k ∧ k - m < L
    · rw [if_pos h, if_pos (by omega)]
    · rw [if_neg h, if_neg (by omega)]
/-- the upper half comes back c times -/
theorem cv_fold {B L c Pm : Nat} {x y : Nat → Nat} (hB : B ^ L = Pm + c) : vs B (fun k => cv x y L L k + c * cv x y L L (k + L)) L % Pm = (vs B x L * vs B y L) % Pm := by
  have h1 : vs B (cv x y L L) (L + L) = vs B x L * vs B y L := vs_cv L (L + L) (by omega)
  rw [← h1, vs_split, vs_add, vs_mul B c, hB, Nat.add_mul]
  rw [show (fun j => cv x y L L (L + j)) = fun k => cv x y L L (k + L) from funext (fun k => by rw [Nat.add_comm])]
  rw [show vs B (cv x y L L) L + (Pm * vs B (fun k => cv x y L L (k + L)) L + c * vs B (fun k => cv x y L L (k + L)) L) = vs B (cv x y L L) L + c * vs B (fun k => cv x y L L (k + L)) L + Pm * vs B (fun k => cv x y L L (k + L)) L by omega, Nat.add_mul_mod_self_left]
theorem p255' : ((2 : Nat) ^ 15) ^ 17 = PP + 19 := by decide
set_option maxHeartbeats 8000000 in
theorem c_mtimes {to a b A B : Nat} {D : Nat → Nat} (g140 : G.1 140 = some (MO th ta os hs ps rs)) (hc : crM D G) (hto : to < 20) (ha : a < 20) (hb : b < 20) (hA : dH D a A) (hB : dH D b B)
    (hq : ∀ G' D', FP P34 G G' → crM D' G' → dO to D D' → dH D' to (mulP A B) → Q (.inl none) G') : C K 0 0 mX12_times [.ref 140, .int (nI to), .int (nI a), .int (nI b)] G Q := by
  obtain ⟨g143, p0, g144⟩ := hc
  obtain ⟨x, hx⟩ : ∃ x, x = fun k => D (17 * a + k) := ⟨_, rfl⟩
  obtain ⟨y, hy⟩ : ∃ y, y = fun k => D (17 * b + k) := ⟨_, rfl⟩
  have ex : ∀ k, D (17 * a + k) = x k := fun k => by rw [hx]
  have ey : ∀ k, D (17 * b + k) = y k := fun k => by rw [hy]
  have hA1 : ∀ k, k < 17 → x k < 2 ^ 15 := fun k hk => by rw [hx]; exact hA.1 k hk
  have hB1 : ∀ k, k < 17 → y k < 2 ^ 15 := fun k hk => by rw [hy]; exact hB.1 k hk
  have hA2 : vs (2 ^ 15) x 17 % PP = A := by rw [hx]; exact hA.2
  have hB2 : vs (2 ^ 15) y 17 % PP = B := by rw [hy]; exact hB.2
  refine C_of okX12_times (Nat.le_of_ble_eq_true rfl) ?_
  refine V_iconst (v := nI 0) rfl (by decide) ?_
  refine V_istore rfl (by decide) ?_
  refine V_loop 34 (fun i lc G' => lc 0 = some (.ref 140) ∧ lc 1 = some (.int (nI to)) ∧ lc 2 = some (.int (nI a)) ∧ lc 3 = some (.int (nI b)) ∧ lc 4 = some (.int (nI i)) ∧ G' = hup G 144 (LA 34 (ovw p0 0 i (fun _ => 0)))) ?_ ?_ 0 _ _ (Nat.zero_le _) ⟨rfl, rfl, rfl, rfl, rfl, by rw [ovw_0, hup_same g144]⟩
  · rintro i lc G' hi ⟨l0, l1, l2, l3, l4, rfl⟩ ih
    refine V_iload rfl (by first | rfl | assumption) ?_
    refine V_bipush (v := nI 34) rfl (by decide) ?_
    refine V_icmp_geN rfl (by omega) (by decide) (fun h => absurd h (by omega)) (fun _ => ?_)
    refine V_aload_n rfl (by first | rfl | assumption) ?_
    refine V_getf rfl rfl rfl (by repeat (first | exact hup_eq | assumption | refine Eq.trans (hup_ne (by first | assumption | exact Ne.symm (by assumption) | decide | omega)) ?_)) (by first | rfl | assumption) ?_
    refine V_iload rfl (by first | rfl | assumption) ?_
    refine V_lconst (v := lN 0) rfl (by decide) ?_
    refine V_lastN rfl (by repeat (first | exact hup_eq | assumption | refine Eq.trans (hup_ne (by first | assumption | exact Ne.symm (by assumption) | decide | omega)) ?_)) rfl (by first | omega | decide) (by first | omega | decide) ?_
    refine V_iincN (d := 1) rfl (by first | rfl | assumption) (by decide) (by decide) ?_
    refine V_goto rfl ?_
    have e := ovw_s (o := p0) (g := fun _ => 0) (a := 0) (i := i)
    rw [Nat.zero_add] at e
    rw [hup_hup, e]
    exact ih _ _ ⟨l0, l1, l2, l3, rfl, rfl⟩
  rintro lc G' ⟨l0, l1, l2, l3, l4, rfl⟩
  refine V_iload rfl (by first | rfl | assumption) ?_
  refine V_bipush (v := nI 34) rfl (by decide) ?_
  refine V_icmp_geN rfl (by decide) (by decide) (fun _ => ?_) (fun h => absurd (Nat.le_refl _) h)
  refine V_iconst (v := nI 0) rfl (by decide) ?_
  refine V_istore rfl (by decide) ?_
  refine V_loop 17 (fun i lc G' => lc 0 = some (.ref 140) ∧ lc 1 = some (.int (nI to)) ∧ lc 2 = some (.int (nI a)) ∧ lc 3 = some (.int (nI b)) ∧ lc 4 = some (.int (nI i)) ∧ ∃ w, (∀ k, k < 34 → w k = cv x y 17 i k) ∧ G' = hup G 144 (LA 34 w)) ?_ ?_ 0 _ _ (Nat.zero_le _) ⟨l0, l1, l2, l3, rfl, _, fun k hk => by rw [ovw_at (Nat.zero_le _) (by omega)]; rfl, rfl⟩
  · rintro i lc G' hi ⟨l0, l1, l2, l3, l4, w, hw, rfl⟩ ih
    refine V_iload rfl (by first | rfl | assumption) ?_
    refine V_bipush (v := nI 17) rfl (by decide) ?_
    refine V_icmp_geN rfl (by omega) (by decide) (fun h => absurd h (by omega)) (fun _ => ?_)
    refine V_iconst (v := nI 0) rfl (by decide) ?_
    refine V_istore rfl (by decide) ?_
    refine V_loop 17 (fun m lc G' => lc 0 = some (.ref 140) ∧ lc 1 = some (.int (nI to)) ∧ lc 2 = some (.int (nI a)) ∧ lc 3 = some (.int (nI b)) ∧ lc 4 = some (.int (nI i)) ∧ lc 5 = some (.int (nI m)) ∧ G' = hup G 144 (LA 34 (fun k => w k + cvt (x i) y i m k))) ?_ ?_ 0 _ _ (Nat.zero_le _) ⟨l0, l1, l2, l3, l4, rfl, by rw [show (fun k => w k + cvt (x i) y i 0 k) = w from funext (fun k => by rw [cvt_0]; rfl)]⟩
    · rintro m lc G' hm ⟨l0, l1, l2, l3, l4, l5, rfl⟩ ih2
      refine V_iload rfl (by first | rfl | assumption) ?_
      refine V_bipush (v := nI 17) rfl (by decide) ?_
      refine V_icmp_geN rfl (by omega) (by decide) (fun h => absurd h (by omega)) (fun _ => ?_)
      refine V_aload_n rfl (by first | rfl | assumption) ?_
      refine V_getf rfl rfl rfl (by repeat (first | exact hup_eq | assumption | refine Eq.trans (hup_ne (by first | assumption | exact Ne.symm (by assumption) | decide | omega)) ?_)) (by first | rfl | assumption) ?_
      refine V_iload rfl (by first | rfl | assumption) ?_
      refine V_iload rfl (by first | rfl | assumption) ?_
      refine V_iaddN rfl ?_
      refine V_aload_n rfl (by first | rfl | assumption) ?_
      refine V_getf rfl rfl rfl (by repeat (first | exact hup_eq | assumption | refine Eq.trans (hup_ne (by first | assumption | exact Ne.symm (by assumption) | decide | omega)) ?_)) (by first | rfl | assumption) ?_
      refine V_iload rfl (by first | rfl | assumption) ?_
      refine V_iload rfl (by first | rfl | assumption) ?_
      refine V_iaddN rfl ?_
      refine V_laldN rfl (by repeat (first | exact hup_eq | assumption | refine Eq.trans (hup_ne (by first | assumption | exact Ne.symm (by assumption) | decide | omega)) ?_)) rfl (by first | omega | decide) (by first | omega | decide) ?_
      refine V_aload_n rfl (by first | rfl | assumption) ?_
      refine V_getf rfl rfl rfl (by repeat (first | exact hup_eq | assumption | refine Eq.trans (hup_ne (by first | assumption | exact Ne.symm (by assumption) | decide | omega)) ?_)) (by first | rfl | assumption) ?_
      refine V_bipush (v := nI 17) rfl (by decide) ?_
      refine V_iload_n rfl (by first | rfl | assumption) ?_
      refine V_imulN rfl ?_
      refine V_iload rfl (by first | rfl | assumption) ?_
      refine V_iaddN rfl ?_
      refine V_laldN rfl (by repeat (first | exact hup_eq | assumption | refine Eq.trans (hup_ne (by first | assumption | exact Ne.symm (by assumption) | decide | omega)) ?_)) rfl (by first | omega | decide) (by first | omega | decide) ?_
      refine V_aload_n rfl (by first | rfl | assumption) ?_
      refine V_getf rfl rfl rfl (by repeat (first | exact hup_eq | assumption | refine Eq.trans (hup_ne (by first | assumption | exact Ne.symm (by assumption) | decide | omega)) ?_)) (by first | rfl | assumption) ?_
      refine V_bipush (v := nI 17) rfl (by decide) ?_
      refine V_iload_n rfl (by first | rfl | assumption) ?_
      refine V_imulN rfl ?_
      refine V_iload rfl (by first | rfl | assumption) ?_
      refine V_iaddN rfl ?_
      refine V_laldN rfl (by repeat (first | exact hup_eq | assumption | refine Eq.trans (hup_ne (by first | assumption | exact Ne.symm (by assumption) | decide | omega)) ?_)) rfl (by first | omega | decide) (by first | omega | decide) ?_
      refine V_lmulN rfl ?_
      refine V_laddN rfl ?_
      refine V_lastN rfl (by repeat (first | exact hup_eq | assumption | refine Eq.trans (hup_ne (by first | assumption | exact Ne.symm (by assumption) | decide | omega)) ?_)) rfl (by first | omega | decide) (by first | omega | decide) ?_
      refine V_iincN (d := 1) rfl (by first | rfl | assumption) (by decide) (by decide) ?_
      refine V_goto rfl ?_
      rw [hup_hup, ex, ey, cvt_s]
      exact ih2 _ _ ⟨l0, l1, l2, l3, l4, rfl, rfl⟩
    · rintro lc G' ⟨l0, l1, l2, l3, l4, l5, rfl⟩
      refine V_iload rfl (by first | rfl | assumption) ?_
      refine V_bipush (v := nI 17) rfl (by decide) ?_
      refine V_icmp_geN rfl (by decide) (by decide) (fun _ => ?_) (fun h => absurd (Nat.le_refl _) h)
      refine V_iincN (d := 1) rfl (by first | rfl | assumption) (by decide) (by decide) ?_
      refine V_goto rfl ?_
      exact ih _ _ ⟨l0, l1, l2, l3, rfl, _, fun k hk => by show _ = cv x y 17 i k + _; rw [hw k hk], rfl⟩
  rintro lc G' ⟨l0, l1, l2, l3, l4, w, hw, rfl⟩
  refine V_iload rfl (by first | rfl | assumption) ?_
  refine V_bipush (v := nI 17) rfl (by decide) ?_
  refine V_icmp_geN rfl (by decide) (by decide) (fun _ => ?_) (fun h => absurd (Nat.le_refl _) h)
  refine V_iconst (v := nI 0) rfl (by decide) ?_
  refine V_istore rfl (by decide) ?_
  refine V_loop 17 (fun i lc G' => lc 0 = some (.ref 140) ∧ lc 1 = some (.int (nI to)) ∧ lc 4 = some (.int (nI i)) ∧ G' = hup (hup G 144 (LA 34 w)) 143 (LA 340 (ovw D (17 * to) i (fun k => cv x y 17 17 k + 19 * cv x y 17 17 (k + 17))))) ?_ ?_ 0 _ _ (Nat.zero_le _) ⟨l0, l1, rfl, by rw [ovw_0, hup_same ((hup_ne (by decide)).trans g143)]⟩
  · rintro i lc G' hi ⟨l0, l1, l4, rfl⟩ ih
    refine V_iload rfl (by first | rfl | assumption) ?_
    refine V_bipush (v := nI 17) rfl (by decide) ?_
    refine V_icmp_geN rfl (by omega) (by decide) (fun h => absurd h (by omega)) (fun _ => ?_)
    refine V_aload_n rfl (by first | rfl | assumption) ?_
    refine V_getf rfl rfl rfl (by repeat (first | exact hup_eq | assumption | refine Eq.trans (hup_ne (by first | assumption | exact Ne.symm (by assumption) | decide | omega)) ?_)) (by first | rfl | assumption) ?_
    refine V_bipush (v := nI 17) rfl (by decide) ?_
    refine V_iload_n rfl (by first | rfl | assumption) ?_
    refine V_imulN rfl ?_
    refine V_iload rfl (by first | rfl | assumption) ?_
    refine V_iaddN rfl ?_
    refine V_aload_n rfl (by first | rfl | assumption) ?_
    refine V_getf rfl rfl rfl (by repeat (first | exact hup_eq | assumption | refine Eq.trans (hup_ne (by first | assumption | exact Ne.symm (by assumption) | decide | omega)) ?_)) (by first | rfl | assumption) ?_
    refine V_iload rfl (by first | rfl | assumption) ?_
    refine V_laldN rfl (by repeat (first | exact hup_eq | assumption | refine Eq.trans (hup_ne (by first | assumption | exact Ne.symm (by assumption) | decide | omega)) ?_)) rfl (by first | omega | decide) (by first | omega | decide) ?_
    refine V_ldc2 (v := lN 19) rfl kc_X12_160 ?_
    refine V_aload_n rfl (by first | rfl | assumption) ?_
    refine V_getf rfl rfl rfl (by repeat (first | exact hup_eq | assumption | refine Eq.trans (hup_ne (by first | assumption | exact Ne.symm (by assumption) | decide | omega)) ?_)) (by first | rfl | assumption) ?_
    refine V_iload rfl (by first | rfl | assumption) ?_
    refine V_bipush (v := nI 17) rfl (by decide) ?_
    refine V_iaddN rfl ?_
    refine V_laldN rfl (by repeat (first | exact hup_eq | assumption | refine Eq.trans (hup_ne (by first | assumption | exact Ne.symm (by assumption) | decide | omega)) ?_)) rfl (by first | omega | decide) (by first | omega | decide) ?_
    refine V_lmulN rfl ?_
    refine V_laddN rfl ?_
    refine V_lastN rfl (by repeat (first | exact hup_eq | assumption | refine Eq.trans (hup_ne (by first | assumption | exact Ne.symm (by assumption) | decide | omega)) ?_)) rfl (by first | omega | decide) (by first | omega | decide) ?_
    refine V_iincN (d := 1) rfl (by first | rfl | assumption) (by decide) (by decide) ?_
    refine V_goto rfl ?_
    rw [hup_hup, ovw_s' (g := fun k => cv x y 17 17 k + 19 * cv x y 17 17 (k + 17)) (by rw [hw _ (by omega), hw _ (by omega)])]
    exact ih _ _ ⟨l0, l1, rfl, rfl⟩
  · rintro lc G' ⟨l0, l1, l4, rfl⟩
    have e2 : ∀ k, k < 17 → ovw D (17 * to) 17 (fun k => cv x y 17 17 k + 19 * cv x y 17 17 (k + 17)) (17 * to + k) = cv x y 17 17 k + 19 * cv x y 17 17 (k + 17) := fun k hk => ovw_in hk
    refine V_iload rfl (by first | rfl | assumption) ?_
    refine V_bipush (v := nI 17) rfl (by decide) ?_
    refine V_icmp_geN rfl (by decide) (by decide) (fun _ => ?_) (fun h => absurd (Nat.le_refl _) h)
    refine V_aload_n rfl (by first | rfl | assumption) ?_
    refine V_iload_n rfl (by first | rfl | assumption) ?_
    refine V_callV (M' := mX12_carry) (mc := 0) (ms := 0) (bc' := 0) (bs' := 0) rfl cw_X12_162 iv_X12_carry (by repeat (first | exact hup_eq | assumption | refine Eq.trans (hup_ne (by first | assumption | exact Ne.symm (by assumption) | decide | omega)) ?_)) rfl rfl (Nat.le_of_ble_eq_true rfl) ⟨Nat.le_of_ble_eq_true rfl, Nat.le_of_ble_eq_true rfl⟩ ⟨Nat.le_of_ble_eq_true rfl, Nat.le_of_ble_eq_true rfl⟩ (As := [.int (nI to)]) (c_mcarry (D := ovw D (17 * to) 17 (fun k => cv x y 17 17 k + 19 * cv x y 17 17 (k + 17))) (Q := fun o G' => o = .inl none ∧ Q o G') (by repeat (first | exact hup_eq | assumption | refine Eq.trans (hup_ne (by first | assumption | exact Ne.symm (by assumption) | decide | omega)) ?_)) (by repeat (first | exact hup_eq | assumption | refine Eq.trans (hup_ne (by first | assumption | exact Ne.symm (by assumption) | decide | omega)) ?_)) hto (fun k hk => ?_) (fun z h1 h2 => ⟨rfl, ?_⟩)) (fun o G' h => ?_) (fun E G' h => by cases h.1)
    · have h1 := cv_lt hA1 hB1 17 (by decide) k
      have h2 := cv_lt hA1 hB1 17 (by decide) (k + 17)
      rw [e2 k hk]
      omega
    · rw [hup_hup, ovw_ovw]
      rw [vs_congr e2, cv_fold p255'] at h2
      refine hq _ _ ((FP.rf.hup (Or.inr rfl)).hup (Or.inl rfl)) ⟨hup_eq, w, (hup_ne (by decide)).trans hup_eq⟩ dO_ovw (dH_ovw h1 ?_)
      exact mulP_of h2 hA2 hB2
    · obtain ⟨h0, h⟩ := h
      cases h0
      exact V_vret rfl rfl h
end MDig
