section CClass14
variable {K : kK} {G : kG} {Q : kO → kG → Prop}
def bnd (S : SG) (B : Nat) : Prop := ∀ k, k < 2 → ∀ i, i < 3 → nm (S.1 k) i ≤ B
theorem bnd.mono {S : SG} {B B' : Nat} (h : bnd S B) (hb : B ≤ B') : bnd S B' := fun k hk i hi => Nat.le_trans (h k hk i hi) hb
theorem bnd.x_sE {S : SG} {B e : Nat} {s : ES} (h : bnd S B) (hs : ∀ i, i < 3 → nm s i ≤ B) : bnd (sE S e s) B := by
  intro k hk i hi
  by_cases z : k = e
  · subst z; rw [sE_get]; exact hs i hi
  · rw [sE_ne z]; exact h k hk i hi
theorem bnd.at {S : SG} {B e : Nat} (h : bnd S B) (he : e < 2) : ∀ i, i < 3 → nm (S.1 e) i ≤ B := h e he
theorem bnd.x_emt {T : TB} {S : SG} {B e : Nat} {p : List Nat} (he : e < 2) (h : bnd S B) : bnd (emt T S e p) (B + 1) := by
  unfold emt
  split
  · exact h.mono (Nat.le_succ B)
  split
  · exact (h.mono (Nat.le_succ B)).x_sE (fun i hi => Nat.le_succ_of_le (h e he i hi))
  · refine bnd.x_sE ((h.mono (Nat.le_succ B)).x_sE (fun i hi => Nat.le_succ_of_le (h (1 - e) (by omega) i hi))) (fun i hi => ?_)
    show up _ 0 _ i ≤ _
    by_cases z : i = 0
    · subst z; rw [up_eq]; exact Nat.succ_le_succ (h e he 0 (by decide))
    · rw [up_ne z]; exact Nat.le_succ_of_le (h e he i hi)
theorem bnd.x_gvu {T : TB} {S : SG} {B e : Nat} (he : e < 2) (h : bnd S B) : bnd (gvu T S e) (B + 1) := by
  unfold gvu
  exact (h.x_emt he).x_sE (fun i hi => h.x_emt he e he i hi)
theorem bnd.x_bgn {T : TB} {S : SG} {B e : Nat} (he : e < 2) (h : bnd S B) : bnd (bgn T S e) (B + 1) := by
  unfold bgn wIn
  refine bnd.x_emt he (h.x_sE (fun i hi => ?_))
  exact h e he i hi
theorem bnd.x_onI {T : TB} {S : SG} {B e : Nat} {c : List Nat} (he : e < 2) (h : bnd S B) : bnd (onI T S e c) (B + 2) := by
  have h1 : bnd (sE S e (sfl (srw (S.1 e) 5 (gD c)) 3 true)) B := h.x_sE (fun i hi => h e he i hi)
  have h2 : ∀ S1, bnd S1 B → bnd (if fl (S1.1 e) 2 then S1 else bgn T S1 e) (B + 1) := by
    intro S1 h1
    split
    · exact h1.mono (by omega)
    · exact h1.x_bgn he
  have h3 := h2 _ h1
  unfold onI
  simp only
  split
  · refine bnd.x_emt (by decide) ?_
    have h4 : bnd (tks (if fl ((sE S e (sfl (srw (S.1 e) 5 (gD c)) 3 true)).1 e) 2 then sE S e (sfl (srw (S.1 e) 5 (gD c)) 3 true) else bgn T (sE S e (sfl (srw (S.1 e) 5 (gD c)) 3 true)) e) 0) (B + 1) := h3.x_sE (fun i hi => h3 0 (by decide) i hi)
    exact h4.x_sE (fun i hi => h4 0 (by decide) i hi)
  · exact h3.mono (by omega)
theorem tnk_nm {T : TB} {s : ES} {sh H : Nat → Nat} {sm cm : Nat} : (tnk T s sh H sm cm).2.1 = s.2.1 := by
  unfold tnk
  simp only
  split <;> rfl
theorem bnd.x_onR {T : TB} {S : SG} {B : Nat} {c : List Nat} (h : bnd S B) : bnd (onR T S c) (B + 2) := by
  unfold onR
  simp only
  refine bnd.x_sE ?_ (fun i hi => ?_)
  · refine bnd.x_emt (by decide) (bnd.x_emt (by decide) ?_)
    have h1 : bnd (sE S 1 (sfl (S.1 1) 4 true)) B := h.x_sE (fun i hi => h 1 (by decide) i hi)
    exact h1.x_sE (fun i hi => h1 1 (by decide) i hi)
  · unfold nm
    rw [tnk_nm]
    have h1 : bnd (sE S 1 (sfl (S.1 1) 4 true)) B := h.x_sE (fun i hi => h 1 (by decide) i hi)
    have h2 : bnd (tks (sE S 1 (sfl (S.1 1) 4 true)) 1) B := h1.x_sE (fun i hi => h1 1 (by decide) i hi)
    exact (h2.x_emt (by decide)).x_emt (by decide) 1 (by decide) i hi
theorem bnd.x_aRp {T : TB} {S : SG} {B : Nat} {c : List Nat} (h : bnd S B) : bnd (aRp T S c) (B + 2) := by
  have h1 : bnd (sE S 0 (sfl (S.1 0) 8 true)) B := h.x_sE (fun i hi => h 0 (by decide) i hi)
  unfold aRp
  simp only
  split
  · refine bnd.x_sE ((h1.x_emt (by decide)).mono (by omega)) (fun i hi => ?_)
    unfold nm
    rw [tnk_nm]
    exact Nat.le_succ_of_le (h1.x_emt (by decide) 0 (by decide) i hi)
  · exact (h1.x_gvu (by decide)).mono (by omega)
theorem bnd.x_act {T : TB} {S : SG} {B e q : Nat} {c : List Nat} (he : e < 2) (h : bnd S B) : bnd (act T S e c q) (B + 2) := by
  have h2 := h.mono (B' := B + 2) (by omega)
  unfold act
  split
  · exact h2.x_sE (fun i hi => h2 e he i hi)
  split
  · exact h2
  split
  · exact h2.x_sE (fun i hi => h2 e he i hi)
  split
  · exact h.x_onI he
  split
  · refine h2.x_sE (fun i hi => ?_)
    show up _ 2 _ i ≤ _
    by_cases z : i = 2
    · subst z; rw [up_eq]; have := h e he 2 (by decide); show nm (S.1 e) 2 + 1 ≤ _; omega
    · rw [up_ne z]; exact h2 e he i hi
  split
  · exact h.x_onR
  split
  · exact h.x_aRp
  split
  · exact h2.x_sE (fun i hi => h2 e he i hi)
  · exact (h.x_emt he).mono (by omega)
theorem bnd.x_dlv {T : TB} {S : SG} {B e : Nat} (he : e < 2) (h : bnd S B) : bnd (dlv T S e).2 (B + 4) := by
  unfold dlv
  split
  · exact h.mono (by omega)
  split
  · exact (h.mono (by omega)).x_sE (fun i hi => Nat.le_trans (h e he i hi) (by omega))
  have h1 : bnd (sE S e (snm (swi (S.1 e) ((wi (S.1 e)).drop 1)) 1 (nm (S.1 e) 1 + 1))) (B + 1) := by
    refine (h.mono (by omega)).x_sE (fun i hi => ?_)
    show up _ 1 _ i ≤ _
    by_cases z : i = 1
    · subst z; rw [up_eq]; exact Nat.succ_le_succ (h e he 1 (by decide))
    · rw [up_ne z]; exact Nat.le_succ_of_le (h e he i hi)
  generalize opn T _ _ _ _ _ = O
  generalize sE S e _ = S2 at h1
  cases O with
  | none => exact (h1.x_gvu he).mono (by omega)
  | some p =>
    show bnd (if _ then _ else _ : Int32 × SG).2 _
    split
    · exact (h1.x_act he).mono (by omega)
    · exact (h1.x_gvu he).mono (by omega)
theorem bnd.x_rnA {T : TB} {n : Nat} : ∀ (k : Nat) {S : SG} {B e m : Nat}, e < 2 → bnd S B → bnd (rnA T k n e m S).2 (B + 4 * k)
  | 0, S, B, e, m, he, h => h
  | k + 1, S, B, e, m, he, h => by
    unfold rnA
    split
    · split
      · exact (bnd.x_rnA k (by omega) h).mono (by omega)
      · exact (bnd.x_rnA k (by omega) (h.x_dlv he)).mono (by omega)
    · exact h.mono (by omega)
/-- what endOf comes to -/
def QE (x : Int32) (G : kG) (o : kO) (G1 : kG) : Prop := (∃ e : Nat, e < 2 ∧ x.toInt = (e : Int) ∧ o = .inl (some (.ref (EB e))) ∧ G1 = G) ∨ (o = .inr ENS ∧ ¬ (x.toInt = 0 ∨ x.toInt = 1) ∧ G1 = (G.1, none))
theorem c_endQ {S : SG} {x : Int32} (h : RC S G) : C K 1 6 mX11_endOf [.ref 0, .int x] G (QE x G) :=
  c_endOf h (fun e he hx => Or.inl ⟨e, he, hx, rfl, rfl⟩) (fun hx => Or.inr ⟨rfl, hx, rfl⟩)
theorem eok {e : Nat} (he : e < 2) : ¬ ¬ ((e : Int) = 0 ∨ (e : Int) = 1) := fun q => q (by omega)
set_option maxHeartbeats 4000000 in
theorem c_begin {S : SG} {T : TB} {x : Int32} {B : Nat} (hT : tbl K T) (h : RC S G) (hB : bnd S B) (hB2 : B < 2 ^ 20) (hq : ∀ G', Kp G G' → RC (aBg T S x.toInt).2.2 G' → Q (oV [ENS, EIS] (aBg T S x.toInt).1) G') : C K 2 12 mX11_begin [.ref 0, .int x] G Q := by
  obtain ⟨tp0, sp0, g0⟩ := h.sw
  refine C_of okX11_begin (Nat.le_of_ble_eq_true rfl) ?_
  refine V_aload_n rfl (by first | rfl | assumption) ?_
  refine V_iload_n rfl (by first | rfl | assumption) ?_
  refine V_callV (M' := mX11_endOf) (mc := 1) (ms := 6) (bc' := 1) (bs' := 6) rfl cw_X11_160 iv_X11_endOf (by repeat (first | exact hup_eq | assumption | refine Eq.trans (hup_ne (by first | assumption | exact Ne.symm (by assumption) | decide | omega)) ?_)) rfl rfl (Nat.le_of_ble_eq_true rfl) ⟨Nat.le_of_ble_eq_true rfl, Nat.le_of_ble_eq_true rfl⟩ ⟨Nat.le_of_ble_eq_true rfl, Nat.le_of_ble_eq_true rfl⟩ (As := [.int x]) (c_endQ h) (fun o G1 h1 => ?_) (fun E G' h1 => ?_)
  rotate_left
  · rcases h1 with ⟨e, a, b, c, d⟩ | ⟨a, b, rfl⟩
    · cases c
    · cases a
      have U : aBg T S x.toInt = (1, 0, S) := by unfold aBg; rw [if_pos b]
      rw [U] at hq
      exact hq _ Kp.rf.nn h.nn
  rcases h1 with ⟨e, he, hxe, a, rfl⟩ | ⟨a, _⟩
  rotate_left
  · cases a
  cases a
  rw [hxe] at hq
  have U0 : aBg T S (e : Int) = if fl (S.1 e) 0 = false ∨ fl (S.1 e) 2 = true then (2, 0, S) else (0, 0, bgn T S e) := by unfold aBg; rw [if_neg (eok he)]; rfl
  rw [U0] at hq
  have hEe : EB e = 32 + 46 * e := rfl
  have v1 := (h.2 e he).1
  have v8 := (h.2 e he).2.2.2.2.2.2.2.1
  refine V_astore_n rfl (by decide) ?_
  have bad : fl (S.1 e) 0 = false ∨ fl (S.1 e) 2 = true → V K 1 6 mX11_begin 23 (ls1 (kla [.ref 0, .int x]) 2 (.ref (EB e))) [] G1 Q := by
    intro z
    rw [if_pos z] at hq
    exact V_throw (E := EIS) rfl rfl rfl rfl (by decide +kernel) kl_X11_177 kk_X11_179 (Nat.le_of_ble_eq_true rfl) (Nat.le_of_ble_eq_true rfl) ⟨by decide, by decide⟩ (hq _ Kp.rf.nn h.nn)
  refine V_aload_n rfl (by first | rfl | assumption) ?_
  refine V_getf rfl rfl rfl (by repeat (first | exact hup_eq | assumption | refine Eq.trans (hup_ne (by first | assumption | exact Ne.symm (by assumption) | decide | omega)) ?_)) (by first | rfl | assumption) ?_
  refine V_if_eqB rfl (fun z => bad (Or.inl z)) (fun z0 => ?_)
  refine V_aload_n rfl (by first | rfl | assumption) ?_
  refine V_getf rfl rfl rfl (by repeat (first | exact hup_eq | assumption | refine Eq.trans (hup_ne (by first | assumption | exact Ne.symm (by assumption) | decide | omega)) ?_)) (by first | rfl | assumption) ?_
  refine V_getf rfl rfl rfl (by repeat (first | exact hup_eq | assumption | refine Eq.trans (hup_ne (by first | assumption | exact Ne.symm (by assumption) | decide | omega)) ?_)) (by first | rfl | assumption) ?_
  refine V_if_eqB rfl (fun z1 => ?_) (fun z => bad (Or.inr z))
  clear bad
  rw [if_neg (by rw [z0, z1]; decide)] at hq
  refine V_aload_n rfl (by first | rfl | assumption) ?_
  refine V_aload_n rfl (by first | rfl | assumption) ?_
  refine V_callV (M' := mX11_writeInit) (mc := 0) (ms := 0) (bc' := 1) (bs' := 6) rfl cw_X11_180 iv_X11_writeInit (by repeat (first | exact hup_eq | assumption | refine Eq.trans (hup_ne (by first | assumption | exact Ne.symm (by assumption) | decide | omega)) ?_)) rfl rfl (Nat.le_of_ble_eq_true rfl) ⟨Nat.le_of_ble_eq_true rfl, Nat.le_of_ble_eq_true rfl⟩ ⟨Nat.le_of_ble_eq_true rfl, Nat.le_of_ble_eq_true rfl⟩ (As := [.ref (EB e)]) (c_writeInit (S := S) (Q := fun o G2 => o = .inl none ∧ FP (fun j => (32 ≤ j ∧ j ≤ 123) ∨ j = 134 ∨ j = 135) G1 G2 ∧ RC (wIn S e) G2 ∧ Rw G2 134 135 200 (lst (oinit (S.1 e)) 9)) he h (fun G2 h1 h2 h3 => ⟨rfl, h1, h2, h3⟩)) (fun o G2 h1 => ?_) (fun E G' h => by cases h.1)
  obtain ⟨h0, F2, R2, r2⟩ := h1
  cases h0
  have q0 := F2.get (by omega) g0
  have hb2 : nm ((wIn S e).1 e) 0 < 2 ^ 31 := by
    have := hB e he 0 (by decide)
    show nm ((sE S e _).1 e) 0 < _
    rw [sE_get]
    show nm (S.1 e) 0 < _
    omega
  refine V_aload_n rfl (by first | rfl | assumption) ?_
  refine V_aload_n rfl (by first | rfl | assumption) ?_
  refine V_callV (M' := mX11_emit) (mc := 0) (ms := 0) (bc' := 1) (bs' := 6) rfl cw_X11_184 iv_X11_emit (by repeat (first | exact hup_eq | assumption | refine Eq.trans (hup_ne (by first | assumption | exact Ne.symm (by assumption) | decide | omega)) ?_)) rfl rfl (Nat.le_of_ble_eq_true rfl) ⟨Nat.le_of_ble_eq_true rfl, Nat.le_of_ble_eq_true rfl⟩ ⟨Nat.le_of_ble_eq_true rfl, Nat.le_of_ble_eq_true rfl⟩ (As := [.ref (EB e)]) (c_emit (T := T) (S := wIn S e) (p := lst (oinit (S.1 e)) 9) (Q := fun o G3 => o = .inl none ∧ FP (fun j => 19 ≤ j ∧ j ≤ 123) G2 G3 ∧ RC (emt T (wIn S e) e (lst (oinit (S.1 e)) 9)) G3) he hT R2 r2 hb2 (fun G3 h1 h2 => ⟨rfl, h1, h2⟩)) (fun o G3 h1 => ?_) (fun E G' h => by cases h.1)
  obtain ⟨h0, F3, R3⟩ := h1
  cases h0
  exact V_vret rfl rfl (hq _ ((F2.kp (fun x hx => by omega)).tr (F3.kp (fun x hx => by omega))) R3)
theorem c_come {S : SG} {T : TB} {x : Int32} {B : Nat} (hT : tbl K T) (h : RC S G) (hB : bnd S B) (hB2 : B < 2 ^ 20) (hq : ∀ G', Kp G G' → RC (aCm T S x.toInt).2.2 G' → Q (oI [ENS] (aCm T S x.toInt).1 (aCm T S x.toInt).2.1) G') : C K 1 6 mX11_come [.ref 0, .int x] G Q := by
  obtain ⟨tp0, sp0, g0⟩ := h.sw
  refine C_of okX11_come (Nat.le_of_ble_eq_true rfl) ?_
  refine V_aload_n rfl (by first | rfl | assumption) ?_
  refine V_aload_n rfl (by first | rfl | assumption) ?_
  refine V_iload_n rfl (by first | rfl | assumption) ?_
  refine V_callV (M' := mX11_endOf) (mc := 1) (ms := 6) (bc' := 0) (bs' := 0) rfl cw_X11_160 iv_X11_endOf (by repeat (first | exact hup_eq | assumption | refine Eq.trans (hup_ne (by first | assumption | exact Ne.symm (by assumption) | decide | omega)) ?_)) rfl rfl (Nat.le_of_ble_eq_true rfl) ⟨Nat.le_of_ble_eq_true rfl, Nat.le_of_ble_eq_true rfl⟩ ⟨Nat.le_of_ble_eq_true rfl, Nat.le_of_ble_eq_true rfl⟩ (As := [.int x]) (c_endQ h) (fun o G1 h1 => ?_) (fun E G' h1 => ?_)
  rotate_left
  · rcases h1 with ⟨e, a, b, c, d⟩ | ⟨a, b, rfl⟩
    · cases c
    · cases a
      have U : aCm T S x.toInt = (1, 0, S) := by unfold aCm; rw [if_pos b]
      rw [U] at hq
      exact hq _ Kp.rf.nn h.nn
  rcases h1 with ⟨e, he, hxe, a, rfl⟩ | ⟨a, _⟩
  rotate_left
  · cases a
  cases a
  rw [hxe] at hq
  have U0 : aCm T S (e : Int) = (0, (dlv T S e).1, (dlv T S e).2) := by unfold aCm; rw [if_neg (eok he)]; rfl
  rw [U0] at hq
  have hn : ∀ k, k < 2 → nm (S.1 k) 0 < 2 ^ 30 ∧ nm (S.1 k) 1 < 2 ^ 30 := fun k hk => by have := hB k hk 0 (by decide); have := hB k hk 1 (by decide); omega
  refine V_callV (M' := mX11_deliver) (mc := 0) (ms := 0) (bc' := 0) (bs' := 0) rfl cw_X11_191 iv_X11_deliver (by repeat (first | exact hup_eq | assumption | refine Eq.trans (hup_ne (by first | assumption | exact Ne.symm (by assumption) | decide | omega)) ?_)) rfl rfl (Nat.le_of_ble_eq_true rfl) ⟨Nat.le_of_ble_eq_true rfl, Nat.le_of_ble_eq_true rfl⟩ ⟨Nat.le_of_ble_eq_true rfl, Nat.le_of_ble_eq_true rfl⟩ (As := [.ref (EB e)]) (c_deliver (T := T) (S := S) (Q := fun o G2 => o = .inl (some (.int (dlv T S e).1)) ∧ Kp G1 G2 ∧ RC (dlv T S e).2 G2) he hT h hn (fun G2 h1 h2 => ⟨rfl, h1.kp (fun x hx => by omega), h2⟩)) (fun o G2 h1 => ?_) (fun E G' h => by cases h.1)
  obtain ⟨h0, k2, R2⟩ := h1
  cases h0
  exact V_iret rfl rfl (hq _ k2 R2)
set_option maxHeartbeats 4000000 in
theorem V_run {T : TB} {n B : Nat} (hT : tbl K T) (hn : n ≤ 50) (hB2 : B < 2 ^ 20) : ∀ (k m t : Nat) (S : SG) (G : kG) (lc : kLo), k + t = 2 * n → m ≤ n → lc 0 = some (.ref 0) → lc 1 = some (.int (nI n)) → lc 2 = some (.int (nI m)) → lc 3 = some (.int (nI t)) → RC S G → bnd S (B + 4 * t) → (∀ G', Kp G G' → RC (rnA T k n (1 - t % 2) m S).2 G' → Q (.inl (some (.int (nI (rnA T k n (1 - t % 2) m S).1)))) G') → V K 1 6 mX11_run 22 lc [] G Q := by
  intro k
  induction k with
  | zero =>
    intro m t S G lc hk hm l0 l1 l2 l3 h hB hq
    refine V_iload_n rfl (by first | rfl | assumption) ?_
    refine V_iconst (v := nI 2) rfl (by decide) ?_
    refine V_iload_n rfl (by first | rfl | assumption) ?_
    refine V_imulN rfl ?_
    refine V_icmp_geN rfl (by omega) (by omega) (fun _ => ?_) (fun z => absurd (by omega) z)
    refine V_iload_n rfl (by first | rfl | assumption) ?_
    exact V_iret rfl rfl (hq G Kp.rf h)
  | succ k ih =>
    intro m t S G lc hk hm l0 l1 l2 l3 h hB hq
    refine V_iload_n rfl (by first | rfl | assumption) ?_
    refine V_iconst (v := nI 2) rfl (by decide) ?_
    refine V_iload_n rfl (by first | rfl | assumption) ?_
    refine V_imulN rfl ?_
    refine V_icmp_geN rfl (by omega) (by omega) (fun z => absurd z (by omega)) (fun _ => ?_)
    refine V_iload_n rfl (by first | rfl | assumption) ?_
    refine V_iload_n rfl (by first | rfl | assumption) ?_
    refine V_icmp_geN rfl (by omega) (by omega) (fun z => ?_) (fun z => ?_)
    · have U : rnA T (k + 1) n (1 - t % 2) m S = (m, S) := by unfold rnA; rw [if_neg (by omega)]
      rw [U] at hq
      refine V_iload_n rfl (by first | rfl | assumption) ?_
      exact V_iret rfl rfl (hq G Kp.rf h)
    obtain ⟨e, he⟩ : ∃ e, e = 1 - t % 2 := ⟨_, rfl⟩
    have he2 : e < 2 := by omega
    rw [← he] at hq
    have het : 1 - (t + 1) % 2 = 1 - e := by omega
    have U : rnA T (k + 1) n e m S = if (wi (S.1 e)).length = 0 then rnA T k n (1 - e) m S else rnA T k n (1 - e) (m + 1) (dlv T S e).2 := by conv => lhs; unfold rnA; rw [if_pos (by omega)]
    rw [U] at hq
    obtain ⟨tp0, sp0, g0⟩ := h.sw
    have v1 := (h.2 e he2).1
    obtain ⟨fi, f, w1, w2, w3, -⟩ := id (h.2 e he2).2.2.2.2.2.1
    have go : ∀ lc' : kLo, lc' 0 = some (.ref 0) → lc' 1 = some (.int (nI n)) → lc' 2 = some (.int (nI m)) → lc' 3 = some (.int (nI t)) → lc' 4 = some (.ref (EB e)) → V K 1 6 mX11_run 53 lc' [] G Q := by
      intro lc' l0 l1 l2 l3 l4
      refine V_aload rfl (by first | rfl | assumption) ?_
      refine V_getf rfl rfl rfl (by repeat (first | exact hup_eq | assumption | refine Eq.trans (hup_ne (by first | assumption | exact Ne.symm (by assumption) | decide | omega)) ?_)) (by first | rfl | assumption) ?_
      refine V_getf rfl rfl rfl (by repeat (first | exact hup_eq | assumption | refine Eq.trans (hup_ne (by first | assumption | exact Ne.symm (by assumption) | decide | omega)) ?_)) (by first | rfl | assumption) ?_
      refine V_if_leN rfl (by omega) (fun z0 => ?_) (fun z0 => ?_)
      · rw [if_pos z0] at hq
        refine V_iincN (d := 1) rfl (by first | rfl | assumption) (by decide) (by decide) ?_
        refine V_goto rfl ?_
        exact ih m (t + 1) S G _ (by omega) hm l0 l1 l2 rfl h (hB.mono (by omega)) (by rw [het]; exact hq)
      · rw [if_neg (by omega)] at hq
        have hn : ∀ k, k < 2 → nm (S.1 k) 0 < 2 ^ 30 ∧ nm (S.1 k) 1 < 2 ^ 30 := fun k hk => by have := hB k hk 0 (by decide); have := hB k hk 1 (by decide); omega
        refine V_aload_n rfl (by first | rfl | assumption) ?_
        refine V_aload rfl (by first | rfl | assumption) ?_
        refine V_callV (M' := mX11_deliver) (mc := 0) (ms := 0) (bc' := 1) (bs' := 6) rfl cw_X11_191 iv_X11_deliver (by repeat (first | exact hup_eq | assumption | refine Eq.trans (hup_ne (by first | assumption | exact Ne.symm (by assumption) | decide | omega)) ?_)) rfl rfl (Nat.le_of_ble_eq_true rfl) ⟨Nat.le_of_ble_eq_true rfl, Nat.le_of_ble_eq_true rfl⟩ ⟨Nat.le_of_ble_eq_true rfl, Nat.le_of_ble_eq_true rfl⟩ (As := [.ref (EB e)]) (c_deliver (T := T) (S := S) (Q := fun o G2 => o = .inl (some (.int (dlv T S e).1)) ∧ Kp G G2 ∧ RC (dlv T S e).2 G2) he2 hT h hn (fun G2 h1 h2 => ⟨rfl, h1.kp (fun x hx => by omega), h2⟩)) (fun o G2 h1 => ?_) (fun E G' h => by cases h.1)
        obtain ⟨h0, k2, R2⟩ := h1
        cases h0
        refine V_pop rfl rfl ?_
        refine V_iincN (d := 1) rfl (by first | rfl | assumption) (by decide) (by decide) ?_
        refine V_iincN (d := 1) rfl (by first | rfl | assumption) (by decide) (by decide) ?_
        refine V_goto rfl ?_
        exact ih (m + 1) (t + 1) _ G2 _ (by omega) (by omega) l0 l1 rfl rfl R2 ((hB.x_dlv he2).mono (by omega)) (by rw [het]; exact fun G' a b => hq G' (k2.tr a) b)
    refine V_iload_n rfl (by first | rfl | assumption) ?_
    refine V_iconst (v := nI 2) rfl (by decide) ?_
    refine V_iremN rfl (by first | omega | decide) (by first | omega | decide) (by first | omega | decide) ?_
    refine V_if_neN rfl (by omega) (fun z1 => ?_) (fun z1 => ?_)
    · have e0 : e = 0 := by omega
      refine V_aload_n rfl (by assumption) ?_
      refine V_getf (v := .ref (EB e)) rfl rfl rfl g0 (by rw [e0]; rfl) ?_
      refine V_astore rfl (by decide) ?_
      exact go _ l0 l1 l2 l3 rfl
    · have e0 : e = 1 := by omega
      refine V_aload_n rfl (by assumption) ?_
      refine V_getf (v := .ref (EB e)) rfl rfl rfl g0 (by rw [e0]; rfl) ?_
      refine V_goto rfl ?_
      refine V_astore rfl (by decide) ?_
      exact go _ l0 l1 l2 l3 rfl
theorem c_run {S : SG} {T : TB} {x : Int32} {B : Nat} (hT : tbl K T) (h : RC S G) (hB : bnd S B) (hB2 : B < 2 ^ 20) (hq : ∀ G', Kp G G' → RC (aRn T S x.toInt).2.2 G' → Q (oI [EIA] (aRn T S x.toInt).1 (aRn T S x.toInt).2.1) G') : C K 1 6 mX11_run [.ref 0, .int x] G Q := by
  refine C_of okX11_run (Nat.le_of_ble_eq_true rfl) ?_
  have bad : x.toInt < 0 ∨ 50 < x.toInt → V K 1 6 mX11_run 10 (kla [.ref 0, .int x]) [] G Q := by
    intro z
    have U : aRn T S x.toInt = (1, 0, S) := by unfold aRn; rw [if_pos z]
    rw [U] at hq
    exact V_throw (E := EIA) rfl rfl rfl rfl (by decide +kernel) kl_X11_102 kk_X11_104 (Nat.le_of_ble_eq_true rfl) (Nat.le_of_ble_eq_true rfl) ⟨by decide, by decide⟩ (hq _ Kp.rf.nn h.nn)
  refine V_iload_n rfl (by rfl) ?_
  refine V_if_ltZ rfl rfl (fun z => bad (Or.inl z)) (fun z => ?_)
  refine V_iload_n rfl (by rfl) ?_
  refine V_bipush (v := 50) rfl (by decide) ?_
  refine V_icmp_leZ (b := 50) rfl rfl (by decide) (fun z2 => ?_) (fun z2 => bad (Or.inr (by omega)))
  clear bad
  obtain ⟨hc1, hc2⟩ := i32_n (x := x) (by omega)
  have U : aRn T S x.toInt = (0, nI (rnA T (2 * x.toInt.toNat) x.toInt.toNat 1 0 S).1, (rnA T (2 * x.toInt.toNat) x.toInt.toNat 1 0 S).2) := by unfold aRn; rw [if_neg (by omega)]
  rw [U] at hq
  obtain ⟨n, hn⟩ : ∃ n, n = x.toInt.toNat := ⟨_, rfl⟩
  rw [← hn] at hq hc1 hc2
  have hn50 : n ≤ 50 := by omega
  clear U z z2 hn
  subst hc1
  refine V_iconst (v := nI 0) rfl (by decide) ?_
  refine V_istore_n rfl (by decide) ?_
  refine V_iconst (v := nI 0) rfl (by decide) ?_
  refine V_istore_n rfl (by decide) ?_
  exact V_run hT hn50 hB2 (2 * n) 0 0 S G _ (by omega) (by omega) rfl rfl rfl rfl h hB hq
end CClass14
