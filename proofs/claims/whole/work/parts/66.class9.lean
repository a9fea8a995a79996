section CClass9
variable {K : kK} {bc bs : Nat} {M : kM} {pc n t : Nat} {lc : kLo} {st : List Value} {G : kG} {Q : kO → kG → Prop}
theorem V_if_eqB {b : Bool} {o : Int} (h : kf M pc = some (.ifCond .eq o, n, t)) (k : b = false → V K bc bs M t lc st G Q) (k2 : b = true → V K bc bs M n lc st G Q) : V K bc bs M pc lc (.int (bI b) :: st) G Q := by
  cases b with
  | false => exact V_if_eq h (fun _ => k rfl) (fun q => absurd rfl q)
  | true => exact V_if_eq h (fun q => absurd q (by decide)) (fun _ => k2 rfl)
theorem V_if_neB {b : Bool} {o : Int} (h : kf M pc = some (.ifCond .ne o, n, t)) (k : b = true → V K bc bs M t lc st G Q) (k2 : b = false → V K bc bs M n lc st G Q) : V K bc bs M pc lc (.int (bI b) :: st) G Q := by
  cases b with
  | false => exact V_if_ne h (fun q => absurd rfl q) (fun _ => k2 rfl)
  | true => exact V_if_ne h (fun _ => k rfl) (fun q => absurd q (by decide))
theorem V_lookupN {d o : Int} {ps : Array (Int × Int)} {m g : Nat} (h : kf M pc = some (.lookupswitch d ps, n, t)) (hp : (ps.toList.zip (ps.toList.drop 1)).all (fun (a, next) => a.1 < next.1) = true) (hm : m < 2 ^ 31) (ho : Op.lookupswitch.offset ps.toList d (m : Int) = o) (ht : (pc : Int) + o = (g : Int)) (k : V K bc bs M g lc st G Q) : V K bc bs M pc lc (.int (nI m) :: st) G Q :=
  V_lookup h hp (by rw [nI_toInt hm]; exact ho) ht k
set_option maxHeartbeats 16000000 in
theorem c_isInPlace {e : Nat} {S : SG} {c : List Nat} (he : e < 2) (h : RC S G) (hi : Rw G 132 133 200 c) (hc : 1 ≤ c.length) (hb : gD c 0 < 256) (hq : Q (.inl (some (.int (bI (inP S e c))))) G) : C K 0 0 mX11_isInPlace [.ref 0, .ref (EB e), .int (nI (gD c 0))] G Q := by
  obtain ⟨tp, sp, g0⟩ := h.sw
  have hEe : EB e = 32 + 46 * e := rfl
  obtain ⟨x1, -, -, -, x5, -, -, k1, -⟩ := h.2 e he
  have i1 := hi.1
  have i2 := hi.2.1
  have hr : ∀ b, inP S e c = b → Q (.inl (some (.int (bI b)))) G := fun b q => by rw [← q]; exact hq
  obtain ⟨m, hm⟩ : ∃ m, m = gD c 0 := ⟨_, rfl⟩
  rw [← hm] at hb ⊢
  refine C_of okX11_isInPlace (Nat.le_of_ble_eq_true rfl) ?_
  refine V_aload_n rfl (by first | rfl | assumption) ?_
  refine V_getf rfl rfl rfl (by repeat (first | exact hup_eq | assumption | refine Eq.trans (hup_ne (by first | assumption | exact Ne.symm (by assumption) | decide | omega)) ?_)) (by first | rfl | assumption) ?_
  refine V_astore_n rfl (by decide) ?_
  refine V_aload_n rfl (by first | rfl | assumption) ?_
  refine V_getf rfl rfl rfl (by repeat (first | exact hup_eq | assumption | refine Eq.trans (hup_ne (by first | assumption | exact Ne.symm (by assumption) | decide | omega)) ?_)) (by first | rfl | assumption) ?_
  refine V_getf rfl rfl rfl (by repeat (first | exact hup_eq | assumption | refine Eq.trans (hup_ne (by first | assumption | exact Ne.symm (by assumption) | decide | omega)) ?_)) (by first | rfl | assumption) ?_
  refine V_istore rfl (by decide) ?_
  refine V_iload_n rfl (by first | rfl | assumption) ?_

  by_cases m20 : m = 20
  · have mm : gD c 0 = 20 := by rw [← hm]; exact m20
    rw [m20]
    refine V_lookupN rfl (by decide) (by decide) (o := 49) rfl (g := 64) (by decide) ?_
    refine V_iload rfl (by first | rfl | assumption) ?_
    refine V_bipush (v := nI 9) rfl (by decide) ?_
    refine V_icmp_neN rfl (by omega) (by decide) (fun q => ?_) (fun q => ?_)
    · refine V_iconst (v := 0) rfl (by decide) ?_
      exact V_zret rfl rfl (Or.inl rfl) (hr false (by unfold inP; simp [mm, q]))
    · refine V_aload_n rfl (by first | rfl | assumption) ?_
      refine V_getf rfl rfl rfl (by repeat (first | exact hup_eq | assumption | refine Eq.trans (hup_ne (by first | assumption | exact Ne.symm (by assumption) | decide | omega)) ?_)) (by first | rfl | assumption) ?_
      refine V_if_neB rfl (fun q2 => ?_) (fun q2 => ?_)
      · refine V_iconst (v := 0) rfl (by decide) ?_
        exact V_zret rfl rfl (Or.inl rfl) (hr false (by unfold inP; simp [mm, q2]))
      · refine V_iconst (v := 1) rfl (by decide) ?_
        refine V_goto rfl ?_
        exact V_zret rfl rfl (Or.inr rfl) (hr true (by unfold inP; simp [mm, q, q2]))

  by_cases m21 : m = 21
  · have mm : gD c 0 = 21 := by rw [← hm]; exact m21
    rw [m21]
    refine V_lookupN rfl (by decide) (by decide) (o := 69) rfl (g := 84) (by decide) ?_
    refine V_iload rfl (by first | rfl | assumption) ?_
    refine V_iconst (v := nI 1) rfl (by decide) ?_
    refine V_icmp_neN rfl (by omega) (by decide) (fun q => ?_) (fun q => ?_)
    · refine V_iconst (v := 0) rfl (by decide) ?_
      exact V_zret rfl rfl (Or.inl rfl) (hr false (by unfold inP; simp [mm, q]))
    · refine V_aload_n rfl (by first | rfl | assumption) ?_
      refine V_getf rfl rfl rfl (by repeat (first | exact hup_eq | assumption | refine Eq.trans (hup_ne (by first | assumption | exact Ne.symm (by assumption) | decide | omega)) ?_)) (by first | rfl | assumption) ?_
      refine V_if_eqB rfl (fun q2 => ?_) (fun q2 => ?_)
      · refine V_iconst (v := 0) rfl (by decide) ?_
        exact V_zret rfl rfl (Or.inl rfl) (hr false (by unfold inP; simp [mm, q2]))
      · refine V_iconst (v := 1) rfl (by decide) ?_
        refine V_goto rfl ?_
        exact V_zret rfl rfl (Or.inr rfl) (hr true (by unfold inP; simp [mm, q, q2]))

  by_cases m30 : m = 30
  · have mm : gD c 0 = 30 := by rw [← hm]; exact m30
    rw [m30]
    refine V_lookupN rfl (by decide) (by decide) (o := 88) rfl (g := 103) (by decide) ?_
    refine V_iload rfl (by first | rfl | assumption) ?_
    refine V_bipush (v := nI 33) rfl (by decide) ?_
    refine V_icmp_neN rfl (by omega) (by decide) (fun q => ?_) (fun q => ?_)
    · refine V_iconst (v := 0) rfl (by decide) ?_
      exact V_zret rfl rfl (Or.inl rfl) (hr false (by unfold inP; simp [mm, q]))
    · refine V_aload_n rfl (by first | rfl | assumption) ?_
      refine V_aload_n rfl (by first | rfl | assumption) ?_
      refine V_getf rfl rfl rfl (by repeat (first | exact hup_eq | assumption | refine Eq.trans (hup_ne (by first | assumption | exact Ne.symm (by assumption) | decide | omega)) ?_)) (by first | rfl | assumption) ?_
      refine V_acmp_ne rfl (by omega) (by decide) (fun q1 => ?_) (fun q1 => ?_)
      · refine V_iconst (v := 0) rfl (by decide) ?_
        exact V_zret rfl rfl (Or.inl rfl) (hr false (by unfold inP; simp [mm]; omega))
      · have e1 : e = 1 := by omega
        refine V_aload_n rfl (by first | rfl | assumption) ?_
        refine V_getf rfl rfl rfl (by repeat (first | exact hup_eq | assumption | refine Eq.trans (hup_ne (by first | assumption | exact Ne.symm (by assumption) | decide | omega)) ?_)) (by first | rfl | assumption) ?_
        refine V_if_eqB rfl (fun q2 => ?_) (fun q2 => ?_)
        · refine V_iconst (v := 0) rfl (by decide) ?_
          exact V_zret rfl rfl (Or.inl rfl) (hr false (by unfold inP; simp [mm, q2]))
        · refine V_aload_n rfl (by first | rfl | assumption) ?_
          refine V_getf rfl rfl rfl (by repeat (first | exact hup_eq | assumption | refine Eq.trans (hup_ne (by first | assumption | exact Ne.symm (by assumption) | decide | omega)) ?_)) (by first | rfl | assumption) ?_
          refine V_if_eqB rfl (fun q3 => ?_) (fun q3 => ?_)
          · refine V_iconst (v := 0) rfl (by decide) ?_
            exact V_zret rfl rfl (Or.inl rfl) (hr false (by unfold inP; simp [mm, q3]))
          · refine V_aload_n rfl (by first | rfl | assumption) ?_
            refine V_getf rfl rfl rfl (by repeat (first | exact hup_eq | assumption | refine Eq.trans (hup_ne (by first | assumption | exact Ne.symm (by assumption) | decide | omega)) ?_)) (by first | rfl | assumption) ?_
            refine V_if_neB rfl (fun q4 => ?_) (fun q4 => ?_)
            · refine V_iconst (v := 0) rfl (by decide) ?_
              exact V_zret rfl rfl (Or.inl rfl) (hr false (by unfold inP; simp [mm, q4]))
            · refine V_iconst (v := 1) rfl (by decide) ?_
              refine V_goto rfl ?_
              exact V_zret rfl rfl (Or.inr rfl) (hr true (by unfold inP; simp [mm, q, q2, q3, q4]; exact e1))

  by_cases m31 : m = 31
  · have mm : gD c 0 = 31 := by rw [← hm]; exact m31
    rw [m31]
    refine V_lookupN rfl (by decide) (by decide) (o := 130) rfl (g := 145) (by decide) ?_
    refine V_iload rfl (by first | rfl | assumption) ?_
    refine V_bipush (v := nI 97) rfl (by decide) ?_
    refine V_icmp_neN rfl (by omega) (by decide) (fun q => ?_) (fun q => ?_)
    · refine V_iconst (v := 0) rfl (by decide) ?_
      exact V_zret rfl rfl (Or.inl rfl) (hr false (by unfold inP; simp [mm, q]))
    · refine V_aload_n rfl (by first | rfl | assumption) ?_
      refine V_aload_n rfl (by first | rfl | assumption) ?_
      refine V_getf rfl rfl rfl (by repeat (first | exact hup_eq | assumption | refine Eq.trans (hup_ne (by first | assumption | exact Ne.symm (by assumption) | decide | omega)) ?_)) (by first | rfl | assumption) ?_
      refine V_acmp_ne rfl (by omega) (by decide) (fun q1 => ?_) (fun q1 => ?_)
      · refine V_iconst (v := 0) rfl (by decide) ?_
        exact V_zret rfl rfl (Or.inl rfl) (hr false (by unfold inP; simp [mm]; omega))
      · have e1 : e = 0 := by omega
        refine V_aload_n rfl (by first | rfl | assumption) ?_
        refine V_getf rfl rfl rfl (by repeat (first | exact hup_eq | assumption | refine Eq.trans (hup_ne (by first | assumption | exact Ne.symm (by assumption) | decide | omega)) ?_)) (by first | rfl | assumption) ?_
        refine V_if_eqB rfl (fun q2 => ?_) (fun q2 => ?_)
        · refine V_iconst (v := 0) rfl (by decide) ?_
          exact V_zret rfl rfl (Or.inl rfl) (hr false (by unfold inP; simp [mm, q2]))
        · refine V_aload_n rfl (by first | rfl | assumption) ?_
          refine V_getf rfl rfl rfl (by repeat (first | exact hup_eq | assumption | refine Eq.trans (hup_ne (by first | assumption | exact Ne.symm (by assumption) | decide | omega)) ?_)) (by first | rfl | assumption) ?_
          refine V_if_neB rfl (fun q4 => ?_) (fun q4 => ?_)
          · refine V_iconst (v := 0) rfl (by decide) ?_
            exact V_zret rfl rfl (Or.inl rfl) (hr false (by unfold inP; simp [mm, q4]))
          · refine V_iconst (v := 1) rfl (by decide) ?_
            refine V_goto rfl ?_
            exact V_zret rfl rfl (Or.inr rfl) (hr true (by unfold inP; simp [mm, q, q2, q4]; exact e1))

  by_cases m94 : m = 94
  · have mm : gD c 0 = 94 := by rw [← hm]; exact m94
    rw [m94]
    refine V_lookupN rfl (by decide) (by decide) (o := 165) rfl (g := 180) (by decide) ?_
    obtain ⟨r1, r2, rb, r3, r4, r5⟩ := x5
    refine V_aload_n rfl (by first | rfl | assumption) ?_
    refine V_getf rfl rfl rfl (by repeat (first | exact hup_eq | assumption | refine Eq.trans (hup_ne (by first | assumption | exact Ne.symm (by assumption) | decide | omega)) ?_)) (by first | rfl | assumption) ?_
    refine V_if_neB rfl (fun q => ?_) (fun q => ?_)
    · refine V_iconst (v := 0) rfl (by decide) ?_
      exact V_zret rfl rfl (Or.inl rfl) (hr false (by unfold inP; simp [mm, q]))
    · refine V_aload_n rfl (by first | rfl | assumption) ?_
      refine V_getf rfl rfl rfl (by repeat (first | exact hup_eq | assumption | refine Eq.trans (hup_ne (by first | assumption | exact Ne.symm (by assumption) | decide | omega)) ?_)) (by first | rfl | assumption) ?_
      refine V_iload rfl (by first | rfl | assumption) ?_
      refine V_iconst (v := nI 1) rfl (by decide) ?_
      refine V_isubN rfl (by first | omega | decide) ?_
      refine V_callV (M' := mX6_hasRoom) (mc := 0) (ms := 0) (bc' := 0) (bs' := 0) rfl cw_X11_80 iv_X6_hasRoom (by repeat (first | exact hup_eq | assumption | refine Eq.trans (hup_ne (by first | assumption | exact Ne.symm (by assumption) | decide | omega)) ?_)) rfl rfl (Nat.le_of_ble_eq_true rfl) ⟨Nat.le_of_ble_eq_true rfl, Nat.le_of_ble_eq_true rfl⟩ ⟨Nat.le_of_ble_eq_true rfl, Nat.le_of_ble_eq_true rfl⟩ (As := [.int (nI (c.length - 1))]) (c_Row_hasRoom (Q := fun o G' => o = .inl (some (.int (bI (decide ((gt (S.1 e)).length + c.length - 1 ≤ 2000))))) ∧ G' = G) r1 r3 ⟨?_, rfl⟩) (fun o G' h => ?_) (fun E G' h => by cases h.1)
      · rw [nI_add]
        by_cases z : (gt (S.1 e)).length + c.length - 1 ≤ 2000
        · rw [if_neg (nI_nlt (by omega) (by omega)), decide_eq_true z]; rfl
        · rw [if_pos (nI_lt (by omega) (by omega)), decide_eq_false z]; rfl
      obtain ⟨h0, rfl⟩ := h
      cases h0
      refine V_if_eqB rfl (fun q2 => ?_) (fun q2 => ?_)
      · refine V_iconst (v := 0) rfl (by decide) ?_
        exact V_zret rfl rfl (Or.inl rfl) (hr false (by unfold inP; simp only [mm]; simp [q]; simpa using q2))
      · refine V_iconst (v := 1) rfl (by decide) ?_
        refine V_goto rfl ?_
        exact V_zret rfl rfl (Or.inr rfl) (hr true (by unfold inP; simp only [mm]; simp [q]; simpa using q2))

  refine V_lookupN rfl (by decide) (by omega) (o := 192) ?_ (g := 207) (by decide) ?_
  · simp only [Op.lookupswitch.offset]
    rw [if_neg (by omega), if_neg (by omega), if_neg (by omega), if_neg (by omega), if_neg (by omega)]
  · refine V_iconst (v := 1) rfl (by decide) ?_
    exact V_zret rfl rfl (Or.inr rfl) (hr true (by unfold inP; rw [← hm, if_neg m20, if_neg m21, if_neg m30, if_neg m31, if_neg m94]))
end CClass9
