/-! rows of longs that are natural numbers -/
abbrev LA (N : Nat) (g : Nat → Nat) : kE := .inl (2, N, .inr (.inl (fun j => lN (g j))))
section KL
variable {K : kK} {bc bs : Nat} {M : kM} {pc n t : Nat} {lc : kLo} {st : List Value} {G : kG} {Q : kO → kG → Prop}
theorem V_laldN {a N j : Nat} {g : Nat → Nat} {i : Int32} (h : kf M pc = some (.laload, n, t)) (ha : G.1 a = some (LA N g)) (hi : i = nI j) (hj : j < N) (hN : N < 2 ^ 31) (kk : V K bc bs M n lc (.long (lN (g j)) :: st) G Q) : V K bc bs M pc lc (.int i :: .ref a :: st) G Q := V_laldJ h ha hi hj hN kk
theorem V_lastN {a N j x : Nat} {g : Nat → Nat} {i : Int32} (h : kf M pc = some (.lastore, n, t)) (ha : G.1 a = some (LA N g)) (hi : i = nI j) (hj : j < N) (hN : N < 2 ^ 31) (kk : V K bc bs M n lc st (hup G a (LA N (updN g j x))) Q) : V K bc bs M pc lc (.long (lN x) :: .int i :: .ref a :: st) G Q := by
  refine V_lastJ h ha hi hj hN ?_
  rw [updL_N]
  exact kk
theorem V_laddN {x y : Nat} (h : kf M pc = some (.ladd, n, t)) (kk : V K bc bs M n lc (.long (lN (x + y)) :: st) G Q) : V K bc bs M pc lc (.long (lN y) :: .long (lN x) :: st) G Q := by
  refine V_ladd h ?_
  rw [lN_add]; exact kk
theorem V_lmulN {x y : Nat} (h : kf M pc = some (.lmul, n, t)) (kk : V K bc bs M n lc (.long (lN (x * y)) :: st) G Q) : V K bc bs M pc lc (.long (lN y) :: .long (lN x) :: st) G Q := by
  refine V_lmul h ?_
  rw [lN_mul]; exact kk
theorem V_lsubN {x y : Nat} (h : kf M pc = some (.lsub, n, t)) (hle : y ≤ x) (kk : V K bc bs M n lc (.long (lN (x - y)) :: st) G Q) : V K bc bs M pc lc (.long (lN y) :: .long (lN x) :: st) G Q := by
  refine V_lsub h ?_
  rw [lN_sub hle]; exact kk
theorem V_lshrN {x : Nat} {y : Int32} (k : Nat) (h : kf M pc = some (.lshr, n, t)) (hy : ((y.toInt64 &&& 63).toBitVec.smod 64).toNat = k) (hx : x < 2 ^ 62) (kk : V K bc bs M n lc (.long (lN (x / 2 ^ k)) :: st) G Q) : V K bc bs M pc lc (.int y :: .long (lN x) :: st) G Q := by
  refine V_lshr h ?_
  rw [pf_shr hy hx]; exact kk
theorem V_landN {x m : Nat} (k : Nat) (h : kf M pc = some (.land, n, t)) (hm : 2 ^ k - 1 = m) (hk : k < 64) (hx : x < 2 ^ 64) (kk : V K bc bs M n lc (.long (lN (x % 2 ^ k)) :: st) G Q) : V K bc bs M pc lc (.long (lN m) :: .long (lN x) :: st) G Q := by
  subst hm
  refine V_land h ?_
  rw [g_mask rfl hk hx]; exact kk
theorem c_fillL {a N v : Nat} {g : Nat → Nat} (ha : G.1 a = some (LA N g)) (hN : N < 2 ^ 30) (hq : Q (.inl none) (hup G a (LA N (fun j => if j < N then v else g j)))) : C K 0 0 mJ7_fill_d0a16 [.ref a, .long (lN v)] G Q := by
  refine C_of okJ7_fill_d0a16 (Nat.le_of_ble_eq_true rfl) ?_
  refine V_iconst (v := 0) rfl (by decide) ?_
  refine V_istore_n rfl (by decide) ?_
  refine V_aload_n rfl (by first | rfl | assumption) ?_
  refine V_alen rfl (by repeat (first | exact hup_eq | assumption | refine Eq.trans (hup_ne (by first | assumption | exact Ne.symm (by assumption) | decide)) ?_)) (by decide) ?_
  refine V_istore rfl (by decide) ?_
  refine V_loop N (fun i lc G' => lc 0 = some (.ref a) ∧ lc 1 = some (.long (lN v)) ∧ lc 2 = some kmk ∧ lc 3 = some (.int (nI i)) ∧ lc 4 = some (.int (nI N)) ∧ G' = hup G a (LA N (fun j => if j < i then v else g j))) ?_ ?_ 0 _ _ (Nat.zero_le _) ⟨rfl, rfl, rfl, rfl, rfl, (hup_same (by simpa using ha)).symm⟩
  · rintro i lc G' hi ⟨l0, l1, l2, l3, l4, rfl⟩ ih
    refine V_iload_n rfl (by first | rfl | assumption) ?_
    refine V_iload rfl (by first | rfl | assumption) ?_
    refine V_icmp_ge rfl (fun h => absurd h (nI_ge hi (by omega))) (fun _ => ?_)
    refine V_aload_n rfl (by first | rfl | assumption) ?_
    refine V_iload_n rfl (by first | rfl | assumption) ?_
    refine V_lload_n rfl (by first | rfl | assumption) (by first | rfl | assumption) ?_
    refine V_lastN rfl hup_eq rfl hi (by omega) ?_
    rw [hup_hup]
    refine V_iinc rfl (by first | rfl | assumption) rfl (by decide) ?_
    refine V_goto rfl ?_
    refine ih _ _ ⟨l0, l1, l2, congrArg (fun z => some (Value.int z)) (nI_1 i), l4, ?_⟩
    congr 2
    funext j
    simp only [updN]
    by_cases h1 : j = i
    · subst h1; simp
    · by_cases h2 : j < i
      · simp [h1, h2, show j < i + 1 by omega]
      · simp [h1, h2, show ¬ j < i + 1 by omega]
  · rintro lc G' ⟨l0, l1, l2, l3, l4, rfl⟩
    refine V_iload_n rfl (by first | rfl | assumption) ?_
    refine V_iload rfl (by first | rfl | assumption) ?_
    refine V_icmp_ge rfl (fun _ => ?_) (fun h => absurd (nI_le (Nat.le_refl N) (by omega)) h)
    exact V_vret rfl rfl hq
end KL
