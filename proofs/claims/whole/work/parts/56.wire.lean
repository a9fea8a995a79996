section CWire
variable {K : kK} {bc bs : Nat} {M : kM} {pc n t : Nat} {lc : kLo} {st : List Value} {G : kG} {Q : kO → kG → Prop}
theorem V_aaldJ {a N j q : Nat} {f : Nat → Option Nat} {i : Int32} (h : kf M pc = some (.aaload, n, t)) (ha : G.1 a = some (.inl (4, N, .inr (.inr (.inr (.inr f)))))) (hi : i = nI j) (hj : j < N) (hN : N < 2 ^ 31) (hq : f j = some q) (kk : V K bc bs M n lc (.ref q :: st) G Q) : V K bc bs M pc lc (.int i :: .ref a :: st) G Q := by
  subst hi
  refine V_aald h ha (vp_in_nI hj hN) (by rw [nI_clamp (by omega)]; exact hq) kk
abbrev AR (N : Nat) (f : Nat → Option Nat) : kE := .inl (4, N, .inr (.inr (.inr (.inr f))))
abbrev WIO (E fi n : Nat) : kE := .inr (9, [.ref (E + 7), .int (nI fi), .int (nI n)])
/-- the wire that leads to an end -/
def WR (E : Nat) (G : kG) (q : List (List Nat)) : Prop := ∃ fi f, fi < 12 ∧ q.length ≤ 12 ∧ G.1 (E + 6) = some (WIO E fi q.length) ∧ G.1 (E + 7) = some (AR 12 f) ∧ (∀ j, j < 12 → f j = some (E + 8 + 2 * j)) ∧ (∀ j, j < 12 → ∃ m b, G.1 (E + 8 + 2 * j) = some (ROB (E + 9 + 2 * j) m) ∧ G.1 (E + 9 + 2 * j) = some (BA 228 b)) ∧ ∀ i, i < q.length → Rw G (E + 8 + 2 * ((fi + i) % 12)) (E + 9 + 2 * ((fi + i) % 12)) 228 (q.getD i [])
theorem WR.fp {E : Nat} {G' : kG} {q : List (List Nat)} (h : WR E G q) (e : ∀ j, E + 6 ≤ j → j ≤ E + 31 → G'.1 j = G.1 j) : WR E G' q := by
  obtain ⟨fi, f, h1, h2, h3, h4, h5, h6, h7⟩ := h
  refine ⟨fi, f, h1, h2, (e _ (by omega) (by omega)).trans h3, (e _ (by omega) (by omega)).trans h4, h5, fun j hj => ?_, fun i hi => ?_⟩
  · obtain ⟨m, b, k1, k2⟩ := h6 j hj
    exact ⟨m, b, (e _ (by omega) (by omega)).trans k1, (e _ (by omega) (by omega)).trans k2⟩
  · exact (h7 i hi).fp (e _ (by omega) (by omega)) (e _ (by omega) (by omega))
theorem c_wat {E fi k c : Nat} {f : Nat → Option Nat} (g6 : G.1 (E + 6) = some (WIO E fi c)) (g7 : G.1 (E + 7) = some (AR 12 f)) (hf : ∀ j, j < 12 → f j = some (E + 8 + 2 * j)) (hfi : fi < 12) (hk : k < 2 ^ 20) (hq : Q (.inl (some (.ref (E + 8 + 2 * ((fi + k) % 12))))) G) : C K 0 0 mX10_at [.ref (E + 6), .int (nI k)] G Q := by
  refine C_of okX10_at (Nat.le_of_ble_eq_true rfl) ?_
  refine V_aload_n rfl (by first | rfl | assumption) ?_
  refine V_getf rfl rfl rfl (by repeat (first | exact hup_eq | assumption | refine Eq.trans (hup_ne (by first | assumption | exact Ne.symm (by assumption) | decide | omega)) ?_)) (by first | rfl | assumption) ?_
  refine V_aload_n rfl (by first | rfl | assumption) ?_
  refine V_getf rfl rfl rfl (by repeat (first | exact hup_eq | assumption | refine Eq.trans (hup_ne (by first | assumption | exact Ne.symm (by assumption) | decide | omega)) ?_)) (by first | rfl | assumption) ?_
  refine V_iload_n rfl (by first | rfl | assumption) ?_
  refine V_iaddN rfl ?_
  refine V_bipush (v := nI 12) rfl (by decide) ?_
  refine V_iremN rfl (by first | omega | decide) (by first | omega | decide) (by first | omega | decide) ?_
  refine V_aaldJ rfl g7 rfl (by omega) (by decide) (hf _ (by omega)) ?_
  exact V_aret rfl rfl (Or.inl ⟨_, rfl⟩) hq
theorem c_append {E fi c : Nat} {f : Nat → Option Nat} (g6 : G.1 (E + 6) = some (WIO E fi c)) (g7 : G.1 (E + 7) = some (AR 12 f)) (hf : ∀ j, j < 12 → f j = some (E + 8 + 2 * j)) (hfi : fi < 12) (hc : c < 12) (hq : Q (.inl (some (.ref (E + 8 + 2 * ((fi + c) % 12))))) (hup G (E + 6) (WIO E fi (c + 1)))) : C K 0 0 mX10_append [.ref (E + 6)] G Q := by
  refine C_of okX10_append (Nat.le_of_ble_eq_true rfl) ?_
  have ne : E + 7 ≠ E + 6 := by omega
  refine V_aload_n rfl (by first | rfl | assumption) ?_
  refine V_dup rfl rfl ?_
  refine V_getf rfl rfl rfl (by repeat (first | exact hup_eq | assumption | refine Eq.trans (hup_ne (by first | assumption | exact Ne.symm (by assumption) | decide | omega)) ?_)) (by first | rfl | assumption) ?_
  refine V_iconst (v := nI 1) rfl (by decide) ?_
  refine V_iaddN rfl ?_
  refine V_putf rfl rfl rfl rfl (by repeat (first | exact hup_eq | assumption | refine Eq.trans (hup_ne (by first | assumption | exact Ne.symm (by assumption) | decide | omega)) ?_)) (Nat.le_of_ble_eq_true rfl) (by first | exact ⟨rfl, rfl⟩ | (constructor <;> decide)) ?_
  show V K 0 0 _ _ _ _ (hup G (E + 6) (WIO E fi (c + 1))) Q
  obtain ⟨G1, h1⟩ : ∃ G1, G1 = hup G (E + 6) (WIO E fi (c + 1)) := ⟨_, rfl⟩
  rw [← h1] at hq ⊢
  have i6 : G1.1 (E + 6) = some (WIO E fi (c + 1)) := by rw [h1]; exact hup_eq
  have i7 : G1.1 (E + 7) = some (AR 12 f) := by rw [h1, hup_ne ne]; exact g7
  clear h1
  refine V_aload_n rfl (by first | rfl | assumption) ?_
  refine V_aload_n rfl (by first | rfl | assumption) ?_
  refine V_getf rfl rfl rfl (by repeat (first | exact hup_eq | assumption | refine Eq.trans (hup_ne (by first | assumption | exact Ne.symm (by assumption) | decide | omega)) ?_)) (by first | rfl | assumption) ?_
  refine V_iconst (v := nI 1) rfl (by decide) ?_
  refine V_isubN rfl (by first | omega | decide) ?_
  rw [show c + 1 - 1 = c by omega]
  refine V_callV (M' := mX10_at) (mc := 0) (ms := 0) (bc' := 0) (bs' := 0) rfl cw_X10_29 iv_X10_at (by repeat (first | exact hup_eq | assumption | refine Eq.trans (hup_ne (by first | assumption | exact Ne.symm (by assumption) | decide | omega)) ?_)) rfl rfl (Nat.le_of_ble_eq_true rfl) ⟨Nat.le_of_ble_eq_true rfl, Nat.le_of_ble_eq_true rfl⟩ ⟨Nat.le_of_ble_eq_true rfl, Nat.le_of_ble_eq_true rfl⟩ (As := [.int (nI c)]) (c_wat (E := E) (Q := fun o G2 => o = .inl (some (.ref (E + 8 + 2 * ((fi + c) % 12)))) ∧ G2 = G1) i6 i7 hf hfi (by omega) ⟨rfl, rfl⟩) (fun o G2 h => ?_) (fun E G' h => by cases h.1)
  obtain ⟨h0, rfl⟩ := h
  cases h0
  exact V_aret rfl rfl (Or.inl ⟨_, rfl⟩) hq
theorem c_removeFirst {E fi c : Nat} {f : Nat → Option Nat} (g6 : G.1 (E + 6) = some (WIO E fi c)) (g7 : G.1 (E + 7) = some (AR 12 f)) (hf : ∀ j, j < 12 → f j = some (E + 8 + 2 * j)) (hfi : fi < 12) (hc : 0 < c ∧ c ≤ 12) (hq : Q (.inl (some (.ref (E + 8 + 2 * fi)))) (hup G (E + 6) (WIO E ((fi + 1) % 12) (c - 1)))) : C K 0 0 mX10_removeFirst [.ref (E + 6)] G Q := by
  refine C_of okX10_removeFirst (Nat.le_of_ble_eq_true rfl) ?_
  have ne : E + 7 ≠ E + 6 := by omega
  refine V_aload_n rfl (by first | rfl | assumption) ?_
  refine V_getf rfl rfl rfl (by repeat (first | exact hup_eq | assumption | refine Eq.trans (hup_ne (by first | assumption | exact Ne.symm (by assumption) | decide | omega)) ?_)) (by first | rfl | assumption) ?_
  refine V_aload_n rfl (by first | rfl | assumption) ?_
  refine V_getf rfl rfl rfl (by repeat (first | exact hup_eq | assumption | refine Eq.trans (hup_ne (by first | assumption | exact Ne.symm (by assumption) | decide | omega)) ?_)) (by first | rfl | assumption) ?_
  refine V_aaldJ rfl g7 rfl hfi (by decide) (hf _ hfi) ?_
  refine V_astore_n rfl (by decide) ?_
  refine V_aload_n rfl (by first | rfl | assumption) ?_
  refine V_aload_n rfl (by first | rfl | assumption) ?_
  refine V_getf rfl rfl rfl (by repeat (first | exact hup_eq | assumption | refine Eq.trans (hup_ne (by first | assumption | exact Ne.symm (by assumption) | decide | omega)) ?_)) (by first | rfl | assumption) ?_
  refine V_iconst (v := nI 1) rfl (by decide) ?_
  refine V_iaddN rfl ?_
  refine V_bipush (v := nI 12) rfl (by decide) ?_
  refine V_iremN rfl (by first | omega | decide) (by first | omega | decide) (by first | omega | decide) ?_
  refine V_putf rfl rfl rfl rfl (by repeat (first | exact hup_eq | assumption | refine Eq.trans (hup_ne (by first | assumption | exact Ne.symm (by assumption) | decide | omega)) ?_)) (Nat.le_of_ble_eq_true rfl) (by first | exact ⟨rfl, rfl⟩ | (constructor <;> decide)) ?_
  refine V_aload_n rfl (by first | rfl | assumption) ?_
  refine V_dup rfl rfl ?_
  refine V_getf rfl rfl rfl (by repeat (first | exact hup_eq | assumption | refine Eq.trans (hup_ne (by first | assumption | exact Ne.symm (by assumption) | decide | omega)) ?_)) (by first | rfl | assumption) ?_
  refine V_iconst (v := nI 1) rfl (by decide) ?_
  refine V_isubN rfl (by first | omega | decide) ?_
  refine V_putf rfl rfl rfl rfl (by repeat (first | exact hup_eq | assumption | refine Eq.trans (hup_ne (by first | assumption | exact Ne.symm (by assumption) | decide | omega)) ?_)) (Nat.le_of_ble_eq_true rfl) (by first | exact ⟨rfl, rfl⟩ | (constructor <;> decide)) ?_
  refine V_aload_n rfl (by first | rfl | assumption) ?_
  rw [hup_hup]
  exact V_aret rfl rfl (Or.inl ⟨_, rfl⟩) hq
/-- a packet is taken off, or put on -/
theorem WR.tail {E fi : Nat} {f : Nat → Option Nat} {q : List (List Nat)} {G' : kG} (h2 : 0 < q.length ∧ q.length ≤ 12) (hfi : fi < 12) (h3 : G'.1 (E + 6) = some (WIO E ((fi + 1) % 12) (q.length - 1))) (h4 : G'.1 (E + 7) = some (AR 12 f)) (h5 : ∀ j, j < 12 → f j = some (E + 8 + 2 * j)) (h6 : ∀ j, j < 12 → ∃ m b, G'.1 (E + 8 + 2 * j) = some (ROB (E + 9 + 2 * j) m) ∧ G'.1 (E + 9 + 2 * j) = some (BA 228 b)) (h7 : ∀ i, i < q.length → Rw G' (E + 8 + 2 * ((fi + i) % 12)) (E + 9 + 2 * ((fi + i) % 12)) 228 (q.getD i [])) : WR E G' (q.drop 1) := by
  have hl : (q.drop 1).length = q.length - 1 := List.length_drop
  refine ⟨(fi + 1) % 12, f, by omega, by omega, by rw [hl]; exact h3, h4, h5, h6, fun i hi => ?_⟩
  have := h7 (i + 1) (by omega)
  rw [show ((fi + 1) % 12 + i) % 12 = (fi + (i + 1)) % 12 by omega, show (q.drop 1).getD i [] = q.getD (i + 1) [] by simp [List.getD_eq_getElem?_getD, List.getElem?_drop, Nat.add_comm]]
  exact this
theorem WR.snoc {E fi : Nat} {f : Nat → Option Nat} {q : List (List Nat)} {p : List Nat} {G' : kG} (h1 : fi < 12) (h2 : q.length < 12) (h3 : G'.1 (E + 6) = some (WIO E fi (q.length + 1))) (h4 : G'.1 (E + 7) = some (AR 12 f)) (h5 : ∀ j, j < 12 → f j = some (E + 8 + 2 * j)) (h6 : ∀ j, j < 12 → ∃ m b, G'.1 (E + 8 + 2 * j) = some (ROB (E + 9 + 2 * j) m) ∧ G'.1 (E + 9 + 2 * j) = some (BA 228 b)) (h7 : ∀ i, i < q.length → Rw G' (E + 8 + 2 * ((fi + i) % 12)) (E + 9 + 2 * ((fi + i) % 12)) 228 (q.getD i [])) (h8 : Rw G' (E + 8 + 2 * ((fi + q.length) % 12)) (E + 9 + 2 * ((fi + q.length) % 12)) 228 p) : WR E G' (q ++ [p]) := by
  have hl : (q ++ [p]).length = q.length + 1 := by simp
  refine ⟨fi, f, h1, by omega, by rw [hl]; exact h3, h4, h5, h6, fun i hi => ?_⟩
  by_cases e : i = q.length
  · rw [e]
    rw [show (q ++ [p]).getD q.length [] = p by simp [List.getD_eq_getElem?_getD]]
    exact h8
  · have := h7 i (by omega)
    rw [show (q ++ [p]).getD i [] = q.getD i [] by simp [List.getD_eq_getElem?_getD, List.getElem?_append_left (show i < q.length by omega)]]
    exact this
/-! an end's cells -/
abbrev ENO (E : Nat) (s : ES) : kE := .inr (1, [.ref (E + 1), .ref (E + 2), .ref (E + 3), .ref (E + 4), .ref (E + 6), .ref (E + 32), .ref (E + 35), .ref (E + 38), .int (bI (fl s 0)), .int (bI (fl s 1)), .int (nI (nm s 0)), .int (nI (nm s 1)), .int (nI (nm s 2)), .int (un s)])
abbrev XO (E : Nat) (a b c d e : Bool) : kE := .inr (2, [.ref (E + 39), .ref (E + 40), .ref (E + 41), .ref (E + 42), .ref (E + 43), .int (bI a), .int (bI b), .int (bI c), .int (bI d), .int (bI e)])
def XR (E : Nat) (s : ES) (G : kG) : Prop := G.1 (E + 38) = some (XO E (fl s 2) (fl s 3) (fl s 4) (fl s 8) (fl s 5)) ∧ Rb G (E + 39) 9 (rw9 s 4) ∧ Rb G (E + 40) 9 (rw9 s 5) ∧ Rb G (E + 41) 32 (rw9 s 3) ∧ (∃ f, Rb G (E + 42) 32 f ∧ (fl s 4 = true → ∀ j, j < 32 → f j = pub s j)) ∧ (∃ mk, G.1 (E + 43) = some (KYO (E + 44) (E + 45) mk) ∧ (fl s 5 = true → mk = true)) ∧ Rb G (E + 44) 32 (rw9 s 10) ∧ Rb G (E + 45) 32 (rw9 s 11)
def KR (E : Nat) (s : ES) (G : kG) : Prop := (G.1 (E + 32) = some (KYO (E + 33) (E + 34) (fl s 6)) ∧ Rb G (E + 33) 32 (rw9 s 6) ∧ Rb G (E + 34) 32 (rw9 s 7)) ∧ G.1 (E + 35) = some (KYO (E + 36) (E + 37) (fl s 7)) ∧ Rb G (E + 36) 32 (rw9 s 8) ∧ Rb G (E + 37) 32 (rw9 s 9)
def RE (E : Nat) (s : ES) (G : kG) : Prop := G.1 E = some (ENO E s) ∧ Rb G (E + 1) 32 (rw9 s 0) ∧ Rb G (E + 2) 8 (rw9 s 1) ∧ Rb G (E + 3) 32 (rw9 s 2) ∧ Rw G (E + 4) (E + 5) 2000 (gt s) ∧ WR E G (wi s) ∧ KR E s G ∧ XR E s G
theorem XR.fp {E : Nat} {s : ES} {G' : kG} (h : XR E s G) (e : ∀ j, E + 38 ≤ j → j ≤ E + 45 → G'.1 j = G.1 j) : XR E s G' := by
  obtain ⟨h1, h2, h3, h4, ⟨f, h5, h5'⟩, ⟨mk, h6, h6'⟩, h7, h8⟩ := h
  exact ⟨(e _ (by omega) (by omega)).trans h1, h2.fp (e _ (by omega) (by omega)), h3.fp (e _ (by omega) (by omega)), h4.fp (e _ (by omega) (by omega)), ⟨f, h5.fp (e _ (by omega) (by omega)), h5'⟩, ⟨mk, (e _ (by omega) (by omega)).trans h6, h6'⟩, h7.fp (e _ (by omega) (by omega)), h8.fp (e _ (by omega) (by omega))⟩
theorem KR.fp {E : Nat} {s : ES} {G' : kG} (h : KR E s G) (e : ∀ j, E + 32 ≤ j → j ≤ E + 37 → G'.1 j = G.1 j) : KR E s G' := by
  obtain ⟨⟨h1, h2, h3⟩, h4, h5, h6⟩ := h
  exact ⟨⟨(e _ (by omega) (by omega)).trans h1, h2.fp (e _ (by omega) (by omega)), h3.fp (e _ (by omega) (by omega))⟩, (e _ (by omega) (by omega)).trans h4, h5.fp (e _ (by omega) (by omega)), h6.fp (e _ (by omega) (by omega))⟩
theorem RE.fp {E : Nat} {s : ES} {G' : kG} (h : RE E s G) (e : ∀ j, E ≤ j → j ≤ E + 45 → G'.1 j = G.1 j) : RE E s G' := by
  obtain ⟨h1, h2, h3, h4, h5, h6, h7, h8⟩ := h
  exact ⟨(e _ (by omega) (by omega)).trans h1, h2.fp (e _ (by omega) (by omega)), h3.fp (e _ (by omega) (by omega)), h4.fp (e _ (by omega) (by omega)), h5.fp (e _ (by omega) (by omega)) (e _ (by omega) (by omega)), h6.fp (fun j a c => e j (by omega) (by omega)), h7.fp (fun j a c => e j (by omega) (by omega)), h8.fp (fun j a c => e j (by omega) (by omega))⟩
/-- another state whose rows and flags of exchange and keys are the same -/
theorem XR.sta {E : Nat} {s s' : ES} (h : XR E s G) (h1 : ∀ k, 2 ≤ k → fl s' k = fl s k) (h2 : rw9 s' = rw9 s) : XR E s' G := by
  obtain ⟨k1, k2, k3, k4, ⟨f, k5, k5'⟩, ⟨mk, k6, k6'⟩, k7, k8⟩ := h
  refine ⟨?_, ?_, ?_, ?_, ⟨f, k5, fun a => ?_⟩, ⟨mk, k6, fun a => ?_⟩, ?_, ?_⟩
  · rw [h1 2 (by omega), h1 3 (by omega), h1 4 (by omega), h1 5 (by omega), h1 8 (by omega)]; exact k1
  · rw [h2]; exact k2
  · rw [h2]; exact k3
  · rw [h2]; exact k4
  · unfold pub
    rw [h2]
    exact k5' (by rw [← h1 4 (by omega)]; exact a)
  · exact k6' (by rw [← h1 5 (by omega)]; exact a)
  · rw [h2]; exact k7
  · rw [h2]; exact k8
theorem KR.sta {E : Nat} {s s' : ES} (h : KR E s G) (h1 : ∀ k, 6 ≤ k → k ≤ 7 → fl s' k = fl s k) (h2 : ∀ k, 6 ≤ k → k ≤ 9 → rw9 s' k = rw9 s k) : KR E s' G := by
  obtain ⟨⟨k1, k2, k3⟩, k4, k5, k6⟩ := h
  unfold KR
  rw [h1 6 (by omega) (by omega), h1 7 (by omega) (by omega), h2 6 (by omega) (by omega), h2 7 (by omega) (by omega), h2 8 (by omega) (by omega), h2 9 (by omega) (by omega)]
  exact ⟨⟨k1, k2, k3⟩, k4, k5, k6⟩
/-- only the object of an end is another one -/
theorem RE.obj {E : Nat} {s s' : ES} {G' : kG} (h : RE E s G) (e : ∀ j, E < j → j ≤ E + 45 → G'.1 j = G.1 j) (h0 : G'.1 E = some (ENO E s')) (h1 : ∀ k, 2 ≤ k → fl s' k = fl s k) (h2 : rw9 s' = rw9 s) (h4 : gt s' = gt s) (h5 : wi s' = wi s) : RE E s' G' := by
  obtain ⟨k1, k2, k3, k4, k5, k6, k7, k8⟩ := h
  refine ⟨h0, ?_, ?_, ?_, ?_, ?_, ?_, ?_⟩
  · rw [h2]; exact k2.fp (e _ (by omega) (by omega))
  · rw [h2]; exact k3.fp (e _ (by omega) (by omega))
  · rw [h2]; exact k4.fp (e _ (by omega) (by omega))
  · rw [h4]; exact k5.fp (e _ (by omega) (by omega)) (e _ (by omega) (by omega))
  · rw [h5]; exact k6.fp (fun j a c => e j (by omega) (by omega))
  · exact (k7.fp (fun j a c => e j (by omega) (by omega))).sta (fun k a c => h1 k (by omega)) (fun k _ _ => by rw [h2])
  · exact (k8.fp (fun j a c => e j (by omega) (by omega))).sta (fun k a => h1 k (by omega)) h2
end CWire
