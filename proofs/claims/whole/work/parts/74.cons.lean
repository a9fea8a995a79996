section CCons
variable {K : kK} {bc bs bc' bs' : Nat} {M : kM} {pc n t : Nat} {lc : kLo} {st : List Value} {G : kG} {Q : kO → kG → Prop}
def hnw (G : kG) (nx : Nat) (e : kE) : kG := (fun j => if j = nx then some e else G.1 j, some (nx + 1))
theorem hnw_eq {k : Nat} {e : kE} : (hnw G k e).1 k = some e := if_pos rfl
theorem hnw_ne {k j : Nat} {e : kE} (h : j ≠ k) : (hnw G k e).1 j = G.1 j := if_neg h
theorem V_nwI {nx N : Nat} (h : kf M pc = some (.newarray .int, n, t)) (hN2 : N < 100000) (hnx : G.2 = some nx) (hx : nx < 899999) (hb : bc' + 1 ≤ bc ∧ bs' + N ≤ bs) (kk : V K bc' bs' M n lc (.ref nx :: st) (hnw G nx (BA N (fun _ => 0))) Q) : V K bc bs M pc lc (.int (nI N) :: st) G Q :=
  V_newa (a0 := .inl (fun _ => nI 0)) (tg := 0) h rfl (Or.inl ⟨rfl, rfl, rfl⟩) ka_int (nI_pos (by omega)) (nI_clamp (by omega)) hN2 hnx hx hb kk
theorem V_nwL {nx N : Nat} (h : kf M pc = some (.newarray .long, n, t)) (hN2 : N < 100000) (hnx : G.2 = some nx) (hx : nx < 899999) (hb : bc' + 1 ≤ bc ∧ bs' + N ≤ bs) (kk : V K bc' bs' M n lc (.ref nx :: st) (hnw G nx (LA N (fun _ => 0))) Q) : V K bc bs M pc lc (.int (nI N) :: st) G Q :=
  V_newa (a0 := .inr (.inl (fun _ => lN 0))) (tg := 2) h rfl (Or.inr (Or.inr (Or.inl ⟨rfl, rfl, rfl⟩))) ka_long (nI_pos (by omega)) (nI_clamp (by omega)) hN2 hnx hx hb kk
theorem V_nwB {nx N : Nat} (h : kf M pc = some (.newarray .byte, n, t)) (hN2 : N < 100000) (hnx : G.2 = some nx) (hx : nx < 899999) (hb : bc' + 1 ≤ bc ∧ bs' + N ≤ bs) (kk : V K bc' bs' M n lc (.ref nx :: st) (hnw G nx (.inl (1, N, .inl (fun _ => 0)))) Q) : V K bc bs M pc lc (.int (nI N) :: st) G Q :=
  V_newa (a0 := .inl (fun _ => 0)) (tg := 1) h rfl (Or.inr (Or.inl ⟨rfl, rfl, rfl⟩)) ka_byte (nI_pos (by omega)) (nI_clamp (by omega)) hN2 hnx hx hb kk
theorem V_nwZ {nx N : Nat} (h : kf M pc = some (.newarray .boolean, n, t)) (hN2 : N < 100000) (hnx : G.2 = some nx) (hx : nx < 899999) (hb : bc' + 1 ≤ bc ∧ bs' + N ≤ bs) (kk : V K bc' bs' M n lc (.ref nx :: st) (hnw G nx (.inl (3, N, .inl (fun _ => 0)))) Q) : V K bc bs M pc lc (.int (nI N) :: st) G Q :=
  V_newa (a0 := .inl (fun _ => 0)) (tg := 3) h rfl (Or.inr (Or.inr (Or.inr ⟨rfl, rfl, rfl⟩))) ka_boolean (nI_pos (by omega)) (nI_clamp (by omega)) hN2 hnx hx hb kk
/-- cells from b on hold a list -/
def HL (G : kG) (b : Nat) (L : List kE) : Prop := ∀ i, i < L.length → G.1 (b + i) = L[i]?
theorem HL.nil {b : Nat} : HL G b [] := fun i hi => absurd hi (Nat.not_lt_zero i)
theorem HL.cons {b : Nat} {o : kE} {L : List kE} (h0 : G.1 b = some o) (h : HL G (b + 1) L) : HL G b (o :: L) := by
  intro i hi
  cases i with
  | zero => exact h0
  | succ i =>
    have := h i (Nat.lt_of_succ_lt_succ hi)
    rw [show b + (i + 1) = b + 1 + i by omega]
    exact this
theorem HL.app {b : Nat} {L L' : List kE} (h : HL G b L) (h' : HL G (b + L.length) L') : HL G b (L ++ L') := by
  intro i hi
  rw [List.length_append] at hi
  by_cases z : i < L.length
  · rw [List.getElem?_append_left z]
    exact h i z
  · rw [List.getElem?_append_right (by omega), show b + i = b + L.length + (i - L.length) by omega]
    exact h' (i - L.length) (by omega)
theorem HL.left {b : Nat} {L L' : List kE} (h : HL G b (L ++ L')) : HL G b L := by
  intro i hi
  have := h i (by rw [List.length_append]; omega)
  rw [List.getElem?_append_left hi] at this
  exact this
theorem HL.right {b : Nat} {L L' : List kE} (h : HL G b (L ++ L')) : HL G (b + L.length) L' := by
  intro i hi
  have := h (L.length + i) (by rw [List.length_append]; omega)
  rw [List.getElem?_append_right (by omega), show L.length + i - L.length = i by omega] at this
  rw [Nat.add_assoc]
  exact this
theorem HL.fp {b : Nat} {L : List kE} {G' : kG} (h : HL G b L) (e : ∀ j, b ≤ j → j < b + L.length → G'.1 j = G.1 j) : HL G' b L :=
  fun i hi => (e _ (by omega) (by omega)).trans (h i hi)
theorem HL.one {b : Nat} {e : kE} (h : G.1 b = some e) : HL G b [e] := HL.cons h HL.nil
def Mk (G0 : kG) (b : Nat) (o : kE) (L : List kE) (k : Nat) (G : kG) : Prop := G.1 b = some o ∧ G.2 = some k ∧ (∀ j, j < b → G.1 j = G0.1 j) ∧ k = b + 1 + L.length ∧ HL G (b + 1) L
theorem Mk.arr {G0 : kG} {b k : Nat} {o o' e : kE} {L : List kE} (h : Mk G0 b o L k G) : Mk G0 b o' (L ++ [e]) (k + 1) (hup (hnw G k e) b o') := by
  obtain ⟨h1, h2, h3, h4, h5⟩ := h
  refine ⟨hup_eq, rfl, fun j hj => (hup_ne (by omega)).trans ((hnw_ne (by omega)).trans (h3 j hj)), by rw [List.length_append, h4]; rfl, ?_⟩
  refine (h5.fp (fun j a c => (hup_ne (by omega)).trans (hnw_ne (by omega)))).app (HL.one ?_)
  rw [← h4]
  exact (hup_ne (by omega)).trans hnw_eq
theorem Mk.sub {G0 G' : kG} {b k : Nat} {o o' : kE} {L L' : List kE} (h : Mk G0 b o L k G) (h1 : G'.2 = some (k + L'.length)) (h2 : ∀ j, j < k → G'.1 j = G.1 j) (h3 : HL G' k L') : Mk G0 b o' (L ++ L') (k + L'.length) (hup G' b o') := by
  obtain ⟨q1, q2, q3, q4, q5⟩ := h
  refine ⟨hup_eq, h1, fun j hj => (hup_ne (by omega)).trans ((h2 j (by omega)).trans (q3 j hj)), by rw [List.length_append, q4]; omega, ?_⟩
  refine (q5.fp (fun j a c => (hup_ne (by omega)).trans (h2 j (by omega)))).app ?_
  rw [← q4]
  exact h3.fp (fun j a c => hup_ne (by omega))
theorem Mk.put {G0 : kG} {b k : Nat} {o o' : kE} {L : List kE} (h : Mk G0 b o L k G) : Mk G0 b o' L k (hup G b o') := by
  obtain ⟨q1, q2, q3, q4, q5⟩ := h
  exact ⟨hup_eq, q2, fun j hj => (hup_ne (by omega)).trans (q3 j hj), q4, q5.fp (fun j a c => hup_ne (by omega))⟩
theorem Mk.hl {G0 : kG} {b k : Nat} {o : kE} {L : List kE} (h : Mk G0 b o L k G) : HL G b (o :: L) := HL.cons h.1 h.2.2.2.2
abbrev z0 : Nat → Nat := fun _ => 0
def wfn (b : Nat) : Nat → Nat → Option Nat
  | 0 => fun _ => none
  | m + 1 => va_up (wfn b m) m (some (b + 2 + 2 * m))
theorem wfn_get {b : Nat} : ∀ {m j : Nat}, j < m → wfn b m j = some (b + 2 + 2 * j)
  | m + 1, j, h => by
    unfold wfn
    by_cases z : j = m
    · subst z; exact va_up_self _ _ _
    · rw [va_up_ne _ _ z]; exact wfn_get (by omega)

def L6 (N b : Nat) : List kE := .inr (5, [.ref (b + 1), .int 0]) :: ([] ++ [BA N z0])
set_option maxHeartbeats 4000000 in
theorem c_new6 {b N : Nat} (g : G.1 b = some (.inr (5, [.null, .int 0]))) (hn : G.2 = some (b + 1)) (hb : b < 800000) (hN : N < 100000) (hq : ∀ G', G'.2 = some (b + 2) → (∀ j, j < b → G'.1 j = G.1 j) → HL G' b (L6 N b) → Q (.inl none) G') : C K 1 N mX6_init [.ref b, .int (nI N)] G Q := by
  have M0 : Mk G b (.inr (5, [.null, .int 0])) [] (b + 1) G := ⟨g, hn, fun _ _ => rfl, rfl, HL.nil⟩
  refine C_of okX6_init (Nat.le_of_ble_eq_true rfl) ?_
  refine V_aload_n rfl (by rfl) ?_
  refine V_objinit rfl ⟨kk_X6_1, k_oi⟩ (Nat.le_of_ble_eq_true rfl) (Nat.le_of_ble_eq_true rfl) ?_
  refine V_aload_n rfl (by rfl) ?_
  refine V_iload_n rfl (by rfl) ?_
  refine V_nwI (bc' := 0) (bs' := 0) rfl (by omega) M0.2.1 (by omega) ⟨Nat.le_of_ble_eq_true rfl, by omega⟩ ?_
  refine V_putF rfl rfl rfl rfl rfl rfl ((hnw_ne (by omega)).trans M0.1) (Nat.le_of_ble_eq_true rfl) ⟨narrow_ref _ _, rfl⟩ ?_
  have M1 : Mk G b (.inr (5, [.ref (b + 1), .int 0])) ([] ++ [BA N z0]) (b + 2) (hup (hnw G (b + 1) (BA N z0)) b (.inr (5, [.ref (b + 1), .int 0]))) := M0.arr
  show V K 0 0 _ _ _ _ (hup (hnw G (b + 1) (BA N z0)) b (.inr (5, [.ref (b + 1), .int 0]))) Q
  generalize hup (hnw G (b + 1) (BA N z0)) b (.inr (5, [.ref (b + 1), .int 0])) = G1 at M1 ⊢
  exact V_vret rfl rfl (hq _ M1.2.1 M1.2.2.1 M1.hl)
def L0 (b : Nat) : List kE := .inr (0, [.ref (b + 1), .ref (b + 2), .ref (b + 3), .ref (b + 4), .ref (b + 5), .ref (b + 6), .ref (b + 7), .ref (b + 8), .ref (b + 9), .ref (b + 10), .ref (b + 11), .ref (b + 12)]) :: ([] ++ [BA 32 z0] ++ [LA 10 z0] ++ [LA 10 z0] ++ [LA 10 z0] ++ [LA 10 z0] ++ [LA 10 z0] ++ [LA 10 z0] ++ [LA 10 z0] ++ [LA 10 z0] ++ [LA 10 z0] ++ [LA 10 z0] ++ [LA 20 z0])
set_option maxHeartbeats 4000000 in
theorem c_new0 {b : Nat} (g : G.1 b = some (.inr (0, [.null, .null, .null, .null, .null, .null, .null, .null, .null, .null, .null, .null]))) (hn : G.2 = some (b + 1)) (hb : b < 800000) (hq : ∀ G', G'.2 = some (b + 13) → (∀ j, j < b → G'.1 j = G.1 j) → HL G' b (L0 b) → Q (.inl none) G') : C K 12 152 mX0_init [.ref b] G Q := by
  have M0 : Mk G b (.inr (0, [.null, .null, .null, .null, .null, .null, .null, .null, .null, .null, .null, .null])) [] (b + 1) G := ⟨g, hn, fun _ _ => rfl, rfl, HL.nil⟩
  refine C_of okX0_init (Nat.le_of_ble_eq_true rfl) ?_
  refine V_aload_n rfl (by rfl) ?_
  refine V_objinit rfl ⟨kk_X0_5, k_oi⟩ (Nat.le_of_ble_eq_true rfl) (Nat.le_of_ble_eq_true rfl) ?_
  refine V_aload_n rfl (by rfl) ?_
  refine V_bipush (v := nI 32) rfl (by decide) ?_
  refine V_nwI (bc' := 11) (bs' := 120) rfl (by decide) M0.2.1 (by omega) ⟨Nat.le_of_ble_eq_true rfl, Nat.le_of_ble_eq_true rfl⟩ ?_
  refine V_putF rfl rfl rfl rfl rfl rfl ((hnw_ne (by omega)).trans M0.1) (Nat.le_of_ble_eq_true rfl) ⟨narrow_ref _ _, rfl⟩ ?_
  have M1 : Mk G b (.inr (0, [.ref (b + 1), .null, .null, .null, .null, .null, .null, .null, .null, .null, .null, .null])) ([] ++ [BA 32 z0]) (b + 2) (hup (hnw G (b + 1) (BA 32 z0)) b (.inr (0, [.ref (b + 1), .null, .null, .null, .null, .null, .null, .null, .null, .null, .null, .null]))) := M0.arr
  show V K 11 120 _ _ _ _ (hup (hnw G (b + 1) (BA 32 z0)) b (.inr (0, [.ref (b + 1), .null, .null, .null, .null, .null, .null, .null, .null, .null, .null, .null]))) Q
  generalize hup (hnw G (b + 1) (BA 32 z0)) b (.inr (0, [.ref (b + 1), .null, .null, .null, .null, .null, .null, .null, .null, .null, .null, .null])) = G1 at M1 ⊢
  refine V_aload_n rfl (by rfl) ?_
  refine V_bipush (v := nI 10) rfl (by decide) ?_
  refine V_nwL (bc' := 10) (bs' := 110) rfl (by decide) M1.2.1 (by omega) ⟨Nat.le_of_ble_eq_true rfl, Nat.le_of_ble_eq_true rfl⟩ ?_
  refine V_putF rfl rfl rfl rfl rfl rfl ((hnw_ne (by omega)).trans M1.1) (Nat.le_of_ble_eq_true rfl) ⟨narrow_ref _ _, rfl⟩ ?_
  have M2 : Mk G b (.inr (0, [.ref (b + 1), .ref (b + 2), .null, .null, .null, .null, .null, .null, .null, .null, .null, .null])) ([] ++ [BA 32 z0] ++ [LA 10 z0]) (b + 3) (hup (hnw G1 (b + 2) (LA 10 z0)) b (.inr (0, [.ref (b + 1), .ref (b + 2), .null, .null, .null, .null, .null, .null, .null, .null, .null, .null]))) := M1.arr
  show V K 10 110 _ _ _ _ (hup (hnw G1 (b + 2) (LA 10 z0)) b (.inr (0, [.ref (b + 1), .ref (b + 2), .null, .null, .null, .null, .null, .null, .null, .null, .null, .null]))) Q
  generalize hup (hnw G1 (b + 2) (LA 10 z0)) b (.inr (0, [.ref (b + 1), .ref (b + 2), .null, .null, .null, .null, .null, .null, .null, .null, .null, .null])) = G2 at M2 ⊢
  refine V_aload_n rfl (by rfl) ?_
  refine V_bipush (v := nI 10) rfl (by decide) ?_
  refine V_nwL (bc' := 9) (bs' := 100) rfl (by decide) M2.2.1 (by omega) ⟨Nat.le_of_ble_eq_true rfl, Nat.le_of_ble_eq_true rfl⟩ ?_
  refine V_putF rfl rfl rfl rfl rfl rfl ((hnw_ne (by omega)).trans M2.1) (Nat.le_of_ble_eq_true rfl) ⟨narrow_ref _ _, rfl⟩ ?_
  have M3 : Mk G b (.inr (0, [.ref (b + 1), .ref (b + 2), .ref (b + 3), .null, .null, .null, .null, .null, .null, .null, .null, .null])) ([] ++ [BA 32 z0] ++ [LA 10 z0] ++ [LA 10 z0]) (b + 4) (hup (hnw G2 (b + 3) (LA 10 z0)) b (.inr (0, [.ref (b + 1), .ref (b + 2), .ref (b + 3), .null, .null, .null, .null, .null, .null, .null, .null, .null]))) := M2.arr
  show V K 9 100 _ _ _ _ (hup (hnw G2 (b + 3) (LA 10 z0)) b (.inr (0, [.ref (b + 1), .ref (b + 2), .ref (b + 3), .null, .null, .null, .null, .null, .null, .null, .null, .null]))) Q
  generalize hup (hnw G2 (b + 3) (LA 10 z0)) b (.inr (0, [.ref (b + 1), .ref (b + 2), .ref (b + 3), .null, .null, .null, .null, .null, .null, .null, .null, .null])) = G3 at M3 ⊢
  refine V_aload_n rfl (by rfl) ?_
  refine V_bipush (v := nI 10) rfl (by decide) ?_
  refine V_nwL (bc' := 8) (bs' := 90) rfl (by decide) M3.2.1 (by omega) ⟨Nat.le_of_ble_eq_true rfl, Nat.le_of_ble_eq_true rfl⟩ ?_
  refine V_putF rfl rfl rfl rfl rfl rfl ((hnw_ne (by omega)).trans M3.1) (Nat.le_of_ble_eq_true rfl) ⟨narrow_ref _ _, rfl⟩ ?_
  have M4 : Mk G b (.inr (0, [.ref (b + 1), .ref (b + 2), .ref (b + 3), .ref (b + 4), .null, .null, .null, .null, .null, .null, .null, .null])) ([] ++ [BA 32 z0] ++ [LA 10 z0] ++ [LA 10 z0] ++ [LA 10 z0]) (b + 5) (hup (hnw G3 (b + 4) (LA 10 z0)) b (.inr (0, [.ref (b + 1), .ref (b + 2), .ref (b + 3), .ref (b + 4), .null, .null, .null, .null, .null, .null, .null, .null]))) := M3.arr
  show V K 8 90 _ _ _ _ (hup (hnw G3 (b + 4) (LA 10 z0)) b (.inr (0, [.ref (b + 1), .ref (b + 2), .ref (b + 3), .ref (b + 4), .null, .null, .null, .null, .null, .null, .null, .null]))) Q
  generalize hup (hnw G3 (b + 4) (LA 10 z0)) b (.inr (0, [.ref (b + 1), .ref (b + 2), .ref (b + 3), .ref (b + 4), .null, .null, .null, .null, .null, .null, .null, .null])) = G4 at M4 ⊢
  refine V_aload_n rfl (by rfl) ?_
  refine V_bipush (v := nI 10) rfl (by decide) ?_
  refine V_nwL (bc' := 7) (bs' := 80) rfl (by decide) M4.2.1 (by omega) ⟨Nat.le_of_ble_eq_true rfl, Nat.le_of_ble_eq_true rfl⟩ ?_
  refine V_putF rfl rfl rfl rfl rfl rfl ((hnw_ne (by omega)).trans M4.1) (Nat.le_of_ble_eq_true rfl) ⟨narrow_ref _ _, rfl⟩ ?_
  have M5 : Mk G b (.inr (0, [.ref (b + 1), .ref (b + 2), .ref (b + 3), .ref (b + 4), .ref (b + 5), .null, .null, .null, .null, .null, .null, .null])) ([] ++ [BA 32 z0] ++ [LA 10 z0] ++ [LA 10 z0] ++ [LA 10 z0] ++ [LA 10 z0]) (b + 6) (hup (hnw G4 (b + 5) (LA 10 z0)) b (.inr (0, [.ref (b + 1), .ref (b + 2), .ref (b + 3), .ref (b + 4), .ref (b + 5), .null, .null, .null, .null, .null, .null, .null]))) := M4.arr
  show V K 7 80 _ _ _ _ (hup (hnw G4 (b + 5) (LA 10 z0)) b (.inr (0, [.ref (b + 1), .ref (b + 2), .ref (b + 3), .ref (b + 4), .ref (b + 5), .null, .null, .null, .null, .null, .null, .null]))) Q
  generalize hup (hnw G4 (b + 5) (LA 10 z0)) b (.inr (0, [.ref (b + 1), .ref (b + 2), .ref (b + 3), .ref (b + 4), .ref (b + 5), .null, .null, .null, .null, .null, .null, .null])) = G5 at M5 ⊢
  refine V_aload_n rfl (by rfl) ?_
  refine V_bipush (v := nI 10) rfl (by decide) ?_
  refine V_nwL (bc' := 6) (bs' := 70) rfl (by decide) M5.2.1 (by omega) ⟨Nat.le_of_ble_eq_true rfl, Nat.le_of_ble_eq_true rfl⟩ ?_
  refine V_putF rfl rfl rfl rfl rfl rfl ((hnw_ne (by omega)).trans M5.1) (Nat.le_of_ble_eq_true rfl) ⟨narrow_ref _ _, rfl⟩ ?_
  have M6 : Mk G b (.inr (0, [.ref (b + 1), .ref (b + 2), .ref (b + 3), .ref (b + 4), .ref (b + 5), .ref (b + 6), .null, .null, .null, .null, .null, .null])) ([] ++ [BA 32 z0] ++ [LA 10 z0] ++ [LA 10 z0] ++ [LA 10 z0] ++ [LA 10 z0] ++ [LA 10 z0]) (b + 7) (hup (hnw G5 (b + 6) (LA 10 z0)) b (.inr (0, [.ref (b + 1), .ref (b + 2), .ref (b + 3), .ref (b + 4), .ref (b + 5), .ref (b + 6), .null, .null, .null, .null, .null, .null]))) := M5.arr
  show V K 6 70 _ _ _ _ (hup (hnw G5 (b + 6) (LA 10 z0)) b (.inr (0, [.ref (b + 1), .ref (b + 2), .ref (b + 3), .ref (b + 4), .ref (b + 5), .ref (b + 6), .null, .null, .null, .null, .null, .null]))) Q
  generalize hup (hnw G5 (b + 6) (LA 10 z0)) b (.inr (0, [.ref (b + 1), .ref (b + 2), .ref (b + 3), .ref (b + 4), .ref (b + 5), .ref (b + 6), .null, .null, .null, .null, .null, .null])) = G6 at M6 ⊢
  refine V_aload_n rfl (by rfl) ?_
  refine V_bipush (v := nI 10) rfl (by decide) ?_
  refine V_nwL (bc' := 5) (bs' := 60) rfl (by decide) M6.2.1 (by omega) ⟨Nat.le_of_ble_eq_true rfl, Nat.le_of_ble_eq_true rfl⟩ ?_
  refine V_putF rfl rfl rfl rfl rfl rfl ((hnw_ne (by omega)).trans M6.1) (Nat.le_of_ble_eq_true rfl) ⟨narrow_ref _ _, rfl⟩ ?_
  have M7 : Mk G b (.inr (0, [.ref (b + 1), .ref (b + 2), .ref (b + 3), .ref (b + 4), .ref (b + 5), .ref (b + 6), .ref (b + 7), .null, .null, .null, .null, .null])) ([] ++ [BA 32 z0] ++ [LA 10 z0] ++ [LA 10 z0] ++ [LA 10 z0] ++ [LA 10 z0] ++ [LA 10 z0] ++ [LA 10 z0]) (b + 8) (hup (hnw G6 (b + 7) (LA 10 z0)) b (.inr (0, [.ref (b + 1), .ref (b + 2), .ref (b + 3), .ref (b + 4), .ref (b + 5), .ref (b + 6), .ref (b + 7), .null, .null, .null, .null, .null]))) := M6.arr
  show V K 5 60 _ _ _ _ (hup (hnw G6 (b + 7) (LA 10 z0)) b (.inr (0, [.ref (b + 1), .ref (b + 2), .ref (b + 3), .ref (b + 4), .ref (b + 5), .ref (b + 6), .ref (b + 7), .null, .null, .null, .null, .null]))) Q
  generalize hup (hnw G6 (b + 7) (LA 10 z0)) b (.inr (0, [.ref (b + 1), .ref (b + 2), .ref (b + 3), .ref (b + 4), .ref (b + 5), .ref (b + 6), .ref (b + 7), .null, .null, .null, .null, .null])) = G7 at M7 ⊢
  refine V_aload_n rfl (by rfl) ?_
  refine V_bipush (v := nI 10) rfl (by decide) ?_
  refine V_nwL (bc' := 4) (bs' := 50) rfl (by decide) M7.2.1 (by omega) ⟨Nat.le_of_ble_eq_true rfl, Nat.le_of_ble_eq_true rfl⟩ ?_
  refine V_putF rfl rfl rfl rfl rfl rfl ((hnw_ne (by omega)).trans M7.1) (Nat.le_of_ble_eq_true rfl) ⟨narrow_ref _ _, rfl⟩ ?_
  have M8 : Mk G b (.inr (0, [.ref (b + 1), .ref (b + 2), .ref (b + 3), .ref (b + 4), .ref (b + 5), .ref (b + 6), .ref (b + 7), .ref (b + 8), .null, .null, .null, .null])) ([] ++ [BA 32 z0] ++ [LA 10 z0] ++ [LA 10 z0] ++ [LA 10 z0] ++ [LA 10 z0] ++ [LA 10 z0] ++ [LA 10 z0] ++ [LA 10 z0]) (b + 9) (hup (hnw G7 (b + 8) (LA 10 z0)) b (.inr (0, [.ref (b + 1), .ref (b + 2), .ref (b + 3), .ref (b + 4), .ref (b + 5), .ref (b + 6), .ref (b + 7), .ref (b + 8), .null, .null, .null, .null]))) := M7.arr
  show V K 4 50 _ _ _ _ (hup (hnw G7 (b + 8) (LA 10 z0)) b (.inr (0, [.ref (b + 1), .ref (b + 2), .ref (b + 3), .ref (b + 4), .ref (b + 5), .ref (b + 6), .ref (b + 7), .ref (b + 8), .null, .null, .null, .null]))) Q
  generalize hup (hnw G7 (b + 8) (LA 10 z0)) b (.inr (0, [.ref (b + 1), .ref (b + 2), .ref (b + 3), .ref (b + 4), .ref (b + 5), .ref (b + 6), .ref (b + 7), .ref (b + 8), .null, .null, .null, .null])) = G8 at M8 ⊢
  refine V_aload_n rfl (by rfl) ?_
  refine V_bipush (v := nI 10) rfl (by decide) ?_
  refine V_nwL (bc' := 3) (bs' := 40) rfl (by decide) M8.2.1 (by omega) ⟨Nat.le_of_ble_eq_true rfl, Nat.le_of_ble_eq_true rfl⟩ ?_
  refine V_putF rfl rfl rfl rfl rfl rfl ((hnw_ne (by omega)).trans M8.1) (Nat.le_of_ble_eq_true rfl) ⟨narrow_ref _ _, rfl⟩ ?_
  have M9 : Mk G b (.inr (0, [.ref (b + 1), .ref (b + 2), .ref (b + 3), .ref (b + 4), .ref (b + 5), .ref (b + 6), .ref (b + 7), .ref (b + 8), .ref (b + 9), .null, .null, .null])) ([] ++ [BA 32 z0] ++ [LA 10 z0] ++ [LA 10 z0] ++ [LA 10 z0] ++ [LA 10 z0] ++ [LA 10 z0] ++ [LA 10 z0] ++ [LA 10 z0] ++ [LA 10 z0]) (b + 10) (hup (hnw G8 (b + 9) (LA 10 z0)) b (.inr (0, [.ref (b + 1), .ref (b + 2), .ref (b + 3), .ref (b + 4), .ref (b + 5), .ref (b + 6), .ref (b + 7), .ref (b + 8), .ref (b + 9), .null, .null, .null]))) := M8.arr
  show V K 3 40 _ _ _ _ (hup (hnw G8 (b + 9) (LA 10 z0)) b (.inr (0, [.ref (b + 1), .ref (b + 2), .ref (b + 3), .ref (b + 4), .ref (b + 5), .ref (b + 6), .ref (b + 7), .ref (b + 8), .ref (b + 9), .null, .null, .null]))) Q
  generalize hup (hnw G8 (b + 9) (LA 10 z0)) b (.inr (0, [.ref (b + 1), .ref (b + 2), .ref (b + 3), .ref (b + 4), .ref (b + 5), .ref (b + 6), .ref (b + 7), .ref (b + 8), .ref (b + 9), .null, .null, .null])) = G9 at M9 ⊢
  refine V_aload_n rfl (by rfl) ?_
  refine V_bipush (v := nI 10) rfl (by decide) ?_
  refine V_nwL (bc' := 2) (bs' := 30) rfl (by decide) M9.2.1 (by omega) ⟨Nat.le_of_ble_eq_true rfl, Nat.le_of_ble_eq_true rfl⟩ ?_
  refine V_putF rfl rfl rfl rfl rfl rfl ((hnw_ne (by omega)).trans M9.1) (Nat.le_of_ble_eq_true rfl) ⟨narrow_ref _ _, rfl⟩ ?_
  have M10 : Mk G b (.inr (0, [.ref (b + 1), .ref (b + 2), .ref (b + 3), .ref (b + 4), .ref (b + 5), .ref (b + 6), .ref (b + 7), .ref (b + 8), .ref (b + 9), .ref (b + 10), .null, .null])) ([] ++ [BA 32 z0] ++ [LA 10 z0] ++ [LA 10 z0] ++ [LA 10 z0] ++ [LA 10 z0] ++ [LA 10 z0] ++ [LA 10 z0] ++ [LA 10 z0] ++ [LA 10 z0] ++ [LA 10 z0]) (b + 11) (hup (hnw G9 (b + 10) (LA 10 z0)) b (.inr (0, [.ref (b + 1), .ref (b + 2), .ref (b + 3), .ref (b + 4), .ref (b + 5), .ref (b + 6), .ref (b + 7), .ref (b + 8), .ref (b + 9), .ref (b + 10), .null, .null]))) := M9.arr
  show V K 2 30 _ _ _ _ (hup (hnw G9 (b + 10) (LA 10 z0)) b (.inr (0, [.ref (b + 1), .ref (b + 2), .ref (b + 3), .ref (b + 4), .ref (b + 5), .ref (b + 6), .ref (b + 7), .ref (b + 8), .ref (b + 9), .ref (b + 10), .null, .null]))) Q
  generalize hup (hnw G9 (b + 10) (LA 10 z0)) b (.inr (0, [.ref (b + 1), .ref (b + 2), .ref (b + 3), .ref (b + 4), .ref (b + 5), .ref (b + 6), .ref (b + 7), .ref (b + 8), .ref (b + 9), .ref (b + 10), .null, .null])) = G10 at M10 ⊢
  refine V_aload_n rfl (by rfl) ?_
  refine V_bipush (v := nI 10) rfl (by decide) ?_
  refine V_nwL (bc' := 1) (bs' := 20) rfl (by decide) M10.2.1 (by omega) ⟨Nat.le_of_ble_eq_true rfl, Nat.le_of_ble_eq_true rfl⟩ ?_
  refine V_putF rfl rfl rfl rfl rfl rfl ((hnw_ne (by omega)).trans M10.1) (Nat.le_of_ble_eq_true rfl) ⟨narrow_ref _ _, rfl⟩ ?_
  have M11 : Mk G b (.inr (0, [.ref (b + 1), .ref (b + 2), .ref (b + 3), .ref (b + 4), .ref (b + 5), .ref (b + 6), .ref (b + 7), .ref (b + 8), .ref (b + 9), .ref (b + 10), .ref (b + 11), .null])) ([] ++ [BA 32 z0] ++ [LA 10 z0] ++ [LA 10 z0] ++ [LA 10 z0] ++ [LA 10 z0] ++ [LA 10 z0] ++ [LA 10 z0] ++ [LA 10 z0] ++ [LA 10 z0] ++ [LA 10 z0] ++ [LA 10 z0]) (b + 12) (hup (hnw G10 (b + 11) (LA 10 z0)) b (.inr (0, [.ref (b + 1), .ref (b + 2), .ref (b + 3), .ref (b + 4), .ref (b + 5), .ref (b + 6), .ref (b + 7), .ref (b + 8), .ref (b + 9), .ref (b + 10), .ref (b + 11), .null]))) := M10.arr
  show V K 1 20 _ _ _ _ (hup (hnw G10 (b + 11) (LA 10 z0)) b (.inr (0, [.ref (b + 1), .ref (b + 2), .ref (b + 3), .ref (b + 4), .ref (b + 5), .ref (b + 6), .ref (b + 7), .ref (b + 8), .ref (b + 9), .ref (b + 10), .ref (b + 11), .null]))) Q
  generalize hup (hnw G10 (b + 11) (LA 10 z0)) b (.inr (0, [.ref (b + 1), .ref (b + 2), .ref (b + 3), .ref (b + 4), .ref (b + 5), .ref (b + 6), .ref (b + 7), .ref (b + 8), .ref (b + 9), .ref (b + 10), .ref (b + 11), .null])) = G11 at M11 ⊢
  refine V_aload_n rfl (by rfl) ?_
  refine V_bipush (v := nI 20) rfl (by decide) ?_
  refine V_nwL (bc' := 0) (bs' := 0) rfl (by decide) M11.2.1 (by omega) ⟨Nat.le_of_ble_eq_true rfl, Nat.le_of_ble_eq_true rfl⟩ ?_
  refine V_putF rfl rfl rfl rfl rfl rfl ((hnw_ne (by omega)).trans M11.1) (Nat.le_of_ble_eq_true rfl) ⟨narrow_ref _ _, rfl⟩ ?_
  have M12 : Mk G b (.inr (0, [.ref (b + 1), .ref (b + 2), .ref (b + 3), .ref (b + 4), .ref (b + 5), .ref (b + 6), .ref (b + 7), .ref (b + 8), .ref (b + 9), .ref (b + 10), .ref (b + 11), .ref (b + 12)])) ([] ++ [BA 32 z0] ++ [LA 10 z0] ++ [LA 10 z0] ++ [LA 10 z0] ++ [LA 10 z0] ++ [LA 10 z0] ++ [LA 10 z0] ++ [LA 10 z0] ++ [LA 10 z0] ++ [LA 10 z0] ++ [LA 10 z0] ++ [LA 20 z0]) (b + 13) (hup (hnw G11 (b + 12) (LA 20 z0)) b (.inr (0, [.ref (b + 1), .ref (b + 2), .ref (b + 3), .ref (b + 4), .ref (b + 5), .ref (b + 6), .ref (b + 7), .ref (b + 8), .ref (b + 9), .ref (b + 10), .ref (b + 11), .ref (b + 12)]))) := M11.arr
  show V K 0 0 _ _ _ _ (hup (hnw G11 (b + 12) (LA 20 z0)) b (.inr (0, [.ref (b + 1), .ref (b + 2), .ref (b + 3), .ref (b + 4), .ref (b + 5), .ref (b + 6), .ref (b + 7), .ref (b + 8), .ref (b + 9), .ref (b + 10), .ref (b + 11), .ref (b + 12)]))) Q
  generalize hup (hnw G11 (b + 12) (LA 20 z0)) b (.inr (0, [.ref (b + 1), .ref (b + 2), .ref (b + 3), .ref (b + 4), .ref (b + 5), .ref (b + 6), .ref (b + 7), .ref (b + 8), .ref (b + 9), .ref (b + 10), .ref (b + 11), .ref (b + 12)])) = G12 at M12 ⊢
  exact V_vret rfl rfl (hq _ M12.2.1 M12.2.2.1 M12.hl)
def L3 (b : Nat) : List kE := .inr (3, [.ref (b + 1), .ref (b + 2), .ref (b + 3)]) :: ([] ++ [BA 8 z0] ++ [BA 64 z0] ++ L6 640 (b + 3))
set_option maxHeartbeats 4000000 in
theorem c_new3 {b : Nat} (g : G.1 b = some (.inr (3, [.null, .null, .null]))) (hn : G.2 = some (b + 1)) (hb : b < 700000) (hq : ∀ G', G'.2 = some (b + 5) → (∀ j, j < b → G'.1 j = G.1 j) → HL G' b (L3 b) → Q (.inl none) G') : C K 4 714 mX3_init [.ref b] G Q := by
  have M0 : Mk G b (.inr (3, [.null, .null, .null])) [] (b + 1) G := ⟨g, hn, fun _ _ => rfl, rfl, HL.nil⟩
  refine C_of okX3_init (Nat.le_of_ble_eq_true rfl) ?_
  refine V_aload_n rfl (by rfl) ?_
  refine V_objinit rfl ⟨kk_X3_1, k_oi⟩ (Nat.le_of_ble_eq_true rfl) (Nat.le_of_ble_eq_true rfl) ?_
  refine V_aload_n rfl (by rfl) ?_
  refine V_bipush (v := nI 8) rfl (by decide) ?_
  refine V_nwI (bc' := 3) (bs' := 706) rfl (by decide) M0.2.1 (by omega) ⟨Nat.le_of_ble_eq_true rfl, Nat.le_of_ble_eq_true rfl⟩ ?_
  refine V_putF rfl rfl rfl rfl rfl rfl ((hnw_ne (by omega)).trans M0.1) (Nat.le_of_ble_eq_true rfl) ⟨narrow_ref _ _, rfl⟩ ?_
  have M1 : Mk G b (.inr (3, [.ref (b + 1), .null, .null])) ([] ++ [BA 8 z0]) (b + 2) (hup (hnw G (b + 1) (BA 8 z0)) b (.inr (3, [.ref (b + 1), .null, .null]))) := M0.arr
  show V K 3 706 _ _ _ _ (hup (hnw G (b + 1) (BA 8 z0)) b (.inr (3, [.ref (b + 1), .null, .null]))) Q
  generalize hup (hnw G (b + 1) (BA 8 z0)) b (.inr (3, [.ref (b + 1), .null, .null])) = G1 at M1 ⊢
  refine V_aload_n rfl (by rfl) ?_
  refine V_bipush (v := nI 64) rfl (by decide) ?_
  refine V_nwI (bc' := 2) (bs' := 642) rfl (by decide) M1.2.1 (by omega) ⟨Nat.le_of_ble_eq_true rfl, Nat.le_of_ble_eq_true rfl⟩ ?_
  refine V_putF rfl rfl rfl rfl rfl rfl ((hnw_ne (by omega)).trans M1.1) (Nat.le_of_ble_eq_true rfl) ⟨narrow_ref _ _, rfl⟩ ?_
  have M2 : Mk G b (.inr (3, [.ref (b + 1), .ref (b + 2), .null])) ([] ++ [BA 8 z0] ++ [BA 64 z0]) (b + 3) (hup (hnw G1 (b + 2) (BA 64 z0)) b (.inr (3, [.ref (b + 1), .ref (b + 2), .null]))) := M1.arr
  show V K 2 642 _ _ _ _ (hup (hnw G1 (b + 2) (BA 64 z0)) b (.inr (3, [.ref (b + 1), .ref (b + 2), .null]))) Q
  generalize hup (hnw G1 (b + 2) (BA 64 z0)) b (.inr (3, [.ref (b + 1), .ref (b + 2), .null])) = G2 at M2 ⊢
  refine V_aload_n rfl (by rfl) ?_
  refine V_new (ci := 5) (bc' := 1) (bs' := 640) (fs := [.null, .int 0]) rfl rfl ⟨kl_X3_16, kn_X6⟩ rfl M2.2.1 (by omega) ⟨Nat.le_of_ble_eq_true rfl, Nat.le_of_ble_eq_true rfl⟩ ?_
  show V K 1 640 _ _ _ _ (hnw G2 (b + 3) (.inr (5, [.null, .int 0]))) Q
  refine V_dup rfl rfl ?_
  refine V_sipush (v := nI 640) rfl (by decide) ?_
  refine V_callI (M' := mX6_init) (mc := 1) (ms := 640) (bc' := 0) (bs' := 0) rfl cw_X3_18 ii_X6_init rfl (Nat.le_of_ble_eq_true rfl) ⟨Nat.le_of_ble_eq_true rfl, Nat.le_of_ble_eq_true rfl⟩ ⟨Nat.le_of_ble_eq_true rfl, Nat.le_of_ble_eq_true rfl⟩ (As := [.int (nI 640)]) (c_new6 (b := b + 3) (Q := fun o G' => o = .inl none ∧ G'.2 = some (b + 3 + (L6 640 (b + 3)).length) ∧ (∀ j, j < b + 3 → G'.1 j = (hnw G2 (b + 3) (.inr (5, [.null, .int 0]))).1 j) ∧ HL G' (b + 3) (L6 640 (b + 3))) hnw_eq rfl (by omega) (by decide) (fun G' h1 h2 h3 => ⟨rfl, h1, h2, h3⟩)) (fun E G' h => by cases h.1) (fun o G' h => ?_)
  obtain ⟨h0, n2, f2, l2⟩ := h
  cases h0
  have f2 : ∀ j, j < b + 3 → G'.1 j = G2.1 j := fun j hj => (f2 j hj).trans (hnw_ne (by omega))
  refine V_putF rfl rfl rfl rfl rfl rfl ((f2 b (by omega)).trans M2.1) (Nat.le_of_ble_eq_true rfl) ⟨narrow_ref _ _, rfl⟩ ?_
  have M3 : Mk G b (.inr (3, [.ref (b + 1), .ref (b + 2), .ref (b + 3)])) ([] ++ [BA 8 z0] ++ [BA 64 z0] ++ L6 640 (b + 3)) (b + 5) (hup (G') b (.inr (3, [.ref (b + 1), .ref (b + 2), .ref (b + 3)]))) := M2.sub n2 f2 l2
  show V K 0 0 _ _ _ _ (hup (G') b (.inr (3, [.ref (b + 1), .ref (b + 2), .ref (b + 3)]))) Q
  generalize hup (G') b (.inr (3, [.ref (b + 1), .ref (b + 2), .ref (b + 3)])) = G3 at M3 ⊢
  exact V_vret rfl rfl (hq _ M3.2.1 M3.2.2.1 M3.hl)
def L8 (b : Nat) : List kE := .inr (7, [.ref (b + 1), .ref (b + 2), .ref (b + 3)]) :: ([] ++ [BA 64 z0] ++ [BA 16 z0] ++ [BA 16 z0])
set_option maxHeartbeats 4000000 in
theorem c_new8 {b : Nat} (g : G.1 b = some (.inr (7, [.null, .null, .null]))) (hn : G.2 = some (b + 1)) (hb : b < 800000) (hq : ∀ G', G'.2 = some (b + 4) → (∀ j, j < b → G'.1 j = G.1 j) → HL G' b (L8 b) → Q (.inl none) G') : C K 3 96 mX8_init [.ref b] G Q := by
  have M0 : Mk G b (.inr (7, [.null, .null, .null])) [] (b + 1) G := ⟨g, hn, fun _ _ => rfl, rfl, HL.nil⟩
  refine C_of okX8_init (Nat.le_of_ble_eq_true rfl) ?_
  refine V_aload_n rfl (by rfl) ?_
  refine V_objinit rfl ⟨kk_X8_1, k_oi⟩ (Nat.le_of_ble_eq_true rfl) (Nat.le_of_ble_eq_true rfl) ?_
  refine V_aload_n rfl (by rfl) ?_
  refine V_bipush (v := nI 64) rfl (by decide) ?_
  refine V_nwI (bc' := 2) (bs' := 32) rfl (by decide) M0.2.1 (by omega) ⟨Nat.le_of_ble_eq_true rfl, Nat.le_of_ble_eq_true rfl⟩ ?_
  refine V_putF rfl rfl rfl rfl rfl rfl ((hnw_ne (by omega)).trans M0.1) (Nat.le_of_ble_eq_true rfl) ⟨narrow_ref _ _, rfl⟩ ?_
  have M1 : Mk G b (.inr (7, [.ref (b + 1), .null, .null])) ([] ++ [BA 64 z0]) (b + 2) (hup (hnw G (b + 1) (BA 64 z0)) b (.inr (7, [.ref (b + 1), .null, .null]))) := M0.arr
  show V K 2 32 _ _ _ _ (hup (hnw G (b + 1) (BA 64 z0)) b (.inr (7, [.ref (b + 1), .null, .null]))) Q
  generalize hup (hnw G (b + 1) (BA 64 z0)) b (.inr (7, [.ref (b + 1), .null, .null])) = G1 at M1 ⊢
  refine V_aload_n rfl (by rfl) ?_
  refine V_bipush (v := nI 16) rfl (by decide) ?_
  refine V_nwI (bc' := 1) (bs' := 16) rfl (by decide) M1.2.1 (by omega) ⟨Nat.le_of_ble_eq_true rfl, Nat.le_of_ble_eq_true rfl⟩ ?_
  refine V_putF rfl rfl rfl rfl rfl rfl ((hnw_ne (by omega)).trans M1.1) (Nat.le_of_ble_eq_true rfl) ⟨narrow_ref _ _, rfl⟩ ?_
  have M2 : Mk G b (.inr (7, [.ref (b + 1), .ref (b + 2), .null])) ([] ++ [BA 64 z0] ++ [BA 16 z0]) (b + 3) (hup (hnw G1 (b + 2) (BA 16 z0)) b (.inr (7, [.ref (b + 1), .ref (b + 2), .null]))) := M1.arr
  show V K 1 16 _ _ _ _ (hup (hnw G1 (b + 2) (BA 16 z0)) b (.inr (7, [.ref (b + 1), .ref (b + 2), .null]))) Q
  generalize hup (hnw G1 (b + 2) (BA 16 z0)) b (.inr (7, [.ref (b + 1), .ref (b + 2), .null])) = G2 at M2 ⊢
  refine V_aload_n rfl (by rfl) ?_
  refine V_bipush (v := nI 16) rfl (by decide) ?_
  refine V_nwI (bc' := 0) (bs' := 0) rfl (by decide) M2.2.1 (by omega) ⟨Nat.le_of_ble_eq_true rfl, Nat.le_of_ble_eq_true rfl⟩ ?_
  refine V_putF rfl rfl rfl rfl rfl rfl ((hnw_ne (by omega)).trans M2.1) (Nat.le_of_ble_eq_true rfl) ⟨narrow_ref _ _, rfl⟩ ?_
  have M3 : Mk G b (.inr (7, [.ref (b + 1), .ref (b + 2), .ref (b + 3)])) ([] ++ [BA 64 z0] ++ [BA 16 z0] ++ [BA 16 z0]) (b + 4) (hup (hnw G2 (b + 3) (BA 16 z0)) b (.inr (7, [.ref (b + 1), .ref (b + 2), .ref (b + 3)]))) := M2.arr
  show V K 0 0 _ _ _ _ (hup (hnw G2 (b + 3) (BA 16 z0)) b (.inr (7, [.ref (b + 1), .ref (b + 2), .ref (b + 3)]))) Q
  generalize hup (hnw G2 (b + 3) (BA 16 z0)) b (.inr (7, [.ref (b + 1), .ref (b + 2), .ref (b + 3)])) = G3 at M3 ⊢
  exact V_vret rfl rfl (hq _ M3.2.1 M3.2.2.1 M3.hl)
def L9 (b : Nat) : List kE := .inr (8, [.ref (b + 1), .ref (b + 2), .ref (b + 3), .ref (b + 4), .ref (b + 5)]) :: ([] ++ [BA 16 z0] ++ [BA 17 z0] ++ [LA 5 z0] ++ [LA 5 z0] ++ [LA 5 z0])
set_option maxHeartbeats 4000000 in
theorem c_new9 {b : Nat} (g : G.1 b = some (.inr (8, [.null, .null, .null, .null, .null]))) (hn : G.2 = some (b + 1)) (hb : b < 800000) (hq : ∀ G', G'.2 = some (b + 6) → (∀ j, j < b → G'.1 j = G.1 j) → HL G' b (L9 b) → Q (.inl none) G') : C K 5 48 mX9_init [.ref b] G Q := by
  have M0 : Mk G b (.inr (8, [.null, .null, .null, .null, .null])) [] (b + 1) G := ⟨g, hn, fun _ _ => rfl, rfl, HL.nil⟩
  refine C_of okX9_init (Nat.le_of_ble_eq_true rfl) ?_
  refine V_aload_n rfl (by rfl) ?_
  refine V_objinit rfl ⟨kk_X9_1, k_oi⟩ (Nat.le_of_ble_eq_true rfl) (Nat.le_of_ble_eq_true rfl) ?_
  refine V_aload_n rfl (by rfl) ?_
  refine V_bipush (v := nI 16) rfl (by decide) ?_
  refine V_nwI (bc' := 4) (bs' := 32) rfl (by decide) M0.2.1 (by omega) ⟨Nat.le_of_ble_eq_true rfl, Nat.le_of_ble_eq_true rfl⟩ ?_
  refine V_putF rfl rfl rfl rfl rfl rfl ((hnw_ne (by omega)).trans M0.1) (Nat.le_of_ble_eq_true rfl) ⟨narrow_ref _ _, rfl⟩ ?_
  have M1 : Mk G b (.inr (8, [.ref (b + 1), .null, .null, .null, .null])) ([] ++ [BA 16 z0]) (b + 2) (hup (hnw G (b + 1) (BA 16 z0)) b (.inr (8, [.ref (b + 1), .null, .null, .null, .null]))) := M0.arr
  show V K 4 32 _ _ _ _ (hup (hnw G (b + 1) (BA 16 z0)) b (.inr (8, [.ref (b + 1), .null, .null, .null, .null]))) Q
  generalize hup (hnw G (b + 1) (BA 16 z0)) b (.inr (8, [.ref (b + 1), .null, .null, .null, .null])) = G1 at M1 ⊢
  refine V_aload_n rfl (by rfl) ?_
  refine V_bipush (v := nI 17) rfl (by decide) ?_
  refine V_nwI (bc' := 3) (bs' := 15) rfl (by decide) M1.2.1 (by omega) ⟨Nat.le_of_ble_eq_true rfl, Nat.le_of_ble_eq_true rfl⟩ ?_
  refine V_putF rfl rfl rfl rfl rfl rfl ((hnw_ne (by omega)).trans M1.1) (Nat.le_of_ble_eq_true rfl) ⟨narrow_ref _ _, rfl⟩ ?_
  have M2 : Mk G b (.inr (8, [.ref (b + 1), .ref (b + 2), .null, .null, .null])) ([] ++ [BA 16 z0] ++ [BA 17 z0]) (b + 3) (hup (hnw G1 (b + 2) (BA 17 z0)) b (.inr (8, [.ref (b + 1), .ref (b + 2), .null, .null, .null]))) := M1.arr
  show V K 3 15 _ _ _ _ (hup (hnw G1 (b + 2) (BA 17 z0)) b (.inr (8, [.ref (b + 1), .ref (b + 2), .null, .null, .null]))) Q
  generalize hup (hnw G1 (b + 2) (BA 17 z0)) b (.inr (8, [.ref (b + 1), .ref (b + 2), .null, .null, .null])) = G2 at M2 ⊢
  refine V_aload_n rfl (by rfl) ?_
  refine V_iconst (v := nI 5) rfl (by decide) ?_
  refine V_nwL (bc' := 2) (bs' := 10) rfl (by decide) M2.2.1 (by omega) ⟨Nat.le_of_ble_eq_true rfl, Nat.le_of_ble_eq_true rfl⟩ ?_
  refine V_putF rfl rfl rfl rfl rfl rfl ((hnw_ne (by omega)).trans M2.1) (Nat.le_of_ble_eq_true rfl) ⟨narrow_ref _ _, rfl⟩ ?_
  have M3 : Mk G b (.inr (8, [.ref (b + 1), .ref (b + 2), .ref (b + 3), .null, .null])) ([] ++ [BA 16 z0] ++ [BA 17 z0] ++ [LA 5 z0]) (b + 4) (hup (hnw G2 (b + 3) (LA 5 z0)) b (.inr (8, [.ref (b + 1), .ref (b + 2), .ref (b + 3), .null, .null]))) := M2.arr
  show V K 2 10 _ _ _ _ (hup (hnw G2 (b + 3) (LA 5 z0)) b (.inr (8, [.ref (b + 1), .ref (b + 2), .ref (b + 3), .null, .null]))) Q
  generalize hup (hnw G2 (b + 3) (LA 5 z0)) b (.inr (8, [.ref (b + 1), .ref (b + 2), .ref (b + 3), .null, .null])) = G3 at M3 ⊢
  refine V_aload_n rfl (by rfl) ?_
  refine V_iconst (v := nI 5) rfl (by decide) ?_
  refine V_nwL (bc' := 1) (bs' := 5) rfl (by decide) M3.2.1 (by omega) ⟨Nat.le_of_ble_eq_true rfl, Nat.le_of_ble_eq_true rfl⟩ ?_
  refine V_putF rfl rfl rfl rfl rfl rfl ((hnw_ne (by omega)).trans M3.1) (Nat.le_of_ble_eq_true rfl) ⟨narrow_ref _ _, rfl⟩ ?_
  have M4 : Mk G b (.inr (8, [.ref (b + 1), .ref (b + 2), .ref (b + 3), .ref (b + 4), .null])) ([] ++ [BA 16 z0] ++ [BA 17 z0] ++ [LA 5 z0] ++ [LA 5 z0]) (b + 5) (hup (hnw G3 (b + 4) (LA 5 z0)) b (.inr (8, [.ref (b + 1), .ref (b + 2), .ref (b + 3), .ref (b + 4), .null]))) := M3.arr
  show V K 1 5 _ _ _ _ (hup (hnw G3 (b + 4) (LA 5 z0)) b (.inr (8, [.ref (b + 1), .ref (b + 2), .ref (b + 3), .ref (b + 4), .null]))) Q
  generalize hup (hnw G3 (b + 4) (LA 5 z0)) b (.inr (8, [.ref (b + 1), .ref (b + 2), .ref (b + 3), .ref (b + 4), .null])) = G4 at M4 ⊢
  refine V_aload_n rfl (by rfl) ?_
  refine V_iconst (v := nI 5) rfl (by decide) ?_
  refine V_nwL (bc' := 0) (bs' := 0) rfl (by decide) M4.2.1 (by omega) ⟨Nat.le_of_ble_eq_true rfl, Nat.le_of_ble_eq_true rfl⟩ ?_
  refine V_putF rfl rfl rfl rfl rfl rfl ((hnw_ne (by omega)).trans M4.1) (Nat.le_of_ble_eq_true rfl) ⟨narrow_ref _ _, rfl⟩ ?_
  have M5 : Mk G b (.inr (8, [.ref (b + 1), .ref (b + 2), .ref (b + 3), .ref (b + 4), .ref (b + 5)])) ([] ++ [BA 16 z0] ++ [BA 17 z0] ++ [LA 5 z0] ++ [LA 5 z0] ++ [LA 5 z0]) (b + 6) (hup (hnw G4 (b + 5) (LA 5 z0)) b (.inr (8, [.ref (b + 1), .ref (b + 2), .ref (b + 3), .ref (b + 4), .ref (b + 5)]))) := M4.arr
  show V K 0 0 _ _ _ _ (hup (hnw G4 (b + 5) (LA 5 z0)) b (.inr (8, [.ref (b + 1), .ref (b + 2), .ref (b + 3), .ref (b + 4), .ref (b + 5)]))) Q
  generalize hup (hnw G4 (b + 5) (LA 5 z0)) b (.inr (8, [.ref (b + 1), .ref (b + 2), .ref (b + 3), .ref (b + 4), .ref (b + 5)])) = G5 at M5 ⊢
  exact V_vret rfl rfl (hq _ M5.2.1 M5.2.2.1 M5.hl)
def L7 (b : Nat) : List kE := .inr (6, [.ref (b + 1), .ref (b + 5), .ref (b + 11)]) :: ([] ++ L8 (b + 1) ++ L9 (b + 5) ++ L6 228 (b + 11))
set_option maxHeartbeats 4000000 in
theorem c_new7 {b : Nat} (g : G.1 b = some (.inr (6, [.null, .null, .null]))) (hn : G.2 = some (b + 1)) (hb : b < 700000) (hq : ∀ G', G'.2 = some (b + 13) → (∀ j, j < b → G'.1 j = G.1 j) → HL G' b (L7 b) → Q (.inl none) G') : C K 12 382 mX7_init [.ref b] G Q := by
  have M0 : Mk G b (.inr (6, [.null, .null, .null])) [] (b + 1) G := ⟨g, hn, fun _ _ => rfl, rfl, HL.nil⟩
  refine C_of okX7_init (Nat.le_of_ble_eq_true rfl) ?_
  refine V_aload_n rfl (by rfl) ?_
  refine V_objinit rfl ⟨kk_X7_3, k_oi⟩ (Nat.le_of_ble_eq_true rfl) (Nat.le_of_ble_eq_true rfl) ?_
  refine V_aload_n rfl (by rfl) ?_
  refine V_new (ci := 7) (bc' := 11) (bs' := 379) (fs := [.null, .null, .null]) rfl rfl ⟨kl_X7_9, kn_X8⟩ rfl M0.2.1 (by omega) ⟨Nat.le_of_ble_eq_true rfl, Nat.le_of_ble_eq_true rfl⟩ ?_
  show V K 11 379 _ _ _ _ (hnw G (b + 1) (.inr (7, [.null, .null, .null]))) Q
  refine V_dup rfl rfl ?_
  refine V_callN (M' := mX8_init) (mc := 3) (ms := 96) (bc' := 8) (bs' := 283) rfl (List.mem_of_getElem? (i := 3) (by rfl)) okX8_init (by decide +kernel) ii_X8_init rfl (Nat.le_of_ble_eq_true rfl) ⟨Nat.le_of_ble_eq_true rfl, Nat.le_of_ble_eq_true rfl⟩ ⟨Nat.le_of_ble_eq_true rfl, Nat.le_of_ble_eq_true rfl⟩ (As := []) (c_new8 (b := b + 1) (Q := fun o G' => o = .inl none ∧ G'.2 = some (b + 1 + (L8 (b + 1)).length) ∧ (∀ j, j < b + 1 → G'.1 j = (hnw G (b + 1) (.inr (7, [.null, .null, .null]))).1 j) ∧ HL G' (b + 1) (L8 (b + 1))) hnw_eq rfl (by omega) (fun G' h1 h2 h3 => ⟨rfl, h1, h2, h3⟩)) (fun E G' h => by cases h.1) (fun o G' h => ?_)
  obtain ⟨h0, n0, f0, l0⟩ := h
  cases h0
  have f0 : ∀ j, j < b + 1 → G'.1 j = G.1 j := fun j hj => (f0 j hj).trans (hnw_ne (by omega))
  refine V_putF rfl rfl rfl rfl rfl rfl ((f0 b (by omega)).trans M0.1) (Nat.le_of_ble_eq_true rfl) ⟨narrow_ref _ _, rfl⟩ ?_
  have M1 : Mk G b (.inr (6, [.ref (b + 1), .null, .null])) ([] ++ L8 (b + 1)) (b + 5) (hup (G') b (.inr (6, [.ref (b + 1), .null, .null]))) := M0.sub n0 f0 l0
  show V K 8 283 _ _ _ _ (hup (G') b (.inr (6, [.ref (b + 1), .null, .null]))) Q
  generalize hup (G') b (.inr (6, [.ref (b + 1), .null, .null])) = G1 at M1 ⊢
  refine V_aload_n rfl (by rfl) ?_
  refine V_new (ci := 8) (bc' := 7) (bs' := 278) (fs := [.null, .null, .null, .null, .null]) rfl rfl ⟨kl_X7_18, kn_X9⟩ rfl M1.2.1 (by omega) ⟨Nat.le_of_ble_eq_true rfl, Nat.le_of_ble_eq_true rfl⟩ ?_
  show V K 7 278 _ _ _ _ (hnw G1 (b + 5) (.inr (8, [.null, .null, .null, .null, .null]))) Q
  refine V_dup rfl rfl ?_
  refine V_callN (M' := mX9_init) (mc := 5) (ms := 48) (bc' := 2) (bs' := 230) rfl (List.mem_of_getElem? (i := 4) (by rfl)) okX9_init (by decide +kernel) ii_X9_init rfl (Nat.le_of_ble_eq_true rfl) ⟨Nat.le_of_ble_eq_true rfl, Nat.le_of_ble_eq_true rfl⟩ ⟨Nat.le_of_ble_eq_true rfl, Nat.le_of_ble_eq_true rfl⟩ (As := []) (c_new9 (b := b + 5) (Q := fun o G' => o = .inl none ∧ G'.2 = some (b + 5 + (L9 (b + 5)).length) ∧ (∀ j, j < b + 5 → G'.1 j = (hnw G1 (b + 5) (.inr (8, [.null, .null, .null, .null, .null]))).1 j) ∧ HL G' (b + 5) (L9 (b + 5))) hnw_eq rfl (by omega) (fun G' h1 h2 h3 => ⟨rfl, h1, h2, h3⟩)) (fun E G' h => by cases h.1) (fun o G' h => ?_)
  obtain ⟨h0, n1, f1, l1⟩ := h
  cases h0
  have f1 : ∀ j, j < b + 5 → G'.1 j = G1.1 j := fun j hj => (f1 j hj).trans (hnw_ne (by omega))
  refine V_putF rfl rfl rfl rfl rfl rfl ((f1 b (by omega)).trans M1.1) (Nat.le_of_ble_eq_true rfl) ⟨narrow_ref _ _, rfl⟩ ?_
  have M2 : Mk G b (.inr (6, [.ref (b + 1), .ref (b + 5), .null])) ([] ++ L8 (b + 1) ++ L9 (b + 5)) (b + 11) (hup (G') b (.inr (6, [.ref (b + 1), .ref (b + 5), .null]))) := M1.sub n1 f1 l1
  show V K 2 230 _ _ _ _ (hup (G') b (.inr (6, [.ref (b + 1), .ref (b + 5), .null]))) Q
  generalize hup (G') b (.inr (6, [.ref (b + 1), .ref (b + 5), .null])) = G2 at M2 ⊢
  refine V_aload_n rfl (by rfl) ?_
  refine V_new (ci := 5) (bc' := 1) (bs' := 228) (fs := [.null, .int 0]) rfl rfl ⟨kl_X7_25, kn_X6⟩ rfl M2.2.1 (by omega) ⟨Nat.le_of_ble_eq_true rfl, Nat.le_of_ble_eq_true rfl⟩ ?_
  show V K 1 228 _ _ _ _ (hnw G2 (b + 11) (.inr (5, [.null, .int 0]))) Q
  refine V_dup rfl rfl ?_
  refine V_sipush (v := nI 228) rfl (by decide) ?_
  refine V_callI (M' := mX6_init) (mc := 1) (ms := 228) (bc' := 0) (bs' := 0) rfl cw_X7_27 ii_X6_init rfl (Nat.le_of_ble_eq_true rfl) ⟨Nat.le_of_ble_eq_true rfl, Nat.le_of_ble_eq_true rfl⟩ ⟨Nat.le_of_ble_eq_true rfl, Nat.le_of_ble_eq_true rfl⟩ (As := [.int (nI 228)]) (c_new6 (b := b + 11) (Q := fun o G' => o = .inl none ∧ G'.2 = some (b + 11 + (L6 228 (b + 11)).length) ∧ (∀ j, j < b + 11 → G'.1 j = (hnw G2 (b + 11) (.inr (5, [.null, .int 0]))).1 j) ∧ HL G' (b + 11) (L6 228 (b + 11))) hnw_eq rfl (by omega) (by decide) (fun G' h1 h2 h3 => ⟨rfl, h1, h2, h3⟩)) (fun E G' h => by cases h.1) (fun o G' h => ?_)
  obtain ⟨h0, n2, f2, l2⟩ := h
  cases h0
  have f2 : ∀ j, j < b + 11 → G'.1 j = G2.1 j := fun j hj => (f2 j hj).trans (hnw_ne (by omega))
  refine V_putF rfl rfl rfl rfl rfl rfl ((f2 b (by omega)).trans M2.1) (Nat.le_of_ble_eq_true rfl) ⟨narrow_ref _ _, rfl⟩ ?_
  have M3 : Mk G b (.inr (6, [.ref (b + 1), .ref (b + 5), .ref (b + 11)])) ([] ++ L8 (b + 1) ++ L9 (b + 5) ++ L6 228 (b + 11)) (b + 13) (hup (G') b (.inr (6, [.ref (b + 1), .ref (b + 5), .ref (b + 11)]))) := M2.sub n2 f2 l2
  show V K 0 0 _ _ _ _ (hup (G') b (.inr (6, [.ref (b + 1), .ref (b + 5), .ref (b + 11)]))) Q
  generalize hup (G') b (.inr (6, [.ref (b + 1), .ref (b + 5), .ref (b + 11)])) = G3 at M3 ⊢
  exact V_vret rfl rfl (hq _ M3.2.1 M3.2.2.1 M3.hl)
def L4 (b : Nat) : List kE := .inr (4, [.ref (b + 1), .ref (b + 2), .int 0]) :: ([] ++ [BA 32 z0] ++ [BA 32 z0])
set_option maxHeartbeats 4000000 in
theorem c_new4 {b : Nat} (g : G.1 b = some (.inr (4, [.null, .null, .int 0]))) (hn : G.2 = some (b + 1)) (hb : b < 800000) (hq : ∀ G', G'.2 = some (b + 3) → (∀ j, j < b → G'.1 j = G.1 j) → HL G' b (L4 b) → Q (.inl none) G') : C K 2 64 mX4_init [.ref b] G Q := by
  have M0 : Mk G b (.inr (4, [.null, .null, .int 0])) [] (b + 1) G := ⟨g, hn, fun _ _ => rfl, rfl, HL.nil⟩
  refine C_of okX4_init (Nat.le_of_ble_eq_true rfl) ?_
  refine V_aload_n rfl (by rfl) ?_
  refine V_objinit rfl ⟨kk_X4_3, k_oi⟩ (Nat.le_of_ble_eq_true rfl) (Nat.le_of_ble_eq_true rfl) ?_
  refine V_aload_n rfl (by rfl) ?_
  refine V_bipush (v := nI 32) rfl (by decide) ?_
  refine V_nwI (bc' := 1) (bs' := 32) rfl (by decide) M0.2.1 (by omega) ⟨Nat.le_of_ble_eq_true rfl, Nat.le_of_ble_eq_true rfl⟩ ?_
  refine V_putF rfl rfl rfl rfl rfl rfl ((hnw_ne (by omega)).trans M0.1) (Nat.le_of_ble_eq_true rfl) ⟨narrow_ref _ _, rfl⟩ ?_
  have M1 : Mk G b (.inr (4, [.ref (b + 1), .null, .int 0])) ([] ++ [BA 32 z0]) (b + 2) (hup (hnw G (b + 1) (BA 32 z0)) b (.inr (4, [.ref (b + 1), .null, .int 0]))) := M0.arr
  show V K 1 32 _ _ _ _ (hup (hnw G (b + 1) (BA 32 z0)) b (.inr (4, [.ref (b + 1), .null, .int 0]))) Q
  generalize hup (hnw G (b + 1) (BA 32 z0)) b (.inr (4, [.ref (b + 1), .null, .int 0])) = G1 at M1 ⊢
  refine V_aload_n rfl (by rfl) ?_
  refine V_bipush (v := nI 32) rfl (by decide) ?_
  refine V_nwI (bc' := 0) (bs' := 0) rfl (by decide) M1.2.1 (by omega) ⟨Nat.le_of_ble_eq_true rfl, Nat.le_of_ble_eq_true rfl⟩ ?_
  refine V_putF rfl rfl rfl rfl rfl rfl ((hnw_ne (by omega)).trans M1.1) (Nat.le_of_ble_eq_true rfl) ⟨narrow_ref _ _, rfl⟩ ?_
  have M2 : Mk G b (.inr (4, [.ref (b + 1), .ref (b + 2), .int 0])) ([] ++ [BA 32 z0] ++ [BA 32 z0]) (b + 3) (hup (hnw G1 (b + 2) (BA 32 z0)) b (.inr (4, [.ref (b + 1), .ref (b + 2), .int 0]))) := M1.arr
  show V K 0 0 _ _ _ _ (hup (hnw G1 (b + 2) (BA 32 z0)) b (.inr (4, [.ref (b + 1), .ref (b + 2), .int 0]))) Q
  generalize hup (hnw G1 (b + 2) (BA 32 z0)) b (.inr (4, [.ref (b + 1), .ref (b + 2), .int 0])) = G2 at M2 ⊢
  exact V_vret rfl rfl (hq _ M2.2.1 M2.2.2.1 M2.hl)
def L2 (b : Nat) : List kE := .inr (2, [.ref (b + 1), .ref (b + 2), .ref (b + 3), .ref (b + 4), .ref (b + 5), .int 0, .int 0, .int 0, .int 0, .int 0]) :: ([] ++ [BA 9 z0] ++ [BA 9 z0] ++ [BA 32 z0] ++ [BA 32 z0] ++ L4 (b + 5))
set_option maxHeartbeats 4000000 in
theorem c_new2 {b : Nat} (g : G.1 b = some (.inr (2, [.null, .null, .null, .null, .null, .int 0, .int 0, .int 0, .int 0, .int 0]))) (hn : G.2 = some (b + 1)) (hb : b < 700000) (hq : ∀ G', G'.2 = some (b + 8) → (∀ j, j < b → G'.1 j = G.1 j) → HL G' b (L2 b) → Q (.inl none) G') : C K 7 149 mX2_init [.ref b] G Q := by
  have M0 : Mk G b (.inr (2, [.null, .null, .null, .null, .null, .int 0, .int 0, .int 0, .int 0, .int 0])) [] (b + 1) G := ⟨g, hn, fun _ _ => rfl, rfl, HL.nil⟩
  refine C_of okX2_init (Nat.le_of_ble_eq_true rfl) ?_
  refine V_aload_n rfl (by rfl) ?_
  refine V_objinit rfl ⟨kk_X2_3, k_oi⟩ (Nat.le_of_ble_eq_true rfl) (Nat.le_of_ble_eq_true rfl) ?_
  refine V_aload_n rfl (by rfl) ?_
  refine V_bipush (v := nI 9) rfl (by decide) ?_
  refine V_nwI (bc' := 6) (bs' := 140) rfl (by decide) M0.2.1 (by omega) ⟨Nat.le_of_ble_eq_true rfl, Nat.le_of_ble_eq_true rfl⟩ ?_
  refine V_putF rfl rfl rfl rfl rfl rfl ((hnw_ne (by omega)).trans M0.1) (Nat.le_of_ble_eq_true rfl) ⟨narrow_ref _ _, rfl⟩ ?_
  have M1 : Mk G b (.inr (2, [.ref (b + 1), .null, .null, .null, .null, .int 0, .int 0, .int 0, .int 0, .int 0])) ([] ++ [BA 9 z0]) (b + 2) (hup (hnw G (b + 1) (BA 9 z0)) b (.inr (2, [.ref (b + 1), .null, .null, .null, .null, .int 0, .int 0, .int 0, .int 0, .int 0]))) := M0.arr
  show V K 6 140 _ _ _ _ (hup (hnw G (b + 1) (BA 9 z0)) b (.inr (2, [.ref (b + 1), .null, .null, .null, .null, .int 0, .int 0, .int 0, .int 0, .int 0]))) Q
  generalize hup (hnw G (b + 1) (BA 9 z0)) b (.inr (2, [.ref (b + 1), .null, .null, .null, .null, .int 0, .int 0, .int 0, .int 0, .int 0])) = G1 at M1 ⊢
  refine V_aload_n rfl (by rfl) ?_
  refine V_bipush (v := nI 9) rfl (by decide) ?_
  refine V_nwI (bc' := 5) (bs' := 131) rfl (by decide) M1.2.1 (by omega) ⟨Nat.le_of_ble_eq_true rfl, Nat.le_of_ble_eq_true rfl⟩ ?_
  refine V_putF rfl rfl rfl rfl rfl rfl ((hnw_ne (by omega)).trans M1.1) (Nat.le_of_ble_eq_true rfl) ⟨narrow_ref _ _, rfl⟩ ?_
  have M2 : Mk G b (.inr (2, [.ref (b + 1), .ref (b + 2), .null, .null, .null, .int 0, .int 0, .int 0, .int 0, .int 0])) ([] ++ [BA 9 z0] ++ [BA 9 z0]) (b + 3) (hup (hnw G1 (b + 2) (BA 9 z0)) b (.inr (2, [.ref (b + 1), .ref (b + 2), .null, .null, .null, .int 0, .int 0, .int 0, .int 0, .int 0]))) := M1.arr
  show V K 5 131 _ _ _ _ (hup (hnw G1 (b + 2) (BA 9 z0)) b (.inr (2, [.ref (b + 1), .ref (b + 2), .null, .null, .null, .int 0, .int 0, .int 0, .int 0, .int 0]))) Q
  generalize hup (hnw G1 (b + 2) (BA 9 z0)) b (.inr (2, [.ref (b + 1), .ref (b + 2), .null, .null, .null, .int 0, .int 0, .int 0, .int 0, .int 0])) = G2 at M2 ⊢
  refine V_aload_n rfl (by rfl) ?_
  refine V_bipush (v := nI 32) rfl (by decide) ?_
  refine V_nwI (bc' := 4) (bs' := 99) rfl (by decide) M2.2.1 (by omega) ⟨Nat.le_of_ble_eq_true rfl, Nat.le_of_ble_eq_true rfl⟩ ?_
  refine V_putF rfl rfl rfl rfl rfl rfl ((hnw_ne (by omega)).trans M2.1) (Nat.le_of_ble_eq_true rfl) ⟨narrow_ref _ _, rfl⟩ ?_
  have M3 : Mk G b (.inr (2, [.ref (b + 1), .ref (b + 2), .ref (b + 3), .null, .null, .int 0, .int 0, .int 0, .int 0, .int 0])) ([] ++ [BA 9 z0] ++ [BA 9 z0] ++ [BA 32 z0]) (b + 4) (hup (hnw G2 (b + 3) (BA 32 z0)) b (.inr (2, [.ref (b + 1), .ref (b + 2), .ref (b + 3), .null, .null, .int 0, .int 0, .int 0, .int 0, .int 0]))) := M2.arr
  show V K 4 99 _ _ _ _ (hup (hnw G2 (b + 3) (BA 32 z0)) b (.inr (2, [.ref (b + 1), .ref (b + 2), .ref (b + 3), .null, .null, .int 0, .int 0, .int 0, .int 0, .int 0]))) Q
  generalize hup (hnw G2 (b + 3) (BA 32 z0)) b (.inr (2, [.ref (b + 1), .ref (b + 2), .ref (b + 3), .null, .null, .int 0, .int 0, .int 0, .int 0, .int 0])) = G3 at M3 ⊢
  refine V_aload_n rfl (by rfl) ?_
  refine V_bipush (v := nI 32) rfl (by decide) ?_
  refine V_nwI (bc' := 3) (bs' := 67) rfl (by decide) M3.2.1 (by omega) ⟨Nat.le_of_ble_eq_true rfl, Nat.le_of_ble_eq_true rfl⟩ ?_
  refine V_putF rfl rfl rfl rfl rfl rfl ((hnw_ne (by omega)).trans M3.1) (Nat.le_of_ble_eq_true rfl) ⟨narrow_ref _ _, rfl⟩ ?_
  have M4 : Mk G b (.inr (2, [.ref (b + 1), .ref (b + 2), .ref (b + 3), .ref (b + 4), .null, .int 0, .int 0, .int 0, .int 0, .int 0])) ([] ++ [BA 9 z0] ++ [BA 9 z0] ++ [BA 32 z0] ++ [BA 32 z0]) (b + 5) (hup (hnw G3 (b + 4) (BA 32 z0)) b (.inr (2, [.ref (b + 1), .ref (b + 2), .ref (b + 3), .ref (b + 4), .null, .int 0, .int 0, .int 0, .int 0, .int 0]))) := M3.arr
  show V K 3 67 _ _ _ _ (hup (hnw G3 (b + 4) (BA 32 z0)) b (.inr (2, [.ref (b + 1), .ref (b + 2), .ref (b + 3), .ref (b + 4), .null, .int 0, .int 0, .int 0, .int 0, .int 0]))) Q
  generalize hup (hnw G3 (b + 4) (BA 32 z0)) b (.inr (2, [.ref (b + 1), .ref (b + 2), .ref (b + 3), .ref (b + 4), .null, .int 0, .int 0, .int 0, .int 0, .int 0])) = G4 at M4 ⊢
  refine V_aload_n rfl (by rfl) ?_
  refine V_new (ci := 4) (bc' := 2) (bs' := 64) (fs := [.null, .null, .int 0]) rfl rfl ⟨kl_X2_24, kn_X4⟩ rfl M4.2.1 (by omega) ⟨Nat.le_of_ble_eq_true rfl, Nat.le_of_ble_eq_true rfl⟩ ?_
  show V K 2 64 _ _ _ _ (hnw G4 (b + 5) (.inr (4, [.null, .null, .int 0]))) Q
  refine V_dup rfl rfl ?_
  refine V_callN (M' := mX4_init) (mc := 2) (ms := 64) (bc' := 0) (bs' := 0) rfl (List.mem_of_getElem? (i := 8) (by rfl)) okX4_init (by decide +kernel) ii_X4_init rfl (Nat.le_of_ble_eq_true rfl) ⟨Nat.le_of_ble_eq_true rfl, Nat.le_of_ble_eq_true rfl⟩ ⟨Nat.le_of_ble_eq_true rfl, Nat.le_of_ble_eq_true rfl⟩ (As := []) (c_new4 (b := b + 5) (Q := fun o G' => o = .inl none ∧ G'.2 = some (b + 5 + (L4 (b + 5)).length) ∧ (∀ j, j < b + 5 → G'.1 j = (hnw G4 (b + 5) (.inr (4, [.null, .null, .int 0]))).1 j) ∧ HL G' (b + 5) (L4 (b + 5))) hnw_eq rfl (by omega) (fun G' h1 h2 h3 => ⟨rfl, h1, h2, h3⟩)) (fun E G' h => by cases h.1) (fun o G' h => ?_)
  obtain ⟨h0, n4, f4, l4⟩ := h
  cases h0
  have f4 : ∀ j, j < b + 5 → G'.1 j = G4.1 j := fun j hj => (f4 j hj).trans (hnw_ne (by omega))
  refine V_putF rfl rfl rfl rfl rfl rfl ((f4 b (by omega)).trans M4.1) (Nat.le_of_ble_eq_true rfl) ⟨narrow_ref _ _, rfl⟩ ?_
  have M5 : Mk G b (.inr (2, [.ref (b + 1), .ref (b + 2), .ref (b + 3), .ref (b + 4), .ref (b + 5), .int 0, .int 0, .int 0, .int 0, .int 0])) ([] ++ [BA 9 z0] ++ [BA 9 z0] ++ [BA 32 z0] ++ [BA 32 z0] ++ L4 (b + 5)) (b + 8) (hup (G') b (.inr (2, [.ref (b + 1), .ref (b + 2), .ref (b + 3), .ref (b + 4), .ref (b + 5), .int 0, .int 0, .int 0, .int 0, .int 0]))) := M4.sub n4 f4 l4
  show V K 0 0 _ _ _ _ (hup (G') b (.inr (2, [.ref (b + 1), .ref (b + 2), .ref (b + 3), .ref (b + 4), .ref (b + 5), .int 0, .int 0, .int 0, .int 0, .int 0]))) Q
  generalize hup (G') b (.inr (2, [.ref (b + 1), .ref (b + 2), .ref (b + 3), .ref (b + 4), .ref (b + 5), .int 0, .int 0, .int 0, .int 0, .int 0])) = G5 at M5 ⊢
  exact V_vret rfl rfl (hq _ M5.2.1 M5.2.2.1 M5.hl)
def L10 (b : Nat) : List kE := .inr (9, [.ref (b + 1), .int 0, .int 0]) :: AR 12 (wfn b 12) :: ([] ++ L6 228 (b + 2) ++ L6 228 (b + 4) ++ L6 228 (b + 6) ++ L6 228 (b + 8) ++ L6 228 (b + 10) ++ L6 228 (b + 12) ++ L6 228 (b + 14) ++ L6 228 (b + 16) ++ L6 228 (b + 18) ++ L6 228 (b + 20) ++ L6 228 (b + 22) ++ L6 228 (b + 24))
set_option maxHeartbeats 4000000 in
theorem c_new10 {b : Nat} (g : G.1 b = some (.inr (9, [.null, .int 0, .int 0]))) (hn : G.2 = some (b + 1)) (hb : b < 700000) (hq : ∀ G', G'.2 = some (b + 26) → (∀ j, j < b → G'.1 j = G.1 j) → HL G' b (L10 b) → Q (.inl none) G') : C K 25 2772 mX10_init [.ref b] G Q := by
  have M0 : Mk G b (.inr (9, [.null, .int 0, .int 0])) [] (b + 1) G := ⟨g, hn, fun _ _ => rfl, rfl, HL.nil⟩
  refine C_of okX10_init (Nat.le_of_ble_eq_true rfl) ?_
  refine V_aload_n rfl (by rfl) ?_
  refine V_objinit rfl ⟨kk_X10_3, k_oi⟩ (Nat.le_of_ble_eq_true rfl) (Nat.le_of_ble_eq_true rfl) ?_
  refine V_aload_n rfl (by rfl) ?_
  refine V_bipush (v := nI 12) rfl (by decide) ?_
  refine V_newq (N := 12) (bc' := 24) (bs' := 2760) rfl kl_X10_9 (by decide) (by decide) (by decide) M0.2.1 (by omega) ⟨Nat.le_of_ble_eq_true rfl, Nat.le_of_ble_eq_true rfl⟩ ?_
  refine V_putF rfl rfl rfl rfl rfl rfl ((hnw_ne (G := G) (k := b + 1) (e := AR 12 (wfn b 0)) (by omega)).trans M0.1) (Nat.le_of_ble_eq_true rfl) ⟨narrow_ref _ _, rfl⟩ ?_
  have M1 : Mk G b (.inr (9, [.ref (b + 1), .int 0, .int 0])) ([] ++ [AR 12 (wfn b 0)]) (b + 2) (hup (hnw G (b + 1) (AR 12 (wfn b 0))) b (.inr (9, [.ref (b + 1), .int 0, .int 0]))) := M0.arr
  show V K 24 2760 _ _ _ _ (hup (hnw G (b + 1) (AR 12 (wfn b 0))) b (.inr (9, [.ref (b + 1), .int 0, .int 0]))) Q
  generalize hup (hnw G (b + 1) (AR 12 (wfn b 0))) b (.inr (9, [.ref (b + 1), .int 0, .int 0])) = G1 at M1 ⊢
  refine V_iconst (v := nI 0) rfl (by decide) ?_
  refine V_istore_n rfl (by decide) ?_
  have A1 : G1.1 (b + 1) = some (AR 12 (wfn b 0)) := M1.2.2.2.2 0 (Nat.le_of_ble_eq_true rfl)
  have B1 : ∀ j, j < b → G1.1 j = G.1 j := M1.2.2.1
  have N1 : G1.2 = some (b + 2) := M1.2.1
  have O1 : G1.1 b = some (.inr (9, [.ref (b + 1), .int 0, .int 0])) := M1.1
  have H1 : HL G1 (b + 2) [] := HL.nil
  refine V_iload_n rfl (by rfl) ?_
  refine V_bipush (v := nI 12) rfl (by decide) ?_
  refine V_icmp_geN rfl (by decide) (by decide) (fun z => absurd z (by decide)) (fun _ => ?_)
  refine V_aload_n rfl (by rfl) ?_
  refine V_getf rfl rfl rfl O1 (by rfl) ?_
  refine V_iload_n rfl (by rfl) ?_
  refine V_new (ci := 5) (bc' := 23) (bs' := 2758) (fs := [.null, .int 0]) rfl rfl ⟨kl_X10_9, kn_X6⟩ rfl N1 (by omega) ⟨Nat.le_of_ble_eq_true rfl, Nat.le_of_ble_eq_true rfl⟩ ?_
  show V K 23 2758 _ _ _ _ (hnw G1 (b + 2) (.inr (5, [.null, .int 0]))) Q
  refine V_dup rfl rfl ?_
  refine V_sipush (v := nI 228) rfl (by decide) ?_
  refine V_callI (M' := mX6_init) (mc := 1) (ms := 228) (bc' := 22) (bs' := 2530) rfl cw_X10_19 ii_X6_init rfl (Nat.le_of_ble_eq_true rfl) ⟨Nat.le_of_ble_eq_true rfl, Nat.le_of_ble_eq_true rfl⟩ ⟨Nat.le_of_ble_eq_true rfl, Nat.le_of_ble_eq_true rfl⟩ (As := [.int (nI 228)]) (c_new6 (b := b + 2) (Q := fun o G' => o = .inl none ∧ G'.2 = some (b + 4) ∧ (∀ j, j < b + 2 → G'.1 j = (hnw G1 (b + 2) (.inr (5, [.null, .int 0]))).1 j) ∧ HL G' (b + 2) (L6 228 (b + 2))) hnw_eq rfl (by omega) (by decide) (fun G' h1 h2 h3 => ⟨rfl, h1, h2, h3⟩)) (fun E G' h => by cases h.1) (fun o G1' h => ?_)
  obtain ⟨h0, n1, f1, l1⟩ := h
  cases h0
  have f1 : ∀ j, j < b + 2 → G1'.1 j = G1.1 j := fun j hj => (f1 j hj).trans (hnw_ne (by omega))
  refine V_aast rfl ((f1 _ (by omega)).trans A1) (l1 0 (Nat.le_of_ble_eq_true rfl)) (vp_in_nI (by decide) (by decide)) ?_
  show V K 22 2530 _ _ _ _ (hup G1' (b + 1) (AR 12 (wfn b 1))) Q
  obtain ⟨G2, hG2⟩ : ∃ G9, G9 = hup G1' (b + 1) (AR 12 (wfn b 1)) := ⟨_, rfl⟩
  rw [← hG2]
  have A2 : G2.1 (b + 1) = some (AR 12 (wfn b 1)) := by rw [hG2]; exact hup_eq
  have D2 : ∀ j, j ≠ b + 1 → G2.1 j = G1'.1 j := fun j hj => by rw [hG2]; exact hup_ne hj
  have N2 : G2.2 = some (b + 4) := by rw [hG2]; exact n1
  clear hG2
  have B2 : ∀ j, j < b → G2.1 j = G.1 j := fun j hj => (D2 j (by omega)).trans ((f1 j (by omega)).trans (B1 j hj))
  have O2 : G2.1 b = some (.inr (9, [.ref (b + 1), .int 0, .int 0])) := (D2 _ (by omega)).trans ((f1 _ (by omega)).trans O1)
  have e1 : b + 2 + (([] : List kE)).length = b + 2 := rfl
  have H2 : HL G2 (b + 2) ([] ++ L6 228 (b + 2)) := (H1.fp (fun j a c => (D2 j (by omega)).trans (f1 j (by omega)))).app (by rw [e1]; exact l1.fp (fun j a c => D2 j (by omega)))
  refine V_iincN (d := 1) rfl (by rfl) (by decide) (by decide) ?_
  refine V_goto rfl ?_
  refine V_iload_n rfl (by rfl) ?_
  refine V_bipush (v := nI 12) rfl (by decide) ?_
  refine V_icmp_geN rfl (by decide) (by decide) (fun z => absurd z (by decide)) (fun _ => ?_)
  refine V_aload_n rfl (by rfl) ?_
  refine V_getf rfl rfl rfl O2 (by rfl) ?_
  refine V_iload_n rfl (by rfl) ?_
  refine V_new (ci := 5) (bc' := 21) (bs' := 2528) (fs := [.null, .int 0]) rfl rfl ⟨kl_X10_9, kn_X6⟩ rfl N2 (by omega) ⟨Nat.le_of_ble_eq_true rfl, Nat.le_of_ble_eq_true rfl⟩ ?_
  show V K 21 2528 _ _ _ _ (hnw G2 (b + 4) (.inr (5, [.null, .int 0]))) Q
  refine V_dup rfl rfl ?_
  refine V_sipush (v := nI 228) rfl (by decide) ?_
  refine V_callI (M' := mX6_init) (mc := 1) (ms := 228) (bc' := 20) (bs' := 2300) rfl cw_X10_19 ii_X6_init rfl (Nat.le_of_ble_eq_true rfl) ⟨Nat.le_of_ble_eq_true rfl, Nat.le_of_ble_eq_true rfl⟩ ⟨Nat.le_of_ble_eq_true rfl, Nat.le_of_ble_eq_true rfl⟩ (As := [.int (nI 228)]) (c_new6 (b := b + 4) (Q := fun o G' => o = .inl none ∧ G'.2 = some (b + 6) ∧ (∀ j, j < b + 4 → G'.1 j = (hnw G2 (b + 4) (.inr (5, [.null, .int 0]))).1 j) ∧ HL G' (b + 4) (L6 228 (b + 4))) hnw_eq rfl (by omega) (by decide) (fun G' h1 h2 h3 => ⟨rfl, h1, h2, h3⟩)) (fun E G' h => by cases h.1) (fun o G2' h => ?_)
  obtain ⟨h0, n2, f2, l2⟩ := h
  cases h0
  have f2 : ∀ j, j < b + 4 → G2'.1 j = G2.1 j := fun j hj => (f2 j hj).trans (hnw_ne (by omega))
  refine V_aast rfl ((f2 _ (by omega)).trans A2) (l2 0 (Nat.le_of_ble_eq_true rfl)) (vp_in_nI (by decide) (by decide)) ?_
  show V K 20 2300 _ _ _ _ (hup G2' (b + 1) (AR 12 (wfn b 2))) Q
  obtain ⟨G3, hG3⟩ : ∃ G9, G9 = hup G2' (b + 1) (AR 12 (wfn b 2)) := ⟨_, rfl⟩
  rw [← hG3]
  have A3 : G3.1 (b + 1) = some (AR 12 (wfn b 2)) := by rw [hG3]; exact hup_eq
  have D3 : ∀ j, j ≠ b + 1 → G3.1 j = G2'.1 j := fun j hj => by rw [hG3]; exact hup_ne hj
  have N3 : G3.2 = some (b + 6) := by rw [hG3]; exact n2
  clear hG3
  have B3 : ∀ j, j < b → G3.1 j = G.1 j := fun j hj => (D3 j (by omega)).trans ((f2 j (by omega)).trans (B2 j hj))
  have O3 : G3.1 b = some (.inr (9, [.ref (b + 1), .int 0, .int 0])) := (D3 _ (by omega)).trans ((f2 _ (by omega)).trans O2)
  have e2 : b + 2 + (([] : List kE) ++ L6 228 (b + 2)).length = b + 4 := rfl
  have H3 : HL G3 (b + 2) ([] ++ L6 228 (b + 2) ++ L6 228 (b + 4)) := (H2.fp (fun j a c => (D3 j (by omega)).trans (f2 j (by omega)))).app (by rw [e2]; exact l2.fp (fun j a c => D3 j (by omega)))
  refine V_iincN (d := 1) rfl (by rfl) (by decide) (by decide) ?_
  refine V_goto rfl ?_
  refine V_iload_n rfl (by rfl) ?_
  refine V_bipush (v := nI 12) rfl (by decide) ?_
  refine V_icmp_geN rfl (by decide) (by decide) (fun z => absurd z (by decide)) (fun _ => ?_)
  refine V_aload_n rfl (by rfl) ?_
  refine V_getf rfl rfl rfl O3 (by rfl) ?_
  refine V_iload_n rfl (by rfl) ?_
  refine V_new (ci := 5) (bc' := 19) (bs' := 2298) (fs := [.null, .int 0]) rfl rfl ⟨kl_X10_9, kn_X6⟩ rfl N3 (by omega) ⟨Nat.le_of_ble_eq_true rfl, Nat.le_of_ble_eq_true rfl⟩ ?_
  show V K 19 2298 _ _ _ _ (hnw G3 (b + 6) (.inr (5, [.null, .int 0]))) Q
  refine V_dup rfl rfl ?_
  refine V_sipush (v := nI 228) rfl (by decide) ?_
  refine V_callI (M' := mX6_init) (mc := 1) (ms := 228) (bc' := 18) (bs' := 2070) rfl cw_X10_19 ii_X6_init rfl (Nat.le_of_ble_eq_true rfl) ⟨Nat.le_of_ble_eq_true rfl, Nat.le_of_ble_eq_true rfl⟩ ⟨Nat.le_of_ble_eq_true rfl, Nat.le_of_ble_eq_true rfl⟩ (As := [.int (nI 228)]) (c_new6 (b := b + 6) (Q := fun o G' => o = .inl none ∧ G'.2 = some (b + 8) ∧ (∀ j, j < b + 6 → G'.1 j = (hnw G3 (b + 6) (.inr (5, [.null, .int 0]))).1 j) ∧ HL G' (b + 6) (L6 228 (b + 6))) hnw_eq rfl (by omega) (by decide) (fun G' h1 h2 h3 => ⟨rfl, h1, h2, h3⟩)) (fun E G' h => by cases h.1) (fun o G3' h => ?_)
  obtain ⟨h0, n3, f3, l3⟩ := h
  cases h0
  have f3 : ∀ j, j < b + 6 → G3'.1 j = G3.1 j := fun j hj => (f3 j hj).trans (hnw_ne (by omega))
  refine V_aast rfl ((f3 _ (by omega)).trans A3) (l3 0 (Nat.le_of_ble_eq_true rfl)) (vp_in_nI (by decide) (by decide)) ?_
  show V K 18 2070 _ _ _ _ (hup G3' (b + 1) (AR 12 (wfn b 3))) Q
  obtain ⟨G4, hG4⟩ : ∃ G9, G9 = hup G3' (b + 1) (AR 12 (wfn b 3)) := ⟨_, rfl⟩
  rw [← hG4]
  have A4 : G4.1 (b + 1) = some (AR 12 (wfn b 3)) := by rw [hG4]; exact hup_eq
  have D4 : ∀ j, j ≠ b + 1 → G4.1 j = G3'.1 j := fun j hj => by rw [hG4]; exact hup_ne hj
  have N4 : G4.2 = some (b + 8) := by rw [hG4]; exact n3
  clear hG4
  have B4 : ∀ j, j < b → G4.1 j = G.1 j := fun j hj => (D4 j (by omega)).trans ((f3 j (by omega)).trans (B3 j hj))
  have O4 : G4.1 b = some (.inr (9, [.ref (b + 1), .int 0, .int 0])) := (D4 _ (by omega)).trans ((f3 _ (by omega)).trans O3)
  have e3 : b + 2 + (([] : List kE) ++ L6 228 (b + 2) ++ L6 228 (b + 4)).length = b + 6 := rfl
  have H4 : HL G4 (b + 2) ([] ++ L6 228 (b + 2) ++ L6 228 (b + 4) ++ L6 228 (b + 6)) := (H3.fp (fun j a c => (D4 j (by omega)).trans (f3 j (by omega)))).app (by rw [e3]; exact l3.fp (fun j a c => D4 j (by omega)))
  refine V_iincN (d := 1) rfl (by rfl) (by decide) (by decide) ?_
  refine V_goto rfl ?_
  refine V_iload_n rfl (by rfl) ?_
  refine V_bipush (v := nI 12) rfl (by decide) ?_
  refine V_icmp_geN rfl (by decide) (by decide) (fun z => absurd z (by decide)) (fun _ => ?_)
  refine V_aload_n rfl (by rfl) ?_
  refine V_getf rfl rfl rfl O4 (by rfl) ?_
  refine V_iload_n rfl (by rfl) ?_
  refine V_new (ci := 5) (bc' := 17) (bs' := 2068) (fs := [.null, .int 0]) rfl rfl ⟨kl_X10_9, kn_X6⟩ rfl N4 (by omega) ⟨Nat.le_of_ble_eq_true rfl, Nat.le_of_ble_eq_true rfl⟩ ?_
  show V K 17 2068 _ _ _ _ (hnw G4 (b + 8) (.inr (5, [.null, .int 0]))) Q
  refine V_dup rfl rfl ?_
  refine V_sipush (v := nI 228) rfl (by decide) ?_
  refine V_callI (M' := mX6_init) (mc := 1) (ms := 228) (bc' := 16) (bs' := 1840) rfl cw_X10_19 ii_X6_init rfl (Nat.le_of_ble_eq_true rfl) ⟨Nat.le_of_ble_eq_true rfl, Nat.le_of_ble_eq_true rfl⟩ ⟨Nat.le_of_ble_eq_true rfl, Nat.le_of_ble_eq_true rfl⟩ (As := [.int (nI 228)]) (c_new6 (b := b + 8) (Q := fun o G' => o = .inl none ∧ G'.2 = some (b + 10) ∧ (∀ j, j < b + 8 → G'.1 j = (hnw G4 (b + 8) (.inr (5, [.null, .int 0]))).1 j) ∧ HL G' (b + 8) (L6 228 (b + 8))) hnw_eq rfl (by omega) (by decide) (fun G' h1 h2 h3 => ⟨rfl, h1, h2, h3⟩)) (fun E G' h => by cases h.1) (fun o G4' h => ?_)
  obtain ⟨h0, n4, f4, l4⟩ := h
  cases h0
  have f4 : ∀ j, j < b + 8 → G4'.1 j = G4.1 j := fun j hj => (f4 j hj).trans (hnw_ne (by omega))
  refine V_aast rfl ((f4 _ (by omega)).trans A4) (l4 0 (Nat.le_of_ble_eq_true rfl)) (vp_in_nI (by decide) (by decide)) ?_
  show V K 16 1840 _ _ _ _ (hup G4' (b + 1) (AR 12 (wfn b 4))) Q
  obtain ⟨G5, hG5⟩ : ∃ G9, G9 = hup G4' (b + 1) (AR 12 (wfn b 4)) := ⟨_, rfl⟩
  rw [← hG5]
  have A5 : G5.1 (b + 1) = some (AR 12 (wfn b 4)) := by rw [hG5]; exact hup_eq
  have D5 : ∀ j, j ≠ b + 1 → G5.1 j = G4'.1 j := fun j hj => by rw [hG5]; exact hup_ne hj
  have N5 : G5.2 = some (b + 10) := by rw [hG5]; exact n4
  clear hG5
  have B5 : ∀ j, j < b → G5.1 j = G.1 j := fun j hj => (D5 j (by omega)).trans ((f4 j (by omega)).trans (B4 j hj))
  have O5 : G5.1 b = some (.inr (9, [.ref (b + 1), .int 0, .int 0])) := (D5 _ (by omega)).trans ((f4 _ (by omega)).trans O4)
  have e4 : b + 2 + (([] : List kE) ++ L6 228 (b + 2) ++ L6 228 (b + 4) ++ L6 228 (b + 6)).length = b + 8 := rfl
  have H5 : HL G5 (b + 2) ([] ++ L6 228 (b + 2) ++ L6 228 (b + 4) ++ L6 228 (b + 6) ++ L6 228 (b + 8)) := (H4.fp (fun j a c => (D5 j (by omega)).trans (f4 j (by omega)))).app (by rw [e4]; exact l4.fp (fun j a c => D5 j (by omega)))
  refine V_iincN (d := 1) rfl (by rfl) (by decide) (by decide) ?_
  refine V_goto rfl ?_
  refine V_iload_n rfl (by rfl) ?_
  refine V_bipush (v := nI 12) rfl (by decide) ?_
  refine V_icmp_geN rfl (by decide) (by decide) (fun z => absurd z (by decide)) (fun _ => ?_)
  refine V_aload_n rfl (by rfl) ?_
  refine V_getf rfl rfl rfl O5 (by rfl) ?_
  refine V_iload_n rfl (by rfl) ?_
  refine V_new (ci := 5) (bc' := 15) (bs' := 1838) (fs := [.null, .int 0]) rfl rfl ⟨kl_X10_9, kn_X6⟩ rfl N5 (by omega) ⟨Nat.le_of_ble_eq_true rfl, Nat.le_of_ble_eq_true rfl⟩ ?_
  show V K 15 1838 _ _ _ _ (hnw G5 (b + 10) (.inr (5, [.null, .int 0]))) Q
  refine V_dup rfl rfl ?_
  refine V_sipush (v := nI 228) rfl (by decide) ?_
  refine V_callI (M' := mX6_init) (mc := 1) (ms := 228) (bc' := 14) (bs' := 1610) rfl cw_X10_19 ii_X6_init rfl (Nat.le_of_ble_eq_true rfl) ⟨Nat.le_of_ble_eq_true rfl, Nat.le_of_ble_eq_true rfl⟩ ⟨Nat.le_of_ble_eq_true rfl, Nat.le_of_ble_eq_true rfl⟩ (As := [.int (nI 228)]) (c_new6 (b := b + 10) (Q := fun o G' => o = .inl none ∧ G'.2 = some (b + 12) ∧ (∀ j, j < b + 10 → G'.1 j = (hnw G5 (b + 10) (.inr (5, [.null, .int 0]))).1 j) ∧ HL G' (b + 10) (L6 228 (b + 10))) hnw_eq rfl (by omega) (by decide) (fun G' h1 h2 h3 => ⟨rfl, h1, h2, h3⟩)) (fun E G' h => by cases h.1) (fun o G5' h => ?_)
  obtain ⟨h0, n5, f5, l5⟩ := h
  cases h0
  have f5 : ∀ j, j < b + 10 → G5'.1 j = G5.1 j := fun j hj => (f5 j hj).trans (hnw_ne (by omega))
  refine V_aast rfl ((f5 _ (by omega)).trans A5) (l5 0 (Nat.le_of_ble_eq_true rfl)) (vp_in_nI (by decide) (by decide)) ?_
  show V K 14 1610 _ _ _ _ (hup G5' (b + 1) (AR 12 (wfn b 5))) Q
  obtain ⟨G6, hG6⟩ : ∃ G9, G9 = hup G5' (b + 1) (AR 12 (wfn b 5)) := ⟨_, rfl⟩
  rw [← hG6]
  have A6 : G6.1 (b + 1) = some (AR 12 (wfn b 5)) := by rw [hG6]; exact hup_eq
  have D6 : ∀ j, j ≠ b + 1 → G6.1 j = G5'.1 j := fun j hj => by rw [hG6]; exact hup_ne hj
  have N6 : G6.2 = some (b + 12) := by rw [hG6]; exact n5
  clear hG6
  have B6 : ∀ j, j < b → G6.1 j = G.1 j := fun j hj => (D6 j (by omega)).trans ((f5 j (by omega)).trans (B5 j hj))
  have O6 : G6.1 b = some (.inr (9, [.ref (b + 1), .int 0, .int 0])) := (D6 _ (by omega)).trans ((f5 _ (by omega)).trans O5)
  have e5 : b + 2 + (([] : List kE) ++ L6 228 (b + 2) ++ L6 228 (b + 4) ++ L6 228 (b + 6) ++ L6 228 (b + 8)).length = b + 10 := rfl
  have H6 : HL G6 (b + 2) ([] ++ L6 228 (b + 2) ++ L6 228 (b + 4) ++ L6 228 (b + 6) ++ L6 228 (b + 8) ++ L6 228 (b + 10)) := (H5.fp (fun j a c => (D6 j (by omega)).trans (f5 j (by omega)))).app (by rw [e5]; exact l5.fp (fun j a c => D6 j (by omega)))
  refine V_iincN (d := 1) rfl (by rfl) (by decide) (by decide) ?_
  refine V_goto rfl ?_
  refine V_iload_n rfl (by rfl) ?_
  refine V_bipush (v := nI 12) rfl (by decide) ?_
  refine V_icmp_geN rfl (by decide) (by decide) (fun z => absurd z (by decide)) (fun _ => ?_)
  refine V_aload_n rfl (by rfl) ?_
  refine V_getf rfl rfl rfl O6 (by rfl) ?_
  refine V_iload_n rfl (by rfl) ?_
  refine V_new (ci := 5) (bc' := 13) (bs' := 1608) (fs := [.null, .int 0]) rfl rfl ⟨kl_X10_9, kn_X6⟩ rfl N6 (by omega) ⟨Nat.le_of_ble_eq_true rfl, Nat.le_of_ble_eq_true rfl⟩ ?_
  show V K 13 1608 _ _ _ _ (hnw G6 (b + 12) (.inr (5, [.null, .int 0]))) Q
  refine V_dup rfl rfl ?_
  refine V_sipush (v := nI 228) rfl (by decide) ?_
  refine V_callI (M' := mX6_init) (mc := 1) (ms := 228) (bc' := 12) (bs' := 1380) rfl cw_X10_19 ii_X6_init rfl (Nat.le_of_ble_eq_true rfl) ⟨Nat.le_of_ble_eq_true rfl, Nat.le_of_ble_eq_true rfl⟩ ⟨Nat.le_of_ble_eq_true rfl, Nat.le_of_ble_eq_true rfl⟩ (As := [.int (nI 228)]) (c_new6 (b := b + 12) (Q := fun o G' => o = .inl none ∧ G'.2 = some (b + 14) ∧ (∀ j, j < b + 12 → G'.1 j = (hnw G6 (b + 12) (.inr (5, [.null, .int 0]))).1 j) ∧ HL G' (b + 12) (L6 228 (b + 12))) hnw_eq rfl (by omega) (by decide) (fun G' h1 h2 h3 => ⟨rfl, h1, h2, h3⟩)) (fun E G' h => by cases h.1) (fun o G6' h => ?_)
  obtain ⟨h0, n6, f6, l6⟩ := h
  cases h0
  have f6 : ∀ j, j < b + 12 → G6'.1 j = G6.1 j := fun j hj => (f6 j hj).trans (hnw_ne (by omega))
  refine V_aast rfl ((f6 _ (by omega)).trans A6) (l6 0 (Nat.le_of_ble_eq_true rfl)) (vp_in_nI (by decide) (by decide)) ?_
  show V K 12 1380 _ _ _ _ (hup G6' (b + 1) (AR 12 (wfn b 6))) Q
  obtain ⟨G7, hG7⟩ : ∃ G9, G9 = hup G6' (b + 1) (AR 12 (wfn b 6)) := ⟨_, rfl⟩
  rw [← hG7]
  have A7 : G7.1 (b + 1) = some (AR 12 (wfn b 6)) := by rw [hG7]; exact hup_eq
  have D7 : ∀ j, j ≠ b + 1 → G7.1 j = G6'.1 j := fun j hj => by rw [hG7]; exact hup_ne hj
  have N7 : G7.2 = some (b + 14) := by rw [hG7]; exact n6
  clear hG7
  have B7 : ∀ j, j < b → G7.1 j = G.1 j := fun j hj => (D7 j (by omega)).trans ((f6 j (by omega)).trans (B6 j hj))
  have O7 : G7.1 b = some (.inr (9, [.ref (b + 1), .int 0, .int 0])) := (D7 _ (by omega)).trans ((f6 _ (by omega)).trans O6)
  have e6 : b + 2 + (([] : List kE) ++ L6 228 (b + 2) ++ L6 228 (b + 4) ++ L6 228 (b + 6) ++ L6 228 (b + 8) ++ L6 228 (b + 10)).length = b + 12 := rfl
  have H7 : HL G7 (b + 2) ([] ++ L6 228 (b + 2) ++ L6 228 (b + 4) ++ L6 228 (b + 6) ++ L6 228 (b + 8) ++ L6 228 (b + 10) ++ L6 228 (b + 12)) := (H6.fp (fun j a c => (D7 j (by omega)).trans (f6 j (by omega)))).app (by rw [e6]; exact l6.fp (fun j a c => D7 j (by omega)))
  refine V_iincN (d := 1) rfl (by rfl) (by decide) (by decide) ?_
  refine V_goto rfl ?_
  refine V_iload_n rfl (by rfl) ?_
  refine V_bipush (v := nI 12) rfl (by decide) ?_
  refine V_icmp_geN rfl (by decide) (by decide) (fun z => absurd z (by decide)) (fun _ => ?_)
  refine V_aload_n rfl (by rfl) ?_
  refine V_getf rfl rfl rfl O7 (by rfl) ?_
  refine V_iload_n rfl (by rfl) ?_
  refine V_new (ci := 5) (bc' := 11) (bs' := 1378) (fs := [.null, .int 0]) rfl rfl ⟨kl_X10_9, kn_X6⟩ rfl N7 (by omega) ⟨Nat.le_of_ble_eq_true rfl, Nat.le_of_ble_eq_true rfl⟩ ?_
  show V K 11 1378 _ _ _ _ (hnw G7 (b + 14) (.inr (5, [.null, .int 0]))) Q
  refine V_dup rfl rfl ?_
  refine V_sipush (v := nI 228) rfl (by decide) ?_
  refine V_callI (M' := mX6_init) (mc := 1) (ms := 228) (bc' := 10) (bs' := 1150) rfl cw_X10_19 ii_X6_init rfl (Nat.le_of_ble_eq_true rfl) ⟨Nat.le_of_ble_eq_true rfl, Nat.le_of_ble_eq_true rfl⟩ ⟨Nat.le_of_ble_eq_true rfl, Nat.le_of_ble_eq_true rfl⟩ (As := [.int (nI 228)]) (c_new6 (b := b + 14) (Q := fun o G' => o = .inl none ∧ G'.2 = some (b + 16) ∧ (∀ j, j < b + 14 → G'.1 j = (hnw G7 (b + 14) (.inr (5, [.null, .int 0]))).1 j) ∧ HL G' (b + 14) (L6 228 (b + 14))) hnw_eq rfl (by omega) (by decide) (fun G' h1 h2 h3 => ⟨rfl, h1, h2, h3⟩)) (fun E G' h => by cases h.1) (fun o G7' h => ?_)
  obtain ⟨h0, n7, f7, l7⟩ := h
  cases h0
  have f7 : ∀ j, j < b + 14 → G7'.1 j = G7.1 j := fun j hj => (f7 j hj).trans (hnw_ne (by omega))
  refine V_aast rfl ((f7 _ (by omega)).trans A7) (l7 0 (Nat.le_of_ble_eq_true rfl)) (vp_in_nI (by decide) (by decide)) ?_
  show V K 10 1150 _ _ _ _ (hup G7' (b + 1) (AR 12 (wfn b 7))) Q
  obtain ⟨G8, hG8⟩ : ∃ G9, G9 = hup G7' (b + 1) (AR 12 (wfn b 7)) := ⟨_, rfl⟩
  rw [← hG8]
  have A8 : G8.1 (b + 1) = some (AR 12 (wfn b 7)) := by rw [hG8]; exact hup_eq
  have D8 : ∀ j, j ≠ b + 1 → G8.1 j = G7'.1 j := fun j hj => by rw [hG8]; exact hup_ne hj
  have N8 : G8.2 = some (b + 16) := by rw [hG8]; exact n7
  clear hG8
  have B8 : ∀ j, j < b → G8.1 j = G.1 j := fun j hj => (D8 j (by omega)).trans ((f7 j (by omega)).trans (B7 j hj))
  have O8 : G8.1 b = some (.inr (9, [.ref (b + 1), .int 0, .int 0])) := (D8 _ (by omega)).trans ((f7 _ (by omega)).trans O7)
  have e7 : b + 2 + (([] : List kE) ++ L6 228 (b + 2) ++ L6 228 (b + 4) ++ L6 228 (b + 6) ++ L6 228 (b + 8) ++ L6 228 (b + 10) ++ L6 228 (b + 12)).length = b + 14 := rfl
  have H8 : HL G8 (b + 2) ([] ++ L6 228 (b + 2) ++ L6 228 (b + 4) ++ L6 228 (b + 6) ++ L6 228 (b + 8) ++ L6 228 (b + 10) ++ L6 228 (b + 12) ++ L6 228 (b + 14)) := (H7.fp (fun j a c => (D8 j (by omega)).trans (f7 j (by omega)))).app (by rw [e7]; exact l7.fp (fun j a c => D8 j (by omega)))
  refine V_iincN (d := 1) rfl (by rfl) (by decide) (by decide) ?_
  refine V_goto rfl ?_
  refine V_iload_n rfl (by rfl) ?_
  refine V_bipush (v := nI 12) rfl (by decide) ?_
  refine V_icmp_geN rfl (by decide) (by decide) (fun z => absurd z (by decide)) (fun _ => ?_)
  refine V_aload_n rfl (by rfl) ?_
  refine V_getf rfl rfl rfl O8 (by rfl) ?_
  refine V_iload_n rfl (by rfl) ?_
  refine V_new (ci := 5) (bc' := 9) (bs' := 1148) (fs := [.null, .int 0]) rfl rfl ⟨kl_X10_9, kn_X6⟩ rfl N8 (by omega) ⟨Nat.le_of_ble_eq_true rfl, Nat.le_of_ble_eq_true rfl⟩ ?_
  show V K 9 1148 _ _ _ _ (hnw G8 (b + 16) (.inr (5, [.null, .int 0]))) Q
  refine V_dup rfl rfl ?_
  refine V_sipush (v := nI 228) rfl (by decide) ?_
  refine V_callI (M' := mX6_init) (mc := 1) (ms := 228) (bc' := 8) (bs' := 920) rfl cw_X10_19 ii_X6_init rfl (Nat.le_of_ble_eq_true rfl) ⟨Nat.le_of_ble_eq_true rfl, Nat.le_of_ble_eq_true rfl⟩ ⟨Nat.le_of_ble_eq_true rfl, Nat.le_of_ble_eq_true rfl⟩ (As := [.int (nI 228)]) (c_new6 (b := b + 16) (Q := fun o G' => o = .inl none ∧ G'.2 = some (b + 18) ∧ (∀ j, j < b + 16 → G'.1 j = (hnw G8 (b + 16) (.inr (5, [.null, .int 0]))).1 j) ∧ HL G' (b + 16) (L6 228 (b + 16))) hnw_eq rfl (by omega) (by decide) (fun G' h1 h2 h3 => ⟨rfl, h1, h2, h3⟩)) (fun E G' h => by cases h.1) (fun o G8' h => ?_)
  obtain ⟨h0, n8, f8, l8⟩ := h
  cases h0
  have f8 : ∀ j, j < b + 16 → G8'.1 j = G8.1 j := fun j hj => (f8 j hj).trans (hnw_ne (by omega))
  refine V_aast rfl ((f8 _ (by omega)).trans A8) (l8 0 (Nat.le_of_ble_eq_true rfl)) (vp_in_nI (by decide) (by decide)) ?_
  show V K 8 920 _ _ _ _ (hup G8' (b + 1) (AR 12 (wfn b 8))) Q
  obtain ⟨G9, hG9⟩ : ∃ G9, G9 = hup G8' (b + 1) (AR 12 (wfn b 8)) := ⟨_, rfl⟩
  rw [← hG9]
  have A9 : G9.1 (b + 1) = some (AR 12 (wfn b 8)) := by rw [hG9]; exact hup_eq
  have D9 : ∀ j, j ≠ b + 1 → G9.1 j = G8'.1 j := fun j hj => by rw [hG9]; exact hup_ne hj
  have N9 : G9.2 = some (b + 18) := by rw [hG9]; exact n8
  clear hG9
  have B9 : ∀ j, j < b → G9.1 j = G.1 j := fun j hj => (D9 j (by omega)).trans ((f8 j (by omega)).trans (B8 j hj))
  have O9 : G9.1 b = some (.inr (9, [.ref (b + 1), .int 0, .int 0])) := (D9 _ (by omega)).trans ((f8 _ (by omega)).trans O8)
  have e8 : b + 2 + (([] : List kE) ++ L6 228 (b + 2) ++ L6 228 (b + 4) ++ L6 228 (b + 6) ++ L6 228 (b + 8) ++ L6 228 (b + 10) ++ L6 228 (b + 12) ++ L6 228 (b + 14)).length = b + 16 := rfl
  have H9 : HL G9 (b + 2) ([] ++ L6 228 (b + 2) ++ L6 228 (b + 4) ++ L6 228 (b + 6) ++ L6 228 (b + 8) ++ L6 228 (b + 10) ++ L6 228 (b + 12) ++ L6 228 (b + 14) ++ L6 228 (b + 16)) := (H8.fp (fun j a c => (D9 j (by omega)).trans (f8 j (by omega)))).app (by rw [e8]; exact l8.fp (fun j a c => D9 j (by omega)))
  refine V_iincN (d := 1) rfl (by rfl) (by decide) (by decide) ?_
  refine V_goto rfl ?_
  refine V_iload_n rfl (by rfl) ?_
  refine V_bipush (v := nI 12) rfl (by decide) ?_
  refine V_icmp_geN rfl (by decide) (by decide) (fun z => absurd z (by decide)) (fun _ => ?_)
  refine V_aload_n rfl (by rfl) ?_
  refine V_getf rfl rfl rfl O9 (by rfl) ?_
  refine V_iload_n rfl (by rfl) ?_
  refine V_new (ci := 5) (bc' := 7) (bs' := 918) (fs := [.null, .int 0]) rfl rfl ⟨kl_X10_9, kn_X6⟩ rfl N9 (by omega) ⟨Nat.le_of_ble_eq_true rfl, Nat.le_of_ble_eq_true rfl⟩ ?_
  show V K 7 918 _ _ _ _ (hnw G9 (b + 18) (.inr (5, [.null, .int 0]))) Q
  refine V_dup rfl rfl ?_
  refine V_sipush (v := nI 228) rfl (by decide) ?_
  refine V_callI (M' := mX6_init) (mc := 1) (ms := 228) (bc' := 6) (bs' := 690) rfl cw_X10_19 ii_X6_init rfl (Nat.le_of_ble_eq_true rfl) ⟨Nat.le_of_ble_eq_true rfl, Nat.le_of_ble_eq_true rfl⟩ ⟨Nat.le_of_ble_eq_true rfl, Nat.le_of_ble_eq_true rfl⟩ (As := [.int (nI 228)]) (c_new6 (b := b + 18) (Q := fun o G' => o = .inl none ∧ G'.2 = some (b + 20) ∧ (∀ j, j < b + 18 → G'.1 j = (hnw G9 (b + 18) (.inr (5, [.null, .int 0]))).1 j) ∧ HL G' (b + 18) (L6 228 (b + 18))) hnw_eq rfl (by omega) (by decide) (fun G' h1 h2 h3 => ⟨rfl, h1, h2, h3⟩)) (fun E G' h => by cases h.1) (fun o G9' h => ?_)
  obtain ⟨h0, n9, f9, l9⟩ := h
  cases h0
  have f9 : ∀ j, j < b + 18 → G9'.1 j = G9.1 j := fun j hj => (f9 j hj).trans (hnw_ne (by omega))
  refine V_aast rfl ((f9 _ (by omega)).trans A9) (l9 0 (Nat.le_of_ble_eq_true rfl)) (vp_in_nI (by decide) (by decide)) ?_
  show V K 6 690 _ _ _ _ (hup G9' (b + 1) (AR 12 (wfn b 9))) Q
  obtain ⟨G10, hG10⟩ : ∃ G9, G9 = hup G9' (b + 1) (AR 12 (wfn b 9)) := ⟨_, rfl⟩
  rw [← hG10]
  have A10 : G10.1 (b + 1) = some (AR 12 (wfn b 9)) := by rw [hG10]; exact hup_eq
  have D10 : ∀ j, j ≠ b + 1 → G10.1 j = G9'.1 j := fun j hj => by rw [hG10]; exact hup_ne hj
  have N10 : G10.2 = some (b + 20) := by rw [hG10]; exact n9
  clear hG10
  have B10 : ∀ j, j < b → G10.1 j = G.1 j := fun j hj => (D10 j (by omega)).trans ((f9 j (by omega)).trans (B9 j hj))
  have O10 : G10.1 b = some (.inr (9, [.ref (b + 1), .int 0, .int 0])) := (D10 _ (by omega)).trans ((f9 _ (by omega)).trans O9)
  have e9 : b + 2 + (([] : List kE) ++ L6 228 (b + 2) ++ L6 228 (b + 4) ++ L6 228 (b + 6) ++ L6 228 (b + 8) ++ L6 228 (b + 10) ++ L6 228 (b + 12) ++ L6 228 (b + 14) ++ L6 228 (b + 16)).length = b + 18 := rfl
  have H10 : HL G10 (b + 2) ([] ++ L6 228 (b + 2) ++ L6 228 (b + 4) ++ L6 228 (b + 6) ++ L6 228 (b + 8) ++ L6 228 (b + 10) ++ L6 228 (b + 12) ++ L6 228 (b + 14) ++ L6 228 (b + 16) ++ L6 228 (b + 18)) := (H9.fp (fun j a c => (D10 j (by omega)).trans (f9 j (by omega)))).app (by rw [e9]; exact l9.fp (fun j a c => D10 j (by omega)))
  refine V_iincN (d := 1) rfl (by rfl) (by decide) (by decide) ?_
  refine V_goto rfl ?_
  refine V_iload_n rfl (by rfl) ?_
  refine V_bipush (v := nI 12) rfl (by decide) ?_
  refine V_icmp_geN rfl (by decide) (by decide) (fun z => absurd z (by decide)) (fun _ => ?_)
  refine V_aload_n rfl (by rfl) ?_
  refine V_getf rfl rfl rfl O10 (by rfl) ?_
  refine V_iload_n rfl (by rfl) ?_
  refine V_new (ci := 5) (bc' := 5) (bs' := 688) (fs := [.null, .int 0]) rfl rfl ⟨kl_X10_9, kn_X6⟩ rfl N10 (by omega) ⟨Nat.le_of_ble_eq_true rfl, Nat.le_of_ble_eq_true rfl⟩ ?_
  show V K 5 688 _ _ _ _ (hnw G10 (b + 20) (.inr (5, [.null, .int 0]))) Q
  refine V_dup rfl rfl ?_
  refine V_sipush (v := nI 228) rfl (by decide) ?_
  refine V_callI (M' := mX6_init) (mc := 1) (ms := 228) (bc' := 4) (bs' := 460) rfl cw_X10_19 ii_X6_init rfl (Nat.le_of_ble_eq_true rfl) ⟨Nat.le_of_ble_eq_true rfl, Nat.le_of_ble_eq_true rfl⟩ ⟨Nat.le_of_ble_eq_true rfl, Nat.le_of_ble_eq_true rfl⟩ (As := [.int (nI 228)]) (c_new6 (b := b + 20) (Q := fun o G' => o = .inl none ∧ G'.2 = some (b + 22) ∧ (∀ j, j < b + 20 → G'.1 j = (hnw G10 (b + 20) (.inr (5, [.null, .int 0]))).1 j) ∧ HL G' (b + 20) (L6 228 (b + 20))) hnw_eq rfl (by omega) (by decide) (fun G' h1 h2 h3 => ⟨rfl, h1, h2, h3⟩)) (fun E G' h => by cases h.1) (fun o G10' h => ?_)
  obtain ⟨h0, n10, f10, l10⟩ := h
  cases h0
  have f10 : ∀ j, j < b + 20 → G10'.1 j = G10.1 j := fun j hj => (f10 j hj).trans (hnw_ne (by omega))
  refine V_aast rfl ((f10 _ (by omega)).trans A10) (l10 0 (Nat.le_of_ble_eq_true rfl)) (vp_in_nI (by decide) (by decide)) ?_
  show V K 4 460 _ _ _ _ (hup G10' (b + 1) (AR 12 (wfn b 10))) Q
  obtain ⟨G11, hG11⟩ : ∃ G9, G9 = hup G10' (b + 1) (AR 12 (wfn b 10)) := ⟨_, rfl⟩
  rw [← hG11]
  have A11 : G11.1 (b + 1) = some (AR 12 (wfn b 10)) := by rw [hG11]; exact hup_eq
  have D11 : ∀ j, j ≠ b + 1 → G11.1 j = G10'.1 j := fun j hj => by rw [hG11]; exact hup_ne hj
  have N11 : G11.2 = some (b + 22) := by rw [hG11]; exact n10
  clear hG11
  have B11 : ∀ j, j < b → G11.1 j = G.1 j := fun j hj => (D11 j (by omega)).trans ((f10 j (by omega)).trans (B10 j hj))
  have O11 : G11.1 b = some (.inr (9, [.ref (b + 1), .int 0, .int 0])) := (D11 _ (by omega)).trans ((f10 _ (by omega)).trans O10)
  have e10 : b + 2 + (([] : List kE) ++ L6 228 (b + 2) ++ L6 228 (b + 4) ++ L6 228 (b + 6) ++ L6 228 (b + 8) ++ L6 228 (b + 10) ++ L6 228 (b + 12) ++ L6 228 (b + 14) ++ L6 228 (b + 16) ++ L6 228 (b + 18)).length = b + 20 := rfl
  have H11 : HL G11 (b + 2) ([] ++ L6 228 (b + 2) ++ L6 228 (b + 4) ++ L6 228 (b + 6) ++ L6 228 (b + 8) ++ L6 228 (b + 10) ++ L6 228 (b + 12) ++ L6 228 (b + 14) ++ L6 228 (b + 16) ++ L6 228 (b + 18) ++ L6 228 (b + 20)) := (H10.fp (fun j a c => (D11 j (by omega)).trans (f10 j (by omega)))).app (by rw [e10]; exact l10.fp (fun j a c => D11 j (by omega)))
  refine V_iincN (d := 1) rfl (by rfl) (by decide) (by decide) ?_
  refine V_goto rfl ?_
  refine V_iload_n rfl (by rfl) ?_
  refine V_bipush (v := nI 12) rfl (by decide) ?_
  refine V_icmp_geN rfl (by decide) (by decide) (fun z => absurd z (by decide)) (fun _ => ?_)
  refine V_aload_n rfl (by rfl) ?_
  refine V_getf rfl rfl rfl O11 (by rfl) ?_
  refine V_iload_n rfl (by rfl) ?_
  refine V_new (ci := 5) (bc' := 3) (bs' := 458) (fs := [.null, .int 0]) rfl rfl ⟨kl_X10_9, kn_X6⟩ rfl N11 (by omega) ⟨Nat.le_of_ble_eq_true rfl, Nat.le_of_ble_eq_true rfl⟩ ?_
  show V K 3 458 _ _ _ _ (hnw G11 (b + 22) (.inr (5, [.null, .int 0]))) Q
  refine V_dup rfl rfl ?_
  refine V_sipush (v := nI 228) rfl (by decide) ?_
  refine V_callI (M' := mX6_init) (mc := 1) (ms := 228) (bc' := 2) (bs' := 230) rfl cw_X10_19 ii_X6_init rfl (Nat.le_of_ble_eq_true rfl) ⟨Nat.le_of_ble_eq_true rfl, Nat.le_of_ble_eq_true rfl⟩ ⟨Nat.le_of_ble_eq_true rfl, Nat.le_of_ble_eq_true rfl⟩ (As := [.int (nI 228)]) (c_new6 (b := b + 22) (Q := fun o G' => o = .inl none ∧ G'.2 = some (b + 24) ∧ (∀ j, j < b + 22 → G'.1 j = (hnw G11 (b + 22) (.inr (5, [.null, .int 0]))).1 j) ∧ HL G' (b + 22) (L6 228 (b + 22))) hnw_eq rfl (by omega) (by decide) (fun G' h1 h2 h3 => ⟨rfl, h1, h2, h3⟩)) (fun E G' h => by cases h.1) (fun o G11' h => ?_)
  obtain ⟨h0, n11, f11, l11⟩ := h
  cases h0
  have f11 : ∀ j, j < b + 22 → G11'.1 j = G11.1 j := fun j hj => (f11 j hj).trans (hnw_ne (by omega))
  refine V_aast rfl ((f11 _ (by omega)).trans A11) (l11 0 (Nat.le_of_ble_eq_true rfl)) (vp_in_nI (by decide) (by decide)) ?_
  show V K 2 230 _ _ _ _ (hup G11' (b + 1) (AR 12 (wfn b 11))) Q
  obtain ⟨G12, hG12⟩ : ∃ G9, G9 = hup G11' (b + 1) (AR 12 (wfn b 11)) := ⟨_, rfl⟩
  rw [← hG12]
  have A12 : G12.1 (b + 1) = some (AR 12 (wfn b 11)) := by rw [hG12]; exact hup_eq
  have D12 : ∀ j, j ≠ b + 1 → G12.1 j = G11'.1 j := fun j hj => by rw [hG12]; exact hup_ne hj
  have N12 : G12.2 = some (b + 24) := by rw [hG12]; exact n11
  clear hG12
  have B12 : ∀ j, j < b → G12.1 j = G.1 j := fun j hj => (D12 j (by omega)).trans ((f11 j (by omega)).trans (B11 j hj))
  have O12 : G12.1 b = some (.inr (9, [.ref (b + 1), .int 0, .int 0])) := (D12 _ (by omega)).trans ((f11 _ (by omega)).trans O11)
  have e11 : b + 2 + (([] : List kE) ++ L6 228 (b + 2) ++ L6 228 (b + 4) ++ L6 228 (b + 6) ++ L6 228 (b + 8) ++ L6 228 (b + 10) ++ L6 228 (b + 12) ++ L6 228 (b + 14) ++ L6 228 (b + 16) ++ L6 228 (b + 18) ++ L6 228 (b + 20)).length = b + 22 := rfl
  have H12 : HL G12 (b + 2) ([] ++ L6 228 (b + 2) ++ L6 228 (b + 4) ++ L6 228 (b + 6) ++ L6 228 (b + 8) ++ L6 228 (b + 10) ++ L6 228 (b + 12) ++ L6 228 (b + 14) ++ L6 228 (b + 16) ++ L6 228 (b + 18) ++ L6 228 (b + 20) ++ L6 228 (b + 22)) := (H11.fp (fun j a c => (D12 j (by omega)).trans (f11 j (by omega)))).app (by rw [e11]; exact l11.fp (fun j a c => D12 j (by omega)))
  refine V_iincN (d := 1) rfl (by rfl) (by decide) (by decide) ?_
  refine V_goto rfl ?_
  refine V_iload_n rfl (by rfl) ?_
  refine V_bipush (v := nI 12) rfl (by decide) ?_
  refine V_icmp_geN rfl (by decide) (by decide) (fun z => absurd z (by decide)) (fun _ => ?_)
  refine V_aload_n rfl (by rfl) ?_
  refine V_getf rfl rfl rfl O12 (by rfl) ?_
  refine V_iload_n rfl (by rfl) ?_
  refine V_new (ci := 5) (bc' := 1) (bs' := 228) (fs := [.null, .int 0]) rfl rfl ⟨kl_X10_9, kn_X6⟩ rfl N12 (by omega) ⟨Nat.le_of_ble_eq_true rfl, Nat.le_of_ble_eq_true rfl⟩ ?_
  show V K 1 228 _ _ _ _ (hnw G12 (b + 24) (.inr (5, [.null, .int 0]))) Q
  refine V_dup rfl rfl ?_
  refine V_sipush (v := nI 228) rfl (by decide) ?_
  refine V_callI (M' := mX6_init) (mc := 1) (ms := 228) (bc' := 0) (bs' := 0) rfl cw_X10_19 ii_X6_init rfl (Nat.le_of_ble_eq_true rfl) ⟨Nat.le_of_ble_eq_true rfl, Nat.le_of_ble_eq_true rfl⟩ ⟨Nat.le_of_ble_eq_true rfl, Nat.le_of_ble_eq_true rfl⟩ (As := [.int (nI 228)]) (c_new6 (b := b + 24) (Q := fun o G' => o = .inl none ∧ G'.2 = some (b + 26) ∧ (∀ j, j < b + 24 → G'.1 j = (hnw G12 (b + 24) (.inr (5, [.null, .int 0]))).1 j) ∧ HL G' (b + 24) (L6 228 (b + 24))) hnw_eq rfl (by omega) (by decide) (fun G' h1 h2 h3 => ⟨rfl, h1, h2, h3⟩)) (fun E G' h => by cases h.1) (fun o G12' h => ?_)
  obtain ⟨h0, n12, f12, l12⟩ := h
  cases h0
  have f12 : ∀ j, j < b + 24 → G12'.1 j = G12.1 j := fun j hj => (f12 j hj).trans (hnw_ne (by omega))
  refine V_aast rfl ((f12 _ (by omega)).trans A12) (l12 0 (Nat.le_of_ble_eq_true rfl)) (vp_in_nI (by decide) (by decide)) ?_
  show V K 0 0 _ _ _ _ (hup G12' (b + 1) (AR 12 (wfn b 12))) Q
  obtain ⟨G13, hG13⟩ : ∃ G9, G9 = hup G12' (b + 1) (AR 12 (wfn b 12)) := ⟨_, rfl⟩
  rw [← hG13]
  have A13 : G13.1 (b + 1) = some (AR 12 (wfn b 12)) := by rw [hG13]; exact hup_eq
  have D13 : ∀ j, j ≠ b + 1 → G13.1 j = G12'.1 j := fun j hj => by rw [hG13]; exact hup_ne hj
  have N13 : G13.2 = some (b + 26) := by rw [hG13]; exact n12
  clear hG13
  have B13 : ∀ j, j < b → G13.1 j = G.1 j := fun j hj => (D13 j (by omega)).trans ((f12 j (by omega)).trans (B12 j hj))
  have O13 : G13.1 b = some (.inr (9, [.ref (b + 1), .int 0, .int 0])) := (D13 _ (by omega)).trans ((f12 _ (by omega)).trans O12)
  have e12 : b + 2 + (([] : List kE) ++ L6 228 (b + 2) ++ L6 228 (b + 4) ++ L6 228 (b + 6) ++ L6 228 (b + 8) ++ L6 228 (b + 10) ++ L6 228 (b + 12) ++ L6 228 (b + 14) ++ L6 228 (b + 16) ++ L6 228 (b + 18) ++ L6 228 (b + 20) ++ L6 228 (b + 22)).length = b + 24 := rfl
  have H13 : HL G13 (b + 2) ([] ++ L6 228 (b + 2) ++ L6 228 (b + 4) ++ L6 228 (b + 6) ++ L6 228 (b + 8) ++ L6 228 (b + 10) ++ L6 228 (b + 12) ++ L6 228 (b + 14) ++ L6 228 (b + 16) ++ L6 228 (b + 18) ++ L6 228 (b + 20) ++ L6 228 (b + 22) ++ L6 228 (b + 24)) := (H12.fp (fun j a c => (D13 j (by omega)).trans (f12 j (by omega)))).app (by rw [e12]; exact l12.fp (fun j a c => D13 j (by omega)))
  refine V_iincN (d := 1) rfl (by rfl) (by decide) (by decide) ?_
  refine V_goto rfl ?_
  refine V_iload_n rfl (by rfl) ?_
  refine V_bipush (v := nI 12) rfl (by decide) ?_
  refine V_icmp_geN rfl (by decide) (by decide) (fun _ => ?_) (fun z => absurd (by decide) z)
  exact V_vret rfl rfl (hq _ N13 B13 (HL.cons O13 (HL.cons A13 H13)))
def L1 (b : Nat) : List kE := .inr (1, [.ref (b + 1), .ref (b + 2), .ref (b + 3), .ref (b + 4), .ref (b + 6), .ref (b + 32), .ref (b + 35), .ref (b + 38), .int 1, .int 0, .int 0, .int 0, .int 0, .int (-1)]) :: ([] ++ [BA 32 z0] ++ [BA 8 z0] ++ [BA 32 z0] ++ L6 2000 (b + 4) ++ L10 (b + 6) ++ L4 (b + 32) ++ L4 (b + 35) ++ L2 (b + 38))
set_option maxHeartbeats 4000000 in
theorem c_new1 {b : Nat} (g : G.1 b = some (.inr (1, [.null, .null, .null, .null, .null, .null, .null, .null, .int 0, .int 0, .int 0, .int 0, .int 0, .int 0]))) (hn : G.2 = some (b + 1)) (hb : b < 600000) (hq : ∀ G', G'.2 = some (b + 46) → (∀ j, j < b → G'.1 j = G.1 j) → HL G' b (L1 b) → Q (.inl none) G') : C K 45 5142 mX1_init [.ref b] G Q := by
  have M0 : Mk G b (.inr (1, [.null, .null, .null, .null, .null, .null, .null, .null, .int 0, .int 0, .int 0, .int 0, .int 0, .int 0])) [] (b + 1) G := ⟨g, hn, fun _ _ => rfl, rfl, HL.nil⟩
  refine C_of okX1_init (Nat.le_of_ble_eq_true rfl) ?_
  refine V_aload_n rfl (by rfl) ?_
  refine V_objinit rfl ⟨kk_X1_3, k_oi⟩ (Nat.le_of_ble_eq_true rfl) (Nat.le_of_ble_eq_true rfl) ?_
  refine V_aload_n rfl (by rfl) ?_
  refine V_bipush (v := nI 32) rfl (by decide) ?_
  refine V_nwI (bc' := 44) (bs' := 5110) rfl (by decide) M0.2.1 (by omega) ⟨Nat.le_of_ble_eq_true rfl, Nat.le_of_ble_eq_true rfl⟩ ?_
  refine V_putF rfl rfl rfl rfl rfl rfl ((hnw_ne (by omega)).trans M0.1) (Nat.le_of_ble_eq_true rfl) ⟨narrow_ref _ _, rfl⟩ ?_
  have M1 : Mk G b (.inr (1, [.ref (b + 1), .null, .null, .null, .null, .null, .null, .null, .int 0, .int 0, .int 0, .int 0, .int 0, .int 0])) ([] ++ [BA 32 z0]) (b + 2) (hup (hnw G (b + 1) (BA 32 z0)) b (.inr (1, [.ref (b + 1), .null, .null, .null, .null, .null, .null, .null, .int 0, .int 0, .int 0, .int 0, .int 0, .int 0]))) := M0.arr
  show V K 44 5110 _ _ _ _ (hup (hnw G (b + 1) (BA 32 z0)) b (.inr (1, [.ref (b + 1), .null, .null, .null, .null, .null, .null, .null, .int 0, .int 0, .int 0, .int 0, .int 0, .int 0]))) Q
  generalize hup (hnw G (b + 1) (BA 32 z0)) b (.inr (1, [.ref (b + 1), .null, .null, .null, .null, .null, .null, .null, .int 0, .int 0, .int 0, .int 0, .int 0, .int 0])) = G1 at M1 ⊢
  refine V_aload_n rfl (by rfl) ?_
  refine V_bipush (v := nI 8) rfl (by decide) ?_
  refine V_nwI (bc' := 43) (bs' := 5102) rfl (by decide) M1.2.1 (by omega) ⟨Nat.le_of_ble_eq_true rfl, Nat.le_of_ble_eq_true rfl⟩ ?_
  refine V_putF rfl rfl rfl rfl rfl rfl ((hnw_ne (by omega)).trans M1.1) (Nat.le_of_ble_eq_true rfl) ⟨narrow_ref _ _, rfl⟩ ?_
  have M2 : Mk G b (.inr (1, [.ref (b + 1), .ref (b + 2), .null, .null, .null, .null, .null, .null, .int 0, .int 0, .int 0, .int 0, .int 0, .int 0])) ([] ++ [BA 32 z0] ++ [BA 8 z0]) (b + 3) (hup (hnw G1 (b + 2) (BA 8 z0)) b (.inr (1, [.ref (b + 1), .ref (b + 2), .null, .null, .null, .null, .null, .null, .int 0, .int 0, .int 0, .int 0, .int 0, .int 0]))) := M1.arr
  show V K 43 5102 _ _ _ _ (hup (hnw G1 (b + 2) (BA 8 z0)) b (.inr (1, [.ref (b + 1), .ref (b + 2), .null, .null, .null, .null, .null, .null, .int 0, .int 0, .int 0, .int 0, .int 0, .int 0]))) Q
  generalize hup (hnw G1 (b + 2) (BA 8 z0)) b (.inr (1, [.ref (b + 1), .ref (b + 2), .null, .null, .null, .null, .null, .null, .int 0, .int 0, .int 0, .int 0, .int 0, .int 0])) = G2 at M2 ⊢
  refine V_aload_n rfl (by rfl) ?_
  refine V_bipush (v := nI 32) rfl (by decide) ?_
  refine V_nwI (bc' := 42) (bs' := 5070) rfl (by decide) M2.2.1 (by omega) ⟨Nat.le_of_ble_eq_true rfl, Nat.le_of_ble_eq_true rfl⟩ ?_
  refine V_putF rfl rfl rfl rfl rfl rfl ((hnw_ne (by omega)).trans M2.1) (Nat.le_of_ble_eq_true rfl) ⟨narrow_ref _ _, rfl⟩ ?_
  have M3 : Mk G b (.inr (1, [.ref (b + 1), .ref (b + 2), .ref (b + 3), .null, .null, .null, .null, .null, .int 0, .int 0, .int 0, .int 0, .int 0, .int 0])) ([] ++ [BA 32 z0] ++ [BA 8 z0] ++ [BA 32 z0]) (b + 4) (hup (hnw G2 (b + 3) (BA 32 z0)) b (.inr (1, [.ref (b + 1), .ref (b + 2), .ref (b + 3), .null, .null, .null, .null, .null, .int 0, .int 0, .int 0, .int 0, .int 0, .int 0]))) := M2.arr
  show V K 42 5070 _ _ _ _ (hup (hnw G2 (b + 3) (BA 32 z0)) b (.inr (1, [.ref (b + 1), .ref (b + 2), .ref (b + 3), .null, .null, .null, .null, .null, .int 0, .int 0, .int 0, .int 0, .int 0, .int 0]))) Q
  generalize hup (hnw G2 (b + 3) (BA 32 z0)) b (.inr (1, [.ref (b + 1), .ref (b + 2), .ref (b + 3), .null, .null, .null, .null, .null, .int 0, .int 0, .int 0, .int 0, .int 0, .int 0])) = G3 at M3 ⊢
  refine V_aload_n rfl (by rfl) ?_
  refine V_new (ci := 5) (bc' := 41) (bs' := 5068) (fs := [.null, .int 0]) rfl rfl ⟨kl_X1_21, kn_X6⟩ rfl M3.2.1 (by omega) ⟨Nat.le_of_ble_eq_true rfl, Nat.le_of_ble_eq_true rfl⟩ ?_
  show V K 41 5068 _ _ _ _ (hnw G3 (b + 4) (.inr (5, [.null, .int 0]))) Q
  refine V_dup rfl rfl ?_
  refine V_sipush (v := nI 2000) rfl (by decide) ?_
  refine V_callI (M' := mX6_init) (mc := 1) (ms := 2000) (bc' := 40) (bs' := 3068) rfl cw_X1_23 ii_X6_init rfl (Nat.le_of_ble_eq_true rfl) ⟨Nat.le_of_ble_eq_true rfl, Nat.le_of_ble_eq_true rfl⟩ ⟨Nat.le_of_ble_eq_true rfl, Nat.le_of_ble_eq_true rfl⟩ (As := [.int (nI 2000)]) (c_new6 (b := b + 4) (Q := fun o G' => o = .inl none ∧ G'.2 = some (b + 4 + (L6 2000 (b + 4)).length) ∧ (∀ j, j < b + 4 → G'.1 j = (hnw G3 (b + 4) (.inr (5, [.null, .int 0]))).1 j) ∧ HL G' (b + 4) (L6 2000 (b + 4))) hnw_eq rfl (by omega) (by decide) (fun G' h1 h2 h3 => ⟨rfl, h1, h2, h3⟩)) (fun E G' h => by cases h.1) (fun o G' h => ?_)
  obtain ⟨h0, n3, f3, l3⟩ := h
  cases h0
  have f3 : ∀ j, j < b + 4 → G'.1 j = G3.1 j := fun j hj => (f3 j hj).trans (hnw_ne (by omega))
  refine V_putF rfl rfl rfl rfl rfl rfl ((f3 b (by omega)).trans M3.1) (Nat.le_of_ble_eq_true rfl) ⟨narrow_ref _ _, rfl⟩ ?_
  have M4 : Mk G b (.inr (1, [.ref (b + 1), .ref (b + 2), .ref (b + 3), .ref (b + 4), .null, .null, .null, .null, .int 0, .int 0, .int 0, .int 0, .int 0, .int 0])) ([] ++ [BA 32 z0] ++ [BA 8 z0] ++ [BA 32 z0] ++ L6 2000 (b + 4)) (b + 6) (hup (G') b (.inr (1, [.ref (b + 1), .ref (b + 2), .ref (b + 3), .ref (b + 4), .null, .null, .null, .null, .int 0, .int 0, .int 0, .int 0, .int 0, .int 0]))) := M3.sub n3 f3 l3
  show V K 40 3068 _ _ _ _ (hup (G') b (.inr (1, [.ref (b + 1), .ref (b + 2), .ref (b + 3), .ref (b + 4), .null, .null, .null, .null, .int 0, .int 0, .int 0, .int 0, .int 0, .int 0]))) Q
  generalize hup (G') b (.inr (1, [.ref (b + 1), .ref (b + 2), .ref (b + 3), .ref (b + 4), .null, .null, .null, .null, .int 0, .int 0, .int 0, .int 0, .int 0, .int 0])) = G4 at M4 ⊢
  refine V_aload_n rfl (by rfl) ?_
  refine V_new (ci := 9) (bc' := 39) (bs' := 3065) (fs := [.null, .int 0, .int 0]) rfl rfl ⟨kl_X1_30, kn_X10⟩ rfl M4.2.1 (by omega) ⟨Nat.le_of_ble_eq_true rfl, Nat.le_of_ble_eq_true rfl⟩ ?_
  show V K 39 3065 _ _ _ _ (hnw G4 (b + 6) (.inr (9, [.null, .int 0, .int 0]))) Q
  refine V_dup rfl rfl ?_
  refine V_callI (M' := mX10_init) (mc := 25) (ms := 2772) (bc' := 14) (bs' := 293) rfl cw_X1_32 ii_X10_init rfl (Nat.le_of_ble_eq_true rfl) ⟨Nat.le_of_ble_eq_true rfl, Nat.le_of_ble_eq_true rfl⟩ ⟨Nat.le_of_ble_eq_true rfl, Nat.le_of_ble_eq_true rfl⟩ (As := []) (c_new10 (b := b + 6) (Q := fun o G' => o = .inl none ∧ G'.2 = some (b + 6 + (L10 (b + 6)).length) ∧ (∀ j, j < b + 6 → G'.1 j = (hnw G4 (b + 6) (.inr (9, [.null, .int 0, .int 0]))).1 j) ∧ HL G' (b + 6) (L10 (b + 6))) hnw_eq rfl (by omega) (fun G' h1 h2 h3 => ⟨rfl, h1, h2, h3⟩)) (fun E G' h => by cases h.1) (fun o G' h => ?_)
  obtain ⟨h0, n4, f4, l4⟩ := h
  cases h0
  have f4 : ∀ j, j < b + 6 → G'.1 j = G4.1 j := fun j hj => (f4 j hj).trans (hnw_ne (by omega))
  refine V_putF rfl rfl rfl rfl rfl rfl ((f4 b (by omega)).trans M4.1) (Nat.le_of_ble_eq_true rfl) ⟨narrow_ref _ _, rfl⟩ ?_
  have M5 : Mk G b (.inr (1, [.ref (b + 1), .ref (b + 2), .ref (b + 3), .ref (b + 4), .ref (b + 6), .null, .null, .null, .int 0, .int 0, .int 0, .int 0, .int 0, .int 0])) ([] ++ [BA 32 z0] ++ [BA 8 z0] ++ [BA 32 z0] ++ L6 2000 (b + 4) ++ L10 (b + 6)) (b + 32) (hup (G') b (.inr (1, [.ref (b + 1), .ref (b + 2), .ref (b + 3), .ref (b + 4), .ref (b + 6), .null, .null, .null, .int 0, .int 0, .int 0, .int 0, .int 0, .int 0]))) := M4.sub n4 f4 l4
  show V K 14 293 _ _ _ _ (hup (G') b (.inr (1, [.ref (b + 1), .ref (b + 2), .ref (b + 3), .ref (b + 4), .ref (b + 6), .null, .null, .null, .int 0, .int 0, .int 0, .int 0, .int 0, .int 0]))) Q
  generalize hup (G') b (.inr (1, [.ref (b + 1), .ref (b + 2), .ref (b + 3), .ref (b + 4), .ref (b + 6), .null, .null, .null, .int 0, .int 0, .int 0, .int 0, .int 0, .int 0])) = G5 at M5 ⊢
  refine V_aload_n rfl (by rfl) ?_
  refine V_new (ci := 4) (bc' := 13) (bs' := 290) (fs := [.null, .null, .int 0]) rfl rfl ⟨kl_X1_37, kn_X4⟩ rfl M5.2.1 (by omega) ⟨Nat.le_of_ble_eq_true rfl, Nat.le_of_ble_eq_true rfl⟩ ?_
  show V K 13 290 _ _ _ _ (hnw G5 (b + 32) (.inr (4, [.null, .null, .int 0]))) Q
  refine V_dup rfl rfl ?_
  refine V_callN (M' := mX4_init) (mc := 2) (ms := 64) (bc' := 11) (bs' := 226) rfl (List.mem_of_getElem? (i := 6) (by rfl)) okX4_init (by decide +kernel) ii_X4_init rfl (Nat.le_of_ble_eq_true rfl) ⟨Nat.le_of_ble_eq_true rfl, Nat.le_of_ble_eq_true rfl⟩ ⟨Nat.le_of_ble_eq_true rfl, Nat.le_of_ble_eq_true rfl⟩ (As := []) (c_new4 (b := b + 32) (Q := fun o G' => o = .inl none ∧ G'.2 = some (b + 32 + (L4 (b + 32)).length) ∧ (∀ j, j < b + 32 → G'.1 j = (hnw G5 (b + 32) (.inr (4, [.null, .null, .int 0]))).1 j) ∧ HL G' (b + 32) (L4 (b + 32))) hnw_eq rfl (by omega) (fun G' h1 h2 h3 => ⟨rfl, h1, h2, h3⟩)) (fun E G' h => by cases h.1) (fun o G' h => ?_)
  obtain ⟨h0, n5, f5, l5⟩ := h
  cases h0
  have f5 : ∀ j, j < b + 32 → G'.1 j = G5.1 j := fun j hj => (f5 j hj).trans (hnw_ne (by omega))
  refine V_putF rfl rfl rfl rfl rfl rfl ((f5 b (by omega)).trans M5.1) (Nat.le_of_ble_eq_true rfl) ⟨narrow_ref _ _, rfl⟩ ?_
  have M6 : Mk G b (.inr (1, [.ref (b + 1), .ref (b + 2), .ref (b + 3), .ref (b + 4), .ref (b + 6), .ref (b + 32), .null, .null, .int 0, .int 0, .int 0, .int 0, .int 0, .int 0])) ([] ++ [BA 32 z0] ++ [BA 8 z0] ++ [BA 32 z0] ++ L6 2000 (b + 4) ++ L10 (b + 6) ++ L4 (b + 32)) (b + 35) (hup (G') b (.inr (1, [.ref (b + 1), .ref (b + 2), .ref (b + 3), .ref (b + 4), .ref (b + 6), .ref (b + 32), .null, .null, .int 0, .int 0, .int 0, .int 0, .int 0, .int 0]))) := M5.sub n5 f5 l5
  show V K 11 226 _ _ _ _ (hup (G') b (.inr (1, [.ref (b + 1), .ref (b + 2), .ref (b + 3), .ref (b + 4), .ref (b + 6), .ref (b + 32), .null, .null, .int 0, .int 0, .int 0, .int 0, .int 0, .int 0]))) Q
  generalize hup (G') b (.inr (1, [.ref (b + 1), .ref (b + 2), .ref (b + 3), .ref (b + 4), .ref (b + 6), .ref (b + 32), .null, .null, .int 0, .int 0, .int 0, .int 0, .int 0, .int 0])) = G6 at M6 ⊢
  refine V_aload_n rfl (by rfl) ?_
  refine V_new (ci := 4) (bc' := 10) (bs' := 223) (fs := [.null, .null, .int 0]) rfl rfl ⟨kl_X1_37, kn_X4⟩ rfl M6.2.1 (by omega) ⟨Nat.le_of_ble_eq_true rfl, Nat.le_of_ble_eq_true rfl⟩ ?_
  show V K 10 223 _ _ _ _ (hnw G6 (b + 35) (.inr (4, [.null, .null, .int 0]))) Q
  refine V_dup rfl rfl ?_
  refine V_callN (M' := mX4_init) (mc := 2) (ms := 64) (bc' := 8) (bs' := 159) rfl (List.mem_of_getElem? (i := 6) (by rfl)) okX4_init (by decide +kernel) ii_X4_init rfl (Nat.le_of_ble_eq_true rfl) ⟨Nat.le_of_ble_eq_true rfl, Nat.le_of_ble_eq_true rfl⟩ ⟨Nat.le_of_ble_eq_true rfl, Nat.le_of_ble_eq_true rfl⟩ (As := []) (c_new4 (b := b + 35) (Q := fun o G' => o = .inl none ∧ G'.2 = some (b + 35 + (L4 (b + 35)).length) ∧ (∀ j, j < b + 35 → G'.1 j = (hnw G6 (b + 35) (.inr (4, [.null, .null, .int 0]))).1 j) ∧ HL G' (b + 35) (L4 (b + 35))) hnw_eq rfl (by omega) (fun G' h1 h2 h3 => ⟨rfl, h1, h2, h3⟩)) (fun E G' h => by cases h.1) (fun o G' h => ?_)
  obtain ⟨h0, n6, f6, l6⟩ := h
  cases h0
  have f6 : ∀ j, j < b + 35 → G'.1 j = G6.1 j := fun j hj => (f6 j hj).trans (hnw_ne (by omega))
  refine V_putF rfl rfl rfl rfl rfl rfl ((f6 b (by omega)).trans M6.1) (Nat.le_of_ble_eq_true rfl) ⟨narrow_ref _ _, rfl⟩ ?_
  have M7 : Mk G b (.inr (1, [.ref (b + 1), .ref (b + 2), .ref (b + 3), .ref (b + 4), .ref (b + 6), .ref (b + 32), .ref (b + 35), .null, .int 0, .int 0, .int 0, .int 0, .int 0, .int 0])) ([] ++ [BA 32 z0] ++ [BA 8 z0] ++ [BA 32 z0] ++ L6 2000 (b + 4) ++ L10 (b + 6) ++ L4 (b + 32) ++ L4 (b + 35)) (b + 38) (hup (G') b (.inr (1, [.ref (b + 1), .ref (b + 2), .ref (b + 3), .ref (b + 4), .ref (b + 6), .ref (b + 32), .ref (b + 35), .null, .int 0, .int 0, .int 0, .int 0, .int 0, .int 0]))) := M6.sub n6 f6 l6
  show V K 8 159 _ _ _ _ (hup (G') b (.inr (1, [.ref (b + 1), .ref (b + 2), .ref (b + 3), .ref (b + 4), .ref (b + 6), .ref (b + 32), .ref (b + 35), .null, .int 0, .int 0, .int 0, .int 0, .int 0, .int 0]))) Q
  generalize hup (G') b (.inr (1, [.ref (b + 1), .ref (b + 2), .ref (b + 3), .ref (b + 4), .ref (b + 6), .ref (b + 32), .ref (b + 35), .null, .int 0, .int 0, .int 0, .int 0, .int 0, .int 0])) = G7 at M7 ⊢
  refine V_aload_n rfl (by rfl) ?_
  refine V_new (ci := 2) (bc' := 7) (bs' := 149) (fs := [.null, .null, .null, .null, .null, .int 0, .int 0, .int 0, .int 0, .int 0]) rfl rfl ⟨kl_X1_47, kn_X2⟩ rfl M7.2.1 (by omega) ⟨Nat.le_of_ble_eq_true rfl, Nat.le_of_ble_eq_true rfl⟩ ?_
  show V K 7 149 _ _ _ _ (hnw G7 (b + 38) (.inr (2, [.null, .null, .null, .null, .null, .int 0, .int 0, .int 0, .int 0, .int 0]))) Q
  refine V_dup rfl rfl ?_
  refine V_callN (M' := mX2_init) (mc := 7) (ms := 149) (bc' := 0) (bs' := 0) rfl (List.mem_of_getElem? (i := 7) (by rfl)) okX2_init (by decide +kernel) ii_X2_init rfl (Nat.le_of_ble_eq_true rfl) ⟨Nat.le_of_ble_eq_true rfl, Nat.le_of_ble_eq_true rfl⟩ ⟨Nat.le_of_ble_eq_true rfl, Nat.le_of_ble_eq_true rfl⟩ (As := []) (c_new2 (b := b + 38) (Q := fun o G' => o = .inl none ∧ G'.2 = some (b + 38 + (L2 (b + 38)).length) ∧ (∀ j, j < b + 38 → G'.1 j = (hnw G7 (b + 38) (.inr (2, [.null, .null, .null, .null, .null, .int 0, .int 0, .int 0, .int 0, .int 0]))).1 j) ∧ HL G' (b + 38) (L2 (b + 38))) hnw_eq rfl (by omega) (fun G' h1 h2 h3 => ⟨rfl, h1, h2, h3⟩)) (fun E G' h => by cases h.1) (fun o G' h => ?_)
  obtain ⟨h0, n7, f7, l7⟩ := h
  cases h0
  have f7 : ∀ j, j < b + 38 → G'.1 j = G7.1 j := fun j hj => (f7 j hj).trans (hnw_ne (by omega))
  refine V_putF rfl rfl rfl rfl rfl rfl ((f7 b (by omega)).trans M7.1) (Nat.le_of_ble_eq_true rfl) ⟨narrow_ref _ _, rfl⟩ ?_
  have M8 : Mk G b (.inr (1, [.ref (b + 1), .ref (b + 2), .ref (b + 3), .ref (b + 4), .ref (b + 6), .ref (b + 32), .ref (b + 35), .ref (b + 38), .int 0, .int 0, .int 0, .int 0, .int 0, .int 0])) ([] ++ [BA 32 z0] ++ [BA 8 z0] ++ [BA 32 z0] ++ L6 2000 (b + 4) ++ L10 (b + 6) ++ L4 (b + 32) ++ L4 (b + 35) ++ L2 (b + 38)) (b + 46) (hup (G') b (.inr (1, [.ref (b + 1), .ref (b + 2), .ref (b + 3), .ref (b + 4), .ref (b + 6), .ref (b + 32), .ref (b + 35), .ref (b + 38), .int 0, .int 0, .int 0, .int 0, .int 0, .int 0]))) := M7.sub n7 f7 l7
  show V K 0 0 _ _ _ _ (hup (G') b (.inr (1, [.ref (b + 1), .ref (b + 2), .ref (b + 3), .ref (b + 4), .ref (b + 6), .ref (b + 32), .ref (b + 35), .ref (b + 38), .int 0, .int 0, .int 0, .int 0, .int 0, .int 0]))) Q
  generalize hup (G') b (.inr (1, [.ref (b + 1), .ref (b + 2), .ref (b + 3), .ref (b + 4), .ref (b + 6), .ref (b + 32), .ref (b + 35), .ref (b + 38), .int 0, .int 0, .int 0, .int 0, .int 0, .int 0])) = G8 at M8 ⊢
  refine V_aload_n rfl (by rfl) ?_
  refine V_iconst (v := nI 1) rfl (by decide) ?_
  refine V_putf rfl rfl rfl rfl M8.1 (Nat.le_of_ble_eq_true rfl) (by first | exact ⟨rfl, rfl⟩ | (constructor <;> decide)) ?_
  have M9 : Mk G b (.inr (1, [.ref (b + 1), .ref (b + 2), .ref (b + 3), .ref (b + 4), .ref (b + 6), .ref (b + 32), .ref (b + 35), .ref (b + 38), .int 1, .int 0, .int 0, .int 0, .int 0, .int 0])) ([] ++ [BA 32 z0] ++ [BA 8 z0] ++ [BA 32 z0] ++ L6 2000 (b + 4) ++ L10 (b + 6) ++ L4 (b + 32) ++ L4 (b + 35) ++ L2 (b + 38)) (b + 46) _ := M8.put
  show V K 0 0 _ _ _ _ (hup G8 b (.inr (1, [.ref (b + 1), .ref (b + 2), .ref (b + 3), .ref (b + 4), .ref (b + 6), .ref (b + 32), .ref (b + 35), .ref (b + 38), .int 1, .int 0, .int 0, .int 0, .int 0, .int 0]))) Q
  generalize hup G8 b (.inr (1, [.ref (b + 1), .ref (b + 2), .ref (b + 3), .ref (b + 4), .ref (b + 6), .ref (b + 32), .ref (b + 35), .ref (b + 38), .int 1, .int 0, .int 0, .int 0, .int 0, .int 0])) = G9 at M9 ⊢
  refine V_aload_n rfl (by rfl) ?_
  refine V_iconst (v := -1) rfl (by decide) ?_
  refine V_putf rfl rfl rfl rfl M9.1 (Nat.le_of_ble_eq_true rfl) (by first | exact ⟨rfl, rfl⟩ | (constructor <;> decide)) ?_
  have M10 : Mk G b (.inr (1, [.ref (b + 1), .ref (b + 2), .ref (b + 3), .ref (b + 4), .ref (b + 6), .ref (b + 32), .ref (b + 35), .ref (b + 38), .int 1, .int 0, .int 0, .int 0, .int 0, .int (-1)])) ([] ++ [BA 32 z0] ++ [BA 8 z0] ++ [BA 32 z0] ++ L6 2000 (b + 4) ++ L10 (b + 6) ++ L4 (b + 32) ++ L4 (b + 35) ++ L2 (b + 38)) (b + 46) _ := M9.put
  show V K 0 0 _ _ _ _ (hup G9 b (.inr (1, [.ref (b + 1), .ref (b + 2), .ref (b + 3), .ref (b + 4), .ref (b + 6), .ref (b + 32), .ref (b + 35), .ref (b + 38), .int 1, .int 0, .int 0, .int 0, .int 0, .int (-1)]))) Q
  generalize hup G9 b (.inr (1, [.ref (b + 1), .ref (b + 2), .ref (b + 3), .ref (b + 4), .ref (b + 6), .ref (b + 32), .ref (b + 35), .ref (b + 38), .int 1, .int 0, .int 0, .int 0, .int 0, .int (-1)])) = G10 at M10 ⊢
  exact V_vret rfl rfl (hq _ M10.2.1 M10.2.2.1 M10.hl)
def L11 (b : Nat) : List kE := .inr (10, [.ref (b + 1), .ref (b + 14), .ref (b + 19), .ref (b + 32), .ref (b + 78), .ref (b + 124), .ref (b + 125), .ref (b + 126), .ref (b + 127), .ref (b + 128), .ref (b + 129), .ref (b + 130), .ref (b + 132), .ref (b + 134), .ref (b + 136), .ref (b + 138)]) :: ([] ++ L0 (b + 1) ++ L3 (b + 14) ++ L7 (b + 19) ++ L1 (b + 32) ++ L1 (b + 78) ++ [BA 32 z0] ++ [BA 32 z0] ++ [BA 32 z0] ++ [BA 32 z0] ++ [BA 32 z0] ++ [BA 32 z0] ++ L6 64 (b + 130) ++ L6 200 (b + 132) ++ L6 200 (b + 134) ++ L6 600 (b + 136) ++ L6 600 (b + 138))
set_option maxHeartbeats 4000000 in
theorem c_new11 {b : Nat} (g : G.1 b = some (.inr (10, [.null, .null, .null, .null, .null, .null, .null, .null, .null, .null, .null, .null, .null, .null, .null, .null]))) (hn : G.2 = some (b + 1)) (hb : b < 500000) (hq : ∀ G', G'.2 = some (b + 140) → (∀ j, j < b → G'.1 j = G.1 j) → HL G' b (L11 b) → Q (.inl none) G') : C K 139 13444 mX11_init [.ref b] G Q := by
  have M0 : Mk G b (.inr (10, [.null, .null, .null, .null, .null, .null, .null, .null, .null, .null, .null, .null, .null, .null, .null, .null])) [] (b + 1) G := ⟨g, hn, fun _ _ => rfl, rfl, HL.nil⟩
  refine C_of okX11_init (Nat.le_of_ble_eq_true rfl) ?_
  refine V_aload_n rfl (by rfl) ?_
  refine V_objinit rfl ⟨kk_X11_1, k_oi⟩ (Nat.le_of_ble_eq_true rfl) (Nat.le_of_ble_eq_true rfl) ?_
  refine V_aload_n rfl (by rfl) ?_
  refine V_new (ci := 0) (bc' := 138) (bs' := 13432) (fs := [.null, .null, .null, .null, .null, .null, .null, .null, .null, .null, .null, .null]) rfl rfl ⟨kl_X11_7, kn_X0⟩ rfl M0.2.1 (by omega) ⟨Nat.le_of_ble_eq_true rfl, Nat.le_of_ble_eq_true rfl⟩ ?_
  show V K 138 13432 _ _ _ _ (hnw G (b + 1) (.inr (0, [.null, .null, .null, .null, .null, .null, .null, .null, .null, .null, .null, .null]))) Q
  refine V_dup rfl rfl ?_
  refine V_callN (M' := mX0_init) (mc := 12) (ms := 152) (bc' := 126) (bs' := 13280) rfl (List.mem_of_getElem? (i := 0) (by rfl)) okX0_init (by decide +kernel) ii_X0_init rfl (Nat.le_of_ble_eq_true rfl) ⟨Nat.le_of_ble_eq_true rfl, Nat.le_of_ble_eq_true rfl⟩ ⟨Nat.le_of_ble_eq_true rfl, Nat.le_of_ble_eq_true rfl⟩ (As := []) (c_new0 (b := b + 1) (Q := fun o G' => o = .inl none ∧ G'.2 = some (b + 1 + (L0 (b + 1)).length) ∧ (∀ j, j < b + 1 → G'.1 j = (hnw G (b + 1) (.inr (0, [.null, .null, .null, .null, .null, .null, .null, .null, .null, .null, .null, .null]))).1 j) ∧ HL G' (b + 1) (L0 (b + 1))) hnw_eq rfl (by omega) (fun G' h1 h2 h3 => ⟨rfl, h1, h2, h3⟩)) (fun E G' h => by cases h.1) (fun o G' h => ?_)
  obtain ⟨h0, n0, f0, l0⟩ := h
  cases h0
  have f0 : ∀ j, j < b + 1 → G'.1 j = G.1 j := fun j hj => (f0 j hj).trans (hnw_ne (by omega))
  refine V_putF rfl rfl rfl rfl rfl rfl ((f0 b (by omega)).trans M0.1) (Nat.le_of_ble_eq_true rfl) ⟨narrow_ref _ _, rfl⟩ ?_
  have M1 : Mk G b (.inr (10, [.ref (b + 1), .null, .null, .null, .null, .null, .null, .null, .null, .null, .null, .null, .null, .null, .null, .null])) ([] ++ L0 (b + 1)) (b + 14) (hup (G') b (.inr (10, [.ref (b + 1), .null, .null, .null, .null, .null, .null, .null, .null, .null, .null, .null, .null, .null, .null, .null]))) := M0.sub n0 f0 l0
  show V K 126 13280 _ _ _ _ (hup (G') b (.inr (10, [.ref (b + 1), .null, .null, .null, .null, .null, .null, .null, .null, .null, .null, .null, .null, .null, .null, .null]))) Q
  generalize hup (G') b (.inr (10, [.ref (b + 1), .null, .null, .null, .null, .null, .null, .null, .null, .null, .null, .null, .null, .null, .null, .null])) = G1 at M1 ⊢
  refine V_aload_n rfl (by rfl) ?_
  refine V_new (ci := 3) (bc' := 125) (bs' := 13277) (fs := [.null, .null, .null]) rfl rfl ⟨kl_X11_16, kn_X3⟩ rfl M1.2.1 (by omega) ⟨Nat.le_of_ble_eq_true rfl, Nat.le_of_ble_eq_true rfl⟩ ?_
  show V K 125 13277 _ _ _ _ (hnw G1 (b + 14) (.inr (3, [.null, .null, .null]))) Q
  refine V_dup rfl rfl ?_
  refine V_callN (M' := mX3_init) (mc := 4) (ms := 714) (bc' := 121) (bs' := 12563) rfl (List.mem_of_getElem? (i := 1) (by rfl)) okX3_init (by decide +kernel) ii_X3_init rfl (Nat.le_of_ble_eq_true rfl) ⟨Nat.le_of_ble_eq_true rfl, Nat.le_of_ble_eq_true rfl⟩ ⟨Nat.le_of_ble_eq_true rfl, Nat.le_of_ble_eq_true rfl⟩ (As := []) (c_new3 (b := b + 14) (Q := fun o G' => o = .inl none ∧ G'.2 = some (b + 14 + (L3 (b + 14)).length) ∧ (∀ j, j < b + 14 → G'.1 j = (hnw G1 (b + 14) (.inr (3, [.null, .null, .null]))).1 j) ∧ HL G' (b + 14) (L3 (b + 14))) hnw_eq rfl (by omega) (fun G' h1 h2 h3 => ⟨rfl, h1, h2, h3⟩)) (fun E G' h => by cases h.1) (fun o G' h => ?_)
  obtain ⟨h0, n1, f1, l1⟩ := h
  cases h0
  have f1 : ∀ j, j < b + 14 → G'.1 j = G1.1 j := fun j hj => (f1 j hj).trans (hnw_ne (by omega))
  refine V_putF rfl rfl rfl rfl rfl rfl ((f1 b (by omega)).trans M1.1) (Nat.le_of_ble_eq_true rfl) ⟨narrow_ref _ _, rfl⟩ ?_
  have M2 : Mk G b (.inr (10, [.ref (b + 1), .ref (b + 14), .null, .null, .null, .null, .null, .null, .null, .null, .null, .null, .null, .null, .null, .null])) ([] ++ L0 (b + 1) ++ L3 (b + 14)) (b + 19) (hup (G') b (.inr (10, [.ref (b + 1), .ref (b + 14), .null, .null, .null, .null, .null, .null, .null, .null, .null, .null, .null, .null, .null, .null]))) := M1.sub n1 f1 l1
  show V K 121 12563 _ _ _ _ (hup (G') b (.inr (10, [.ref (b + 1), .ref (b + 14), .null, .null, .null, .null, .null, .null, .null, .null, .null, .null, .null, .null, .null, .null]))) Q
  generalize hup (G') b (.inr (10, [.ref (b + 1), .ref (b + 14), .null, .null, .null, .null, .null, .null, .null, .null, .null, .null, .null, .null, .null, .null])) = G2 at M2 ⊢
  refine V_aload_n rfl (by rfl) ?_
  refine V_new (ci := 6) (bc' := 120) (bs' := 12560) (fs := [.null, .null, .null]) rfl rfl ⟨kl_X11_23, kn_X7⟩ rfl M2.2.1 (by omega) ⟨Nat.le_of_ble_eq_true rfl, Nat.le_of_ble_eq_true rfl⟩ ?_
  show V K 120 12560 _ _ _ _ (hnw G2 (b + 19) (.inr (6, [.null, .null, .null]))) Q
  refine V_dup rfl rfl ?_
  refine V_callN (M' := mX7_init) (mc := 12) (ms := 382) (bc' := 108) (bs' := 12178) rfl (List.mem_of_getElem? (i := 2) (by rfl)) okX7_init (by decide +kernel) ii_X7_init rfl (Nat.le_of_ble_eq_true rfl) ⟨Nat.le_of_ble_eq_true rfl, Nat.le_of_ble_eq_true rfl⟩ ⟨Nat.le_of_ble_eq_true rfl, Nat.le_of_ble_eq_true rfl⟩ (As := []) (c_new7 (b := b + 19) (Q := fun o G' => o = .inl none ∧ G'.2 = some (b + 19 + (L7 (b + 19)).length) ∧ (∀ j, j < b + 19 → G'.1 j = (hnw G2 (b + 19) (.inr (6, [.null, .null, .null]))).1 j) ∧ HL G' (b + 19) (L7 (b + 19))) hnw_eq rfl (by omega) (fun G' h1 h2 h3 => ⟨rfl, h1, h2, h3⟩)) (fun E G' h => by cases h.1) (fun o G' h => ?_)
  obtain ⟨h0, n2, f2, l2⟩ := h
  cases h0
  have f2 : ∀ j, j < b + 19 → G'.1 j = G2.1 j := fun j hj => (f2 j hj).trans (hnw_ne (by omega))
  refine V_putF rfl rfl rfl rfl rfl rfl ((f2 b (by omega)).trans M2.1) (Nat.le_of_ble_eq_true rfl) ⟨narrow_ref _ _, rfl⟩ ?_
  have M3 : Mk G b (.inr (10, [.ref (b + 1), .ref (b + 14), .ref (b + 19), .null, .null, .null, .null, .null, .null, .null, .null, .null, .null, .null, .null, .null])) ([] ++ L0 (b + 1) ++ L3 (b + 14) ++ L7 (b + 19)) (b + 32) (hup (G') b (.inr (10, [.ref (b + 1), .ref (b + 14), .ref (b + 19), .null, .null, .null, .null, .null, .null, .null, .null, .null, .null, .null, .null, .null]))) := M2.sub n2 f2 l2
  show V K 108 12178 _ _ _ _ (hup (G') b (.inr (10, [.ref (b + 1), .ref (b + 14), .ref (b + 19), .null, .null, .null, .null, .null, .null, .null, .null, .null, .null, .null, .null, .null]))) Q
  generalize hup (G') b (.inr (10, [.ref (b + 1), .ref (b + 14), .ref (b + 19), .null, .null, .null, .null, .null, .null, .null, .null, .null, .null, .null, .null, .null])) = G3 at M3 ⊢
  refine V_aload_n rfl (by rfl) ?_
  refine V_new (ci := 1) (bc' := 107) (bs' := 12164) (fs := [.null, .null, .null, .null, .null, .null, .null, .null, .int 0, .int 0, .int 0, .int 0, .int 0, .int 0]) rfl rfl ⟨kl_X11_30, kn_X1⟩ rfl M3.2.1 (by omega) ⟨Nat.le_of_ble_eq_true rfl, Nat.le_of_ble_eq_true rfl⟩ ?_
  show V K 107 12164 _ _ _ _ (hnw G3 (b + 32) (.inr (1, [.null, .null, .null, .null, .null, .null, .null, .null, .int 0, .int 0, .int 0, .int 0, .int 0, .int 0]))) Q
  refine V_dup rfl rfl ?_
  refine V_callN (M' := mX1_init) (mc := 45) (ms := 5142) (bc' := 62) (bs' := 7022) rfl (List.mem_of_getElem? (i := 5) (by rfl)) okX1_init (by decide +kernel) ii_X1_init rfl (Nat.le_of_ble_eq_true rfl) ⟨Nat.le_of_ble_eq_true rfl, Nat.le_of_ble_eq_true rfl⟩ ⟨Nat.le_of_ble_eq_true rfl, Nat.le_of_ble_eq_true rfl⟩ (As := []) (c_new1 (b := b + 32) (Q := fun o G' => o = .inl none ∧ G'.2 = some (b + 32 + (L1 (b + 32)).length) ∧ (∀ j, j < b + 32 → G'.1 j = (hnw G3 (b + 32) (.inr (1, [.null, .null, .null, .null, .null, .null, .null, .null, .int 0, .int 0, .int 0, .int 0, .int 0, .int 0]))).1 j) ∧ HL G' (b + 32) (L1 (b + 32))) hnw_eq rfl (by omega) (fun G' h1 h2 h3 => ⟨rfl, h1, h2, h3⟩)) (fun E G' h => by cases h.1) (fun o G' h => ?_)
  obtain ⟨h0, n3, f3, l3⟩ := h
  cases h0
  have f3 : ∀ j, j < b + 32 → G'.1 j = G3.1 j := fun j hj => (f3 j hj).trans (hnw_ne (by omega))
  refine V_putF rfl rfl rfl rfl rfl rfl ((f3 b (by omega)).trans M3.1) (Nat.le_of_ble_eq_true rfl) ⟨narrow_ref _ _, rfl⟩ ?_
  have M4 : Mk G b (.inr (10, [.ref (b + 1), .ref (b + 14), .ref (b + 19), .ref (b + 32), .null, .null, .null, .null, .null, .null, .null, .null, .null, .null, .null, .null])) ([] ++ L0 (b + 1) ++ L3 (b + 14) ++ L7 (b + 19) ++ L1 (b + 32)) (b + 78) (hup (G') b (.inr (10, [.ref (b + 1), .ref (b + 14), .ref (b + 19), .ref (b + 32), .null, .null, .null, .null, .null, .null, .null, .null, .null, .null, .null, .null]))) := M3.sub n3 f3 l3
  show V K 62 7022 _ _ _ _ (hup (G') b (.inr (10, [.ref (b + 1), .ref (b + 14), .ref (b + 19), .ref (b + 32), .null, .null, .null, .null, .null, .null, .null, .null, .null, .null, .null, .null]))) Q
  generalize hup (G') b (.inr (10, [.ref (b + 1), .ref (b + 14), .ref (b + 19), .ref (b + 32), .null, .null, .null, .null, .null, .null, .null, .null, .null, .null, .null, .null])) = G4 at M4 ⊢
  refine V_aload_n rfl (by rfl) ?_
  refine V_new (ci := 1) (bc' := 61) (bs' := 7008) (fs := [.null, .null, .null, .null, .null, .null, .null, .null, .int 0, .int 0, .int 0, .int 0, .int 0, .int 0]) rfl rfl ⟨kl_X11_30, kn_X1⟩ rfl M4.2.1 (by omega) ⟨Nat.le_of_ble_eq_true rfl, Nat.le_of_ble_eq_true rfl⟩ ?_
  show V K 61 7008 _ _ _ _ (hnw G4 (b + 78) (.inr (1, [.null, .null, .null, .null, .null, .null, .null, .null, .int 0, .int 0, .int 0, .int 0, .int 0, .int 0]))) Q
  refine V_dup rfl rfl ?_
  refine V_callN (M' := mX1_init) (mc := 45) (ms := 5142) (bc' := 16) (bs' := 1866) rfl (List.mem_of_getElem? (i := 5) (by rfl)) okX1_init (by decide +kernel) ii_X1_init rfl (Nat.le_of_ble_eq_true rfl) ⟨Nat.le_of_ble_eq_true rfl, Nat.le_of_ble_eq_true rfl⟩ ⟨Nat.le_of_ble_eq_true rfl, Nat.le_of_ble_eq_true rfl⟩ (As := []) (c_new1 (b := b + 78) (Q := fun o G' => o = .inl none ∧ G'.2 = some (b + 78 + (L1 (b + 78)).length) ∧ (∀ j, j < b + 78 → G'.1 j = (hnw G4 (b + 78) (.inr (1, [.null, .null, .null, .null, .null, .null, .null, .null, .int 0, .int 0, .int 0, .int 0, .int 0, .int 0]))).1 j) ∧ HL G' (b + 78) (L1 (b + 78))) hnw_eq rfl (by omega) (fun G' h1 h2 h3 => ⟨rfl, h1, h2, h3⟩)) (fun E G' h => by cases h.1) (fun o G' h => ?_)
  obtain ⟨h0, n4, f4, l4⟩ := h
  cases h0
  have f4 : ∀ j, j < b + 78 → G'.1 j = G4.1 j := fun j hj => (f4 j hj).trans (hnw_ne (by omega))
  refine V_putF rfl rfl rfl rfl rfl rfl ((f4 b (by omega)).trans M4.1) (Nat.le_of_ble_eq_true rfl) ⟨narrow_ref _ _, rfl⟩ ?_
  have M5 : Mk G b (.inr (10, [.ref (b + 1), .ref (b + 14), .ref (b + 19), .ref (b + 32), .ref (b + 78), .null, .null, .null, .null, .null, .null, .null, .null, .null, .null, .null])) ([] ++ L0 (b + 1) ++ L3 (b + 14) ++ L7 (b + 19) ++ L1 (b + 32) ++ L1 (b + 78)) (b + 124) (hup (G') b (.inr (10, [.ref (b + 1), .ref (b + 14), .ref (b + 19), .ref (b + 32), .ref (b + 78), .null, .null, .null, .null, .null, .null, .null, .null, .null, .null, .null]))) := M4.sub n4 f4 l4
  show V K 16 1866 _ _ _ _ (hup (G') b (.inr (10, [.ref (b + 1), .ref (b + 14), .ref (b + 19), .ref (b + 32), .ref (b + 78), .null, .null, .null, .null, .null, .null, .null, .null, .null, .null, .null]))) Q
  generalize hup (G') b (.inr (10, [.ref (b + 1), .ref (b + 14), .ref (b + 19), .ref (b + 32), .ref (b + 78), .null, .null, .null, .null, .null, .null, .null, .null, .null, .null, .null])) = G5 at M5 ⊢
  refine V_aload_n rfl (by rfl) ?_
  refine V_bipush (v := nI 32) rfl (by decide) ?_
  refine V_nwI (bc' := 15) (bs' := 1834) rfl (by decide) M5.2.1 (by omega) ⟨Nat.le_of_ble_eq_true rfl, Nat.le_of_ble_eq_true rfl⟩ ?_
  refine V_putF rfl rfl rfl rfl rfl rfl ((hnw_ne (by omega)).trans M5.1) (Nat.le_of_ble_eq_true rfl) ⟨narrow_ref _ _, rfl⟩ ?_
  have M6 : Mk G b (.inr (10, [.ref (b + 1), .ref (b + 14), .ref (b + 19), .ref (b + 32), .ref (b + 78), .ref (b + 124), .null, .null, .null, .null, .null, .null, .null, .null, .null, .null])) ([] ++ L0 (b + 1) ++ L3 (b + 14) ++ L7 (b + 19) ++ L1 (b + 32) ++ L1 (b + 78) ++ [BA 32 z0]) (b + 125) (hup (hnw G5 (b + 124) (BA 32 z0)) b (.inr (10, [.ref (b + 1), .ref (b + 14), .ref (b + 19), .ref (b + 32), .ref (b + 78), .ref (b + 124), .null, .null, .null, .null, .null, .null, .null, .null, .null, .null]))) := M5.arr
  show V K 15 1834 _ _ _ _ (hup (hnw G5 (b + 124) (BA 32 z0)) b (.inr (10, [.ref (b + 1), .ref (b + 14), .ref (b + 19), .ref (b + 32), .ref (b + 78), .ref (b + 124), .null, .null, .null, .null, .null, .null, .null, .null, .null, .null]))) Q
  generalize hup (hnw G5 (b + 124) (BA 32 z0)) b (.inr (10, [.ref (b + 1), .ref (b + 14), .ref (b + 19), .ref (b + 32), .ref (b + 78), .ref (b + 124), .null, .null, .null, .null, .null, .null, .null, .null, .null, .null])) = G6 at M6 ⊢
  refine V_aload_n rfl (by rfl) ?_
  refine V_bipush (v := nI 32) rfl (by decide) ?_
  refine V_nwI (bc' := 14) (bs' := 1802) rfl (by decide) M6.2.1 (by omega) ⟨Nat.le_of_ble_eq_true rfl, Nat.le_of_ble_eq_true rfl⟩ ?_
  refine V_putF rfl rfl rfl rfl rfl rfl ((hnw_ne (by omega)).trans M6.1) (Nat.le_of_ble_eq_true rfl) ⟨narrow_ref _ _, rfl⟩ ?_
  have M7 : Mk G b (.inr (10, [.ref (b + 1), .ref (b + 14), .ref (b + 19), .ref (b + 32), .ref (b + 78), .ref (b + 124), .ref (b + 125), .null, .null, .null, .null, .null, .null, .null, .null, .null])) ([] ++ L0 (b + 1) ++ L3 (b + 14) ++ L7 (b + 19) ++ L1 (b + 32) ++ L1 (b + 78) ++ [BA 32 z0] ++ [BA 32 z0]) (b + 126) (hup (hnw G6 (b + 125) (BA 32 z0)) b (.inr (10, [.ref (b + 1), .ref (b + 14), .ref (b + 19), .ref (b + 32), .ref (b + 78), .ref (b + 124), .ref (b + 125), .null, .null, .null, .null, .null, .null, .null, .null, .null]))) := M6.arr
  show V K 14 1802 _ _ _ _ (hup (hnw G6 (b + 125) (BA 32 z0)) b (.inr (10, [.ref (b + 1), .ref (b + 14), .ref (b + 19), .ref (b + 32), .ref (b + 78), .ref (b + 124), .ref (b + 125), .null, .null, .null, .null, .null, .null, .null, .null, .null]))) Q
  generalize hup (hnw G6 (b + 125) (BA 32 z0)) b (.inr (10, [.ref (b + 1), .ref (b + 14), .ref (b + 19), .ref (b + 32), .ref (b + 78), .ref (b + 124), .ref (b + 125), .null, .null, .null, .null, .null, .null, .null, .null, .null])) = G7 at M7 ⊢
  refine V_aload_n rfl (by rfl) ?_
  refine V_bipush (v := nI 32) rfl (by decide) ?_
  refine V_nwI (bc' := 13) (bs' := 1770) rfl (by decide) M7.2.1 (by omega) ⟨Nat.le_of_ble_eq_true rfl, Nat.le_of_ble_eq_true rfl⟩ ?_
  refine V_putF rfl rfl rfl rfl rfl rfl ((hnw_ne (by omega)).trans M7.1) (Nat.le_of_ble_eq_true rfl) ⟨narrow_ref _ _, rfl⟩ ?_
  have M8 : Mk G b (.inr (10, [.ref (b + 1), .ref (b + 14), .ref (b + 19), .ref (b + 32), .ref (b + 78), .ref (b + 124), .ref (b + 125), .ref (b + 126), .null, .null, .null, .null, .null, .null, .null, .null])) ([] ++ L0 (b + 1) ++ L3 (b + 14) ++ L7 (b + 19) ++ L1 (b + 32) ++ L1 (b + 78) ++ [BA 32 z0] ++ [BA 32 z0] ++ [BA 32 z0]) (b + 127) (hup (hnw G7 (b + 126) (BA 32 z0)) b (.inr (10, [.ref (b + 1), .ref (b + 14), .ref (b + 19), .ref (b + 32), .ref (b + 78), .ref (b + 124), .ref (b + 125), .ref (b + 126), .null, .null, .null, .null, .null, .null, .null, .null]))) := M7.arr
  show V K 13 1770 _ _ _ _ (hup (hnw G7 (b + 126) (BA 32 z0)) b (.inr (10, [.ref (b + 1), .ref (b + 14), .ref (b + 19), .ref (b + 32), .ref (b + 78), .ref (b + 124), .ref (b + 125), .ref (b + 126), .null, .null, .null, .null, .null, .null, .null, .null]))) Q
  generalize hup (hnw G7 (b + 126) (BA 32 z0)) b (.inr (10, [.ref (b + 1), .ref (b + 14), .ref (b + 19), .ref (b + 32), .ref (b + 78), .ref (b + 124), .ref (b + 125), .ref (b + 126), .null, .null, .null, .null, .null, .null, .null, .null])) = G8 at M8 ⊢
  refine V_aload_n rfl (by rfl) ?_
  refine V_bipush (v := nI 32) rfl (by decide) ?_
  refine V_nwI (bc' := 12) (bs' := 1738) rfl (by decide) M8.2.1 (by omega) ⟨Nat.le_of_ble_eq_true rfl, Nat.le_of_ble_eq_true rfl⟩ ?_
  refine V_putF rfl rfl rfl rfl rfl rfl ((hnw_ne (by omega)).trans M8.1) (Nat.le_of_ble_eq_true rfl) ⟨narrow_ref _ _, rfl⟩ ?_
  have M9 : Mk G b (.inr (10, [.ref (b + 1), .ref (b + 14), .ref (b + 19), .ref (b + 32), .ref (b + 78), .ref (b + 124), .ref (b + 125), .ref (b + 126), .ref (b + 127), .null, .null, .null, .null, .null, .null, .null])) ([] ++ L0 (b + 1) ++ L3 (b + 14) ++ L7 (b + 19) ++ L1 (b + 32) ++ L1 (b + 78) ++ [BA 32 z0] ++ [BA 32 z0] ++ [BA 32 z0] ++ [BA 32 z0]) (b + 128) (hup (hnw G8 (b + 127) (BA 32 z0)) b (.inr (10, [.ref (b + 1), .ref (b + 14), .ref (b + 19), .ref (b + 32), .ref (b + 78), .ref (b + 124), .ref (b + 125), .ref (b + 126), .ref (b + 127), .null, .null, .null, .null, .null, .null, .null]))) := M8.arr
  show V K 12 1738 _ _ _ _ (hup (hnw G8 (b + 127) (BA 32 z0)) b (.inr (10, [.ref (b + 1), .ref (b + 14), .ref (b + 19), .ref (b + 32), .ref (b + 78), .ref (b + 124), .ref (b + 125), .ref (b + 126), .ref (b + 127), .null, .null, .null, .null, .null, .null, .null]))) Q
  generalize hup (hnw G8 (b + 127) (BA 32 z0)) b (.inr (10, [.ref (b + 1), .ref (b + 14), .ref (b + 19), .ref (b + 32), .ref (b + 78), .ref (b + 124), .ref (b + 125), .ref (b + 126), .ref (b + 127), .null, .null, .null, .null, .null, .null, .null])) = G9 at M9 ⊢
  refine V_aload_n rfl (by rfl) ?_
  refine V_bipush (v := nI 32) rfl (by decide) ?_
  refine V_nwI (bc' := 11) (bs' := 1706) rfl (by decide) M9.2.1 (by omega) ⟨Nat.le_of_ble_eq_true rfl, Nat.le_of_ble_eq_true rfl⟩ ?_
  refine V_putF rfl rfl rfl rfl rfl rfl ((hnw_ne (by omega)).trans M9.1) (Nat.le_of_ble_eq_true rfl) ⟨narrow_ref _ _, rfl⟩ ?_
  have M10 : Mk G b (.inr (10, [.ref (b + 1), .ref (b + 14), .ref (b + 19), .ref (b + 32), .ref (b + 78), .ref (b + 124), .ref (b + 125), .ref (b + 126), .ref (b + 127), .ref (b + 128), .null, .null, .null, .null, .null, .null])) ([] ++ L0 (b + 1) ++ L3 (b + 14) ++ L7 (b + 19) ++ L1 (b + 32) ++ L1 (b + 78) ++ [BA 32 z0] ++ [BA 32 z0] ++ [BA 32 z0] ++ [BA 32 z0] ++ [BA 32 z0]) (b + 129) (hup (hnw G9 (b + 128) (BA 32 z0)) b (.inr (10, [.ref (b + 1), .ref (b + 14), .ref (b + 19), .ref (b + 32), .ref (b + 78), .ref (b + 124), .ref (b + 125), .ref (b + 126), .ref (b + 127), .ref (b + 128), .null, .null, .null, .null, .null, .null]))) := M9.arr
  show V K 11 1706 _ _ _ _ (hup (hnw G9 (b + 128) (BA 32 z0)) b (.inr (10, [.ref (b + 1), .ref (b + 14), .ref (b + 19), .ref (b + 32), .ref (b + 78), .ref (b + 124), .ref (b + 125), .ref (b + 126), .ref (b + 127), .ref (b + 128), .null, .null, .null, .null, .null, .null]))) Q
  generalize hup (hnw G9 (b + 128) (BA 32 z0)) b (.inr (10, [.ref (b + 1), .ref (b + 14), .ref (b + 19), .ref (b + 32), .ref (b + 78), .ref (b + 124), .ref (b + 125), .ref (b + 126), .ref (b + 127), .ref (b + 128), .null, .null, .null, .null, .null, .null])) = G10 at M10 ⊢
  refine V_aload_n rfl (by rfl) ?_
  refine V_bipush (v := nI 32) rfl (by decide) ?_
  refine V_nwI (bc' := 10) (bs' := 1674) rfl (by decide) M10.2.1 (by omega) ⟨Nat.le_of_ble_eq_true rfl, Nat.le_of_ble_eq_true rfl⟩ ?_
  refine V_putF rfl rfl rfl rfl rfl rfl ((hnw_ne (by omega)).trans M10.1) (Nat.le_of_ble_eq_true rfl) ⟨narrow_ref _ _, rfl⟩ ?_
  have M11 : Mk G b (.inr (10, [.ref (b + 1), .ref (b + 14), .ref (b + 19), .ref (b + 32), .ref (b + 78), .ref (b + 124), .ref (b + 125), .ref (b + 126), .ref (b + 127), .ref (b + 128), .ref (b + 129), .null, .null, .null, .null, .null])) ([] ++ L0 (b + 1) ++ L3 (b + 14) ++ L7 (b + 19) ++ L1 (b + 32) ++ L1 (b + 78) ++ [BA 32 z0] ++ [BA 32 z0] ++ [BA 32 z0] ++ [BA 32 z0] ++ [BA 32 z0] ++ [BA 32 z0]) (b + 130) (hup (hnw G10 (b + 129) (BA 32 z0)) b (.inr (10, [.ref (b + 1), .ref (b + 14), .ref (b + 19), .ref (b + 32), .ref (b + 78), .ref (b + 124), .ref (b + 125), .ref (b + 126), .ref (b + 127), .ref (b + 128), .ref (b + 129), .null, .null, .null, .null, .null]))) := M10.arr
  show V K 10 1674 _ _ _ _ (hup (hnw G10 (b + 129) (BA 32 z0)) b (.inr (10, [.ref (b + 1), .ref (b + 14), .ref (b + 19), .ref (b + 32), .ref (b + 78), .ref (b + 124), .ref (b + 125), .ref (b + 126), .ref (b + 127), .ref (b + 128), .ref (b + 129), .null, .null, .null, .null, .null]))) Q
  generalize hup (hnw G10 (b + 129) (BA 32 z0)) b (.inr (10, [.ref (b + 1), .ref (b + 14), .ref (b + 19), .ref (b + 32), .ref (b + 78), .ref (b + 124), .ref (b + 125), .ref (b + 126), .ref (b + 127), .ref (b + 128), .ref (b + 129), .null, .null, .null, .null, .null])) = G11 at M11 ⊢
  refine V_aload_n rfl (by rfl) ?_
  refine V_new (ci := 5) (bc' := 9) (bs' := 1672) (fs := [.null, .int 0]) rfl rfl ⟨kl_X11_59, kn_X6⟩ rfl M11.2.1 (by omega) ⟨Nat.le_of_ble_eq_true rfl, Nat.le_of_ble_eq_true rfl⟩ ?_
  show V K 9 1672 _ _ _ _ (hnw G11 (b + 130) (.inr (5, [.null, .int 0]))) Q
  refine V_dup rfl rfl ?_
  refine V_bipush (v := nI 64) rfl (by decide) ?_
  refine V_callI (M' := mX6_init) (mc := 1) (ms := 64) (bc' := 8) (bs' := 1608) rfl cw_X11_61 ii_X6_init rfl (Nat.le_of_ble_eq_true rfl) ⟨Nat.le_of_ble_eq_true rfl, Nat.le_of_ble_eq_true rfl⟩ ⟨Nat.le_of_ble_eq_true rfl, Nat.le_of_ble_eq_true rfl⟩ (As := [.int (nI 64)]) (c_new6 (b := b + 130) (Q := fun o G' => o = .inl none ∧ G'.2 = some (b + 130 + (L6 64 (b + 130)).length) ∧ (∀ j, j < b + 130 → G'.1 j = (hnw G11 (b + 130) (.inr (5, [.null, .int 0]))).1 j) ∧ HL G' (b + 130) (L6 64 (b + 130))) hnw_eq rfl (by omega) (by decide) (fun G' h1 h2 h3 => ⟨rfl, h1, h2, h3⟩)) (fun E G' h => by cases h.1) (fun o G' h => ?_)
  obtain ⟨h0, n11, f11, l11⟩ := h
  cases h0
  have f11 : ∀ j, j < b + 130 → G'.1 j = G11.1 j := fun j hj => (f11 j hj).trans (hnw_ne (by omega))
  refine V_putF rfl rfl rfl rfl rfl rfl ((f11 b (by omega)).trans M11.1) (Nat.le_of_ble_eq_true rfl) ⟨narrow_ref _ _, rfl⟩ ?_
  have M12 : Mk G b (.inr (10, [.ref (b + 1), .ref (b + 14), .ref (b + 19), .ref (b + 32), .ref (b + 78), .ref (b + 124), .ref (b + 125), .ref (b + 126), .ref (b + 127), .ref (b + 128), .ref (b + 129), .ref (b + 130), .null, .null, .null, .null])) ([] ++ L0 (b + 1) ++ L3 (b + 14) ++ L7 (b + 19) ++ L1 (b + 32) ++ L1 (b + 78) ++ [BA 32 z0] ++ [BA 32 z0] ++ [BA 32 z0] ++ [BA 32 z0] ++ [BA 32 z0] ++ [BA 32 z0] ++ L6 64 (b + 130)) (b + 132) (hup (G') b (.inr (10, [.ref (b + 1), .ref (b + 14), .ref (b + 19), .ref (b + 32), .ref (b + 78), .ref (b + 124), .ref (b + 125), .ref (b + 126), .ref (b + 127), .ref (b + 128), .ref (b + 129), .ref (b + 130), .null, .null, .null, .null]))) := M11.sub n11 f11 l11
  show V K 8 1608 _ _ _ _ (hup (G') b (.inr (10, [.ref (b + 1), .ref (b + 14), .ref (b + 19), .ref (b + 32), .ref (b + 78), .ref (b + 124), .ref (b + 125), .ref (b + 126), .ref (b + 127), .ref (b + 128), .ref (b + 129), .ref (b + 130), .null, .null, .null, .null]))) Q
  generalize hup (G') b (.inr (10, [.ref (b + 1), .ref (b + 14), .ref (b + 19), .ref (b + 32), .ref (b + 78), .ref (b + 124), .ref (b + 125), .ref (b + 126), .ref (b + 127), .ref (b + 128), .ref (b + 129), .ref (b + 130), .null, .null, .null, .null])) = G12 at M12 ⊢
  refine V_aload_n rfl (by rfl) ?_
  refine V_new (ci := 5) (bc' := 7) (bs' := 1606) (fs := [.null, .int 0]) rfl rfl ⟨kl_X11_59, kn_X6⟩ rfl M12.2.1 (by omega) ⟨Nat.le_of_ble_eq_true rfl, Nat.le_of_ble_eq_true rfl⟩ ?_
  show V K 7 1606 _ _ _ _ (hnw G12 (b + 132) (.inr (5, [.null, .int 0]))) Q
  refine V_dup rfl rfl ?_
  refine V_sipush (v := nI 200) rfl (by decide) ?_
  refine V_callI (M' := mX6_init) (mc := 1) (ms := 200) (bc' := 6) (bs' := 1406) rfl cw_X11_61 ii_X6_init rfl (Nat.le_of_ble_eq_true rfl) ⟨Nat.le_of_ble_eq_true rfl, Nat.le_of_ble_eq_true rfl⟩ ⟨Nat.le_of_ble_eq_true rfl, Nat.le_of_ble_eq_true rfl⟩ (As := [.int (nI 200)]) (c_new6 (b := b + 132) (Q := fun o G' => o = .inl none ∧ G'.2 = some (b + 132 + (L6 200 (b + 132)).length) ∧ (∀ j, j < b + 132 → G'.1 j = (hnw G12 (b + 132) (.inr (5, [.null, .int 0]))).1 j) ∧ HL G' (b + 132) (L6 200 (b + 132))) hnw_eq rfl (by omega) (by decide) (fun G' h1 h2 h3 => ⟨rfl, h1, h2, h3⟩)) (fun E G' h => by cases h.1) (fun o G' h => ?_)
  obtain ⟨h0, n12, f12, l12⟩ := h
  cases h0
  have f12 : ∀ j, j < b + 132 → G'.1 j = G12.1 j := fun j hj => (f12 j hj).trans (hnw_ne (by omega))
  refine V_putF rfl rfl rfl rfl rfl rfl ((f12 b (by omega)).trans M12.1) (Nat.le_of_ble_eq_true rfl) ⟨narrow_ref _ _, rfl⟩ ?_
  have M13 : Mk G b (.inr (10, [.ref (b + 1), .ref (b + 14), .ref (b + 19), .ref (b + 32), .ref (b + 78), .ref (b + 124), .ref (b + 125), .ref (b + 126), .ref (b + 127), .ref (b + 128), .ref (b + 129), .ref (b + 130), .ref (b + 132), .null, .null, .null])) ([] ++ L0 (b + 1) ++ L3 (b + 14) ++ L7 (b + 19) ++ L1 (b + 32) ++ L1 (b + 78) ++ [BA 32 z0] ++ [BA 32 z0] ++ [BA 32 z0] ++ [BA 32 z0] ++ [BA 32 z0] ++ [BA 32 z0] ++ L6 64 (b + 130) ++ L6 200 (b + 132)) (b + 134) (hup (G') b (.inr (10, [.ref (b + 1), .ref (b + 14), .ref (b + 19), .ref (b + 32), .ref (b + 78), .ref (b + 124), .ref (b + 125), .ref (b + 126), .ref (b + 127), .ref (b + 128), .ref (b + 129), .ref (b + 130), .ref (b + 132), .null, .null, .null]))) := M12.sub n12 f12 l12
  show V K 6 1406 _ _ _ _ (hup (G') b (.inr (10, [.ref (b + 1), .ref (b + 14), .ref (b + 19), .ref (b + 32), .ref (b + 78), .ref (b + 124), .ref (b + 125), .ref (b + 126), .ref (b + 127), .ref (b + 128), .ref (b + 129), .ref (b + 130), .ref (b + 132), .null, .null, .null]))) Q
  generalize hup (G') b (.inr (10, [.ref (b + 1), .ref (b + 14), .ref (b + 19), .ref (b + 32), .ref (b + 78), .ref (b + 124), .ref (b + 125), .ref (b + 126), .ref (b + 127), .ref (b + 128), .ref (b + 129), .ref (b + 130), .ref (b + 132), .null, .null, .null])) = G13 at M13 ⊢
  refine V_aload_n rfl (by rfl) ?_
  refine V_new (ci := 5) (bc' := 5) (bs' := 1404) (fs := [.null, .int 0]) rfl rfl ⟨kl_X11_59, kn_X6⟩ rfl M13.2.1 (by omega) ⟨Nat.le_of_ble_eq_true rfl, Nat.le_of_ble_eq_true rfl⟩ ?_
  show V K 5 1404 _ _ _ _ (hnw G13 (b + 134) (.inr (5, [.null, .int 0]))) Q
  refine V_dup rfl rfl ?_
  refine V_sipush (v := nI 200) rfl (by decide) ?_
  refine V_callI (M' := mX6_init) (mc := 1) (ms := 200) (bc' := 4) (bs' := 1204) rfl cw_X11_61 ii_X6_init rfl (Nat.le_of_ble_eq_true rfl) ⟨Nat.le_of_ble_eq_true rfl, Nat.le_of_ble_eq_true rfl⟩ ⟨Nat.le_of_ble_eq_true rfl, Nat.le_of_ble_eq_true rfl⟩ (As := [.int (nI 200)]) (c_new6 (b := b + 134) (Q := fun o G' => o = .inl none ∧ G'.2 = some (b + 134 + (L6 200 (b + 134)).length) ∧ (∀ j, j < b + 134 → G'.1 j = (hnw G13 (b + 134) (.inr (5, [.null, .int 0]))).1 j) ∧ HL G' (b + 134) (L6 200 (b + 134))) hnw_eq rfl (by omega) (by decide) (fun G' h1 h2 h3 => ⟨rfl, h1, h2, h3⟩)) (fun E G' h => by cases h.1) (fun o G' h => ?_)
  obtain ⟨h0, n13, f13, l13⟩ := h
  cases h0
  have f13 : ∀ j, j < b + 134 → G'.1 j = G13.1 j := fun j hj => (f13 j hj).trans (hnw_ne (by omega))
  refine V_putF rfl rfl rfl rfl rfl rfl ((f13 b (by omega)).trans M13.1) (Nat.le_of_ble_eq_true rfl) ⟨narrow_ref _ _, rfl⟩ ?_
  have M14 : Mk G b (.inr (10, [.ref (b + 1), .ref (b + 14), .ref (b + 19), .ref (b + 32), .ref (b + 78), .ref (b + 124), .ref (b + 125), .ref (b + 126), .ref (b + 127), .ref (b + 128), .ref (b + 129), .ref (b + 130), .ref (b + 132), .ref (b + 134), .null, .null])) ([] ++ L0 (b + 1) ++ L3 (b + 14) ++ L7 (b + 19) ++ L1 (b + 32) ++ L1 (b + 78) ++ [BA 32 z0] ++ [BA 32 z0] ++ [BA 32 z0] ++ [BA 32 z0] ++ [BA 32 z0] ++ [BA 32 z0] ++ L6 64 (b + 130) ++ L6 200 (b + 132) ++ L6 200 (b + 134)) (b + 136) (hup (G') b (.inr (10, [.ref (b + 1), .ref (b + 14), .ref (b + 19), .ref (b + 32), .ref (b + 78), .ref (b + 124), .ref (b + 125), .ref (b + 126), .ref (b + 127), .ref (b + 128), .ref (b + 129), .ref (b + 130), .ref (b + 132), .ref (b + 134), .null, .null]))) := M13.sub n13 f13 l13
  show V K 4 1204 _ _ _ _ (hup (G') b (.inr (10, [.ref (b + 1), .ref (b + 14), .ref (b + 19), .ref (b + 32), .ref (b + 78), .ref (b + 124), .ref (b + 125), .ref (b + 126), .ref (b + 127), .ref (b + 128), .ref (b + 129), .ref (b + 130), .ref (b + 132), .ref (b + 134), .null, .null]))) Q
  generalize hup (G') b (.inr (10, [.ref (b + 1), .ref (b + 14), .ref (b + 19), .ref (b + 32), .ref (b + 78), .ref (b + 124), .ref (b + 125), .ref (b + 126), .ref (b + 127), .ref (b + 128), .ref (b + 129), .ref (b + 130), .ref (b + 132), .ref (b + 134), .null, .null])) = G14 at M14 ⊢
  refine V_aload_n rfl (by rfl) ?_
  refine V_new (ci := 5) (bc' := 3) (bs' := 1202) (fs := [.null, .int 0]) rfl rfl ⟨kl_X11_59, kn_X6⟩ rfl M14.2.1 (by omega) ⟨Nat.le_of_ble_eq_true rfl, Nat.le_of_ble_eq_true rfl⟩ ?_
  show V K 3 1202 _ _ _ _ (hnw G14 (b + 136) (.inr (5, [.null, .int 0]))) Q
  refine V_dup rfl rfl ?_
  refine V_sipush (v := nI 600) rfl (by decide) ?_
  refine V_callI (M' := mX6_init) (mc := 1) (ms := 600) (bc' := 2) (bs' := 602) rfl cw_X11_61 ii_X6_init rfl (Nat.le_of_ble_eq_true rfl) ⟨Nat.le_of_ble_eq_true rfl, Nat.le_of_ble_eq_true rfl⟩ ⟨Nat.le_of_ble_eq_true rfl, Nat.le_of_ble_eq_true rfl⟩ (As := [.int (nI 600)]) (c_new6 (b := b + 136) (Q := fun o G' => o = .inl none ∧ G'.2 = some (b + 136 + (L6 600 (b + 136)).length) ∧ (∀ j, j < b + 136 → G'.1 j = (hnw G14 (b + 136) (.inr (5, [.null, .int 0]))).1 j) ∧ HL G' (b + 136) (L6 600 (b + 136))) hnw_eq rfl (by omega) (by decide) (fun G' h1 h2 h3 => ⟨rfl, h1, h2, h3⟩)) (fun E G' h => by cases h.1) (fun o G' h => ?_)
  obtain ⟨h0, n14, f14, l14⟩ := h
  cases h0
  have f14 : ∀ j, j < b + 136 → G'.1 j = G14.1 j := fun j hj => (f14 j hj).trans (hnw_ne (by omega))
  refine V_putf rfl rfl rfl rfl ((f14 b (by omega)).trans M14.1) (Nat.le_of_ble_eq_true rfl) ⟨narrow_ref _ _, rfl⟩ ?_
  have M15 : Mk G b (.inr (10, [.ref (b + 1), .ref (b + 14), .ref (b + 19), .ref (b + 32), .ref (b + 78), .ref (b + 124), .ref (b + 125), .ref (b + 126), .ref (b + 127), .ref (b + 128), .ref (b + 129), .ref (b + 130), .ref (b + 132), .ref (b + 134), .ref (b + 136), .null])) ([] ++ L0 (b + 1) ++ L3 (b + 14) ++ L7 (b + 19) ++ L1 (b + 32) ++ L1 (b + 78) ++ [BA 32 z0] ++ [BA 32 z0] ++ [BA 32 z0] ++ [BA 32 z0] ++ [BA 32 z0] ++ [BA 32 z0] ++ L6 64 (b + 130) ++ L6 200 (b + 132) ++ L6 200 (b + 134) ++ L6 600 (b + 136)) (b + 138) (hup (G') b (.inr (10, [.ref (b + 1), .ref (b + 14), .ref (b + 19), .ref (b + 32), .ref (b + 78), .ref (b + 124), .ref (b + 125), .ref (b + 126), .ref (b + 127), .ref (b + 128), .ref (b + 129), .ref (b + 130), .ref (b + 132), .ref (b + 134), .ref (b + 136), .null]))) := M14.sub n14 f14 l14
  show V K 2 602 _ _ _ _ (hup (G') b (.inr (10, [.ref (b + 1), .ref (b + 14), .ref (b + 19), .ref (b + 32), .ref (b + 78), .ref (b + 124), .ref (b + 125), .ref (b + 126), .ref (b + 127), .ref (b + 128), .ref (b + 129), .ref (b + 130), .ref (b + 132), .ref (b + 134), .ref (b + 136), .null]))) Q
  generalize hup (G') b (.inr (10, [.ref (b + 1), .ref (b + 14), .ref (b + 19), .ref (b + 32), .ref (b + 78), .ref (b + 124), .ref (b + 125), .ref (b + 126), .ref (b + 127), .ref (b + 128), .ref (b + 129), .ref (b + 130), .ref (b + 132), .ref (b + 134), .ref (b + 136), .null])) = G15 at M15 ⊢
  refine V_aload_n rfl (by rfl) ?_
  refine V_new (ci := 5) (bc' := 1) (bs' := 600) (fs := [.null, .int 0]) rfl rfl ⟨kl_X11_59, kn_X6⟩ rfl M15.2.1 (by omega) ⟨Nat.le_of_ble_eq_true rfl, Nat.le_of_ble_eq_true rfl⟩ ?_
  show V K 1 600 _ _ _ _ (hnw G15 (b + 138) (.inr (5, [.null, .int 0]))) Q
  refine V_dup rfl rfl ?_
  refine V_sipush (v := nI 600) rfl (by decide) ?_
  refine V_callI (M' := mX6_init) (mc := 1) (ms := 600) (bc' := 0) (bs' := 0) rfl cw_X11_61 ii_X6_init rfl (Nat.le_of_ble_eq_true rfl) ⟨Nat.le_of_ble_eq_true rfl, Nat.le_of_ble_eq_true rfl⟩ ⟨Nat.le_of_ble_eq_true rfl, Nat.le_of_ble_eq_true rfl⟩ (As := [.int (nI 600)]) (c_new6 (b := b + 138) (Q := fun o G' => o = .inl none ∧ G'.2 = some (b + 138 + (L6 600 (b + 138)).length) ∧ (∀ j, j < b + 138 → G'.1 j = (hnw G15 (b + 138) (.inr (5, [.null, .int 0]))).1 j) ∧ HL G' (b + 138) (L6 600 (b + 138))) hnw_eq rfl (by omega) (by decide) (fun G' h1 h2 h3 => ⟨rfl, h1, h2, h3⟩)) (fun E G' h => by cases h.1) (fun o G' h => ?_)
  obtain ⟨h0, n15, f15, l15⟩ := h
  cases h0
  have f15 : ∀ j, j < b + 138 → G'.1 j = G15.1 j := fun j hj => (f15 j hj).trans (hnw_ne (by omega))
  refine V_putf rfl rfl rfl rfl ((f15 b (by omega)).trans M15.1) (Nat.le_of_ble_eq_true rfl) ⟨narrow_ref _ _, rfl⟩ ?_
  have M16 : Mk G b (.inr (10, [.ref (b + 1), .ref (b + 14), .ref (b + 19), .ref (b + 32), .ref (b + 78), .ref (b + 124), .ref (b + 125), .ref (b + 126), .ref (b + 127), .ref (b + 128), .ref (b + 129), .ref (b + 130), .ref (b + 132), .ref (b + 134), .ref (b + 136), .ref (b + 138)])) ([] ++ L0 (b + 1) ++ L3 (b + 14) ++ L7 (b + 19) ++ L1 (b + 32) ++ L1 (b + 78) ++ [BA 32 z0] ++ [BA 32 z0] ++ [BA 32 z0] ++ [BA 32 z0] ++ [BA 32 z0] ++ [BA 32 z0] ++ L6 64 (b + 130) ++ L6 200 (b + 132) ++ L6 200 (b + 134) ++ L6 600 (b + 136) ++ L6 600 (b + 138)) (b + 140) (hup (G') b (.inr (10, [.ref (b + 1), .ref (b + 14), .ref (b + 19), .ref (b + 32), .ref (b + 78), .ref (b + 124), .ref (b + 125), .ref (b + 126), .ref (b + 127), .ref (b + 128), .ref (b + 129), .ref (b + 130), .ref (b + 132), .ref (b + 134), .ref (b + 136), .ref (b + 138)]))) := M15.sub n15 f15 l15
  show V K 0 0 _ _ _ _ (hup (G') b (.inr (10, [.ref (b + 1), .ref (b + 14), .ref (b + 19), .ref (b + 32), .ref (b + 78), .ref (b + 124), .ref (b + 125), .ref (b + 126), .ref (b + 127), .ref (b + 128), .ref (b + 129), .ref (b + 130), .ref (b + 132), .ref (b + 134), .ref (b + 136), .ref (b + 138)]))) Q
  generalize hup (G') b (.inr (10, [.ref (b + 1), .ref (b + 14), .ref (b + 19), .ref (b + 32), .ref (b + 78), .ref (b + 124), .ref (b + 125), .ref (b + 126), .ref (b + 127), .ref (b + 128), .ref (b + 129), .ref (b + 130), .ref (b + 132), .ref (b + 134), .ref (b + 136), .ref (b + 138)])) = G16 at M16 ⊢
  exact V_vret rfl rfl (hq _ M16.2.1 M16.2.2.1 M16.hl)
end CCons
