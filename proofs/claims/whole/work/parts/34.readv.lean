section CReadV
variable {K : kK} {G : kG} {Q : kO → kG → Prop}
/-- so many bytes that the last limb is begun and not full -/
theorem rdF_val {b g : Nat → Nat} {L c : Nat} (hb : ∀ j, j < c → b j < 256) (hL : 0 < L) (h1 : 26 * (L - 1) ≤ 8 * c) (h2 : 8 * c < 26 * L) :
    vs (2 ^ 26) (rdF b L g c) L = vs 256 b c ∧ (∀ j, j < L - 1 → rdF b L g c j < 2 ^ 26) ∧ rdF b L g c (L - 1) < 2 ^ (8 * c - 26 * (L - 1)) := by
  obtain ⟨q1, q2, q3, q4, q5, q6, q7⟩ := rdS_ok (g := g) (L := L) hb (by omega) c (Nat.le_refl _)
  have hl : (rdS b L g c).2.2.1 = L - 1 := by omega
  have ht : (rdS b L g c).2.1 = 8 * c - 26 * (L - 1) := by omega
  have e : rdF b L g c = updN (rdS b L g c).2.2.2 (L - 1) (rdS b L g c).1 := by
    unfold rdF
    rw [hl, if_pos (by omega)]
  rw [hl] at q5 q6
  rw [ht] at q1
  rw [e]
  refine ⟨?_, fun j hj => ?_, ?_⟩
  · obtain ⟨m, rfl⟩ : ∃ m, L = m + 1 := ⟨L - 1, by omega⟩
    rw [← q5]
    show vs (2 ^ 26) (updN _ m _) m + updN _ m _ m * _ = _
    rw [updN_eq, vs_congr (w' := (rdS b (m + 1) g c).2.2.2) (fun j hj => updN_ne (by omega))]
    rfl
  · rw [updN_ne (by omega)]
    exact q6 j hj
  · rw [updN_eq]
    exact q1
theorem c_readV {a N l0 L s c : Nat} {b g : Nat → Nat} (ha : G.1 a = some (BA N b)) (hl : G.1 l0 = some (LA L g)) (hs : s + c ≤ N) (hN : N < 2 ^ 20) (hL : L < 100) (hL0 : 0 < L) (hb : ∀ j, j < c → b (s + j) < 256) (h1 : 26 * (L - 1) ≤ 8 * c) (h2 : 8 * c < 26 * L)
    (hq : ∀ U, vs (2 ^ 26) U L = vs 256 (fun j => b (s + j)) c → (∀ j, j < L - 1 → U j < 2 ^ 26) → U (L - 1) < 2 ^ (8 * c - 26 * (L - 1)) → Q (.inl none) (hup G l0 (LA L U))) : C K 0 0 mX5_read [.ref a, .int (nI s), .int (nI c), .ref l0] G Q := by
  obtain ⟨q1, q2, q3⟩ := rdF_val (g := g) (b := fun j => b (s + j)) hb hL0 h1 h2
  exact c_read ha hl hs hN hL hb (by omega) (hq _ q1 q2 q3)
theorem c_readSV {q N l0 L s c : Nat} {b g : Nat → Nat} (ha : kSX K q = some (N, fun j => nI (b j))) (hl : G.1 l0 = some (LA L g)) (hs : s + c ≤ N) (hN : N < 2 ^ 20) (hL : L < 100) (hL0 : 0 < L) (hb : ∀ j, j < c → b (s + j) < 256) (h1 : 26 * (L - 1) ≤ 8 * c) (h2 : 8 * c < 26 * L)
    (hq : ∀ U, vs (2 ^ 26) U L = vs 256 (fun j => b (s + j)) c → (∀ j, j < L - 1 → U j < 2 ^ 26) → U (L - 1) < 2 ^ (8 * c - 26 * (L - 1)) → Q (.inl none) (hup G l0 (LA L U))) : C K 0 0 mX5_read [.ref (1000000 + q), .int (nI s), .int (nI c), .ref l0] G Q := by
  obtain ⟨q1, q2, q3⟩ := rdF_val (g := g) (b := fun j => b (s + j)) hb hL0 h1 h2
  exact c_readS ha hl hs hN hL hb (by omega) (hq _ q1 q2 q3)
/-- the ten limbs of a point, its highest bit away -/
theorem u_mask {U b : Nat → Nat} (h1 : vs (2 ^ 26) U 10 = vs 256 b 32) (h2 : ∀ j, j < 9 → U j < 2 ^ 26) : fA (updN U 9 (U 9 % 2 ^ 21)) ∧ v10 (updN U 9 (U 9 % 2 ^ 21)) = uval b := by
  refine ⟨⟨fun j hj => ?_, ?_⟩, ?_⟩
  · rw [updN_ne (by omega)]
    have := h2 j hj
    omega
  · rw [updN_eq]; exact Nat.mod_lt _ (by decide)
  · unfold uval
    rw [← h1]
    have e1 : v10 (updN U 9 (U 9 % 2 ^ 21)) = vs (2 ^ 26) U 9 + U 9 % 2 ^ 21 * (2 ^ 26) ^ 9 := by
      show vs (2 ^ 26) (updN U 9 (U 9 % 2 ^ 21)) 9 + updN U 9 (U 9 % 2 ^ 21) 9 * _ = _
      rw [updN_eq, vs_congr (w' := U) (fun j hj => updN_ne (by omega))]
    have e2 : vs (2 ^ 26) U 10 = vs (2 ^ 26) U 9 + U 9 * (2 ^ 26) ^ 9 := rfl
    have hlt : vs (2 ^ 26) U 9 < (2 ^ 26) ^ 9 := vs_lt (by decide) h2
    rw [e1, e2]
    generalize vs (2 ^ 26) U 9 = A at *
    generalize U 9 = u9 at *
    rw [show ((2 : Nat) ^ 26) ^ 9 = 2 ^ 234 by decide] at *
    omega
theorem small_ok (z : Nat → Nat) (v : Nat) (hv : v < 2) (hz : ∀ j, j < 10 → z j = if j = 0 then v else 0) : fA z ∧ v10 z % PP = v := by
  refine ⟨⟨fun j hj => ?_, ?_⟩, ?_⟩
  · rw [hz j (by omega)]; split <;> omega
  · rw [hz 9 (by decide)]; simp
  · have e : v10 z = v := by
      simp only [v10, vs, hz 0 (by decide), hz 1 (by decide), hz 2 (by decide), hz 3 (by decide), hz 4 (by decide), hz 5 (by decide), hz 6 (by decide), hz 7 (by decide), hz 8 (by decide), hz 9 (by decide)]
      simp
    rw [e]
    exact Nat.mod_eq_of_lt (Nat.lt_trans hv (by decide))
theorem cpy10_ok {U2 y6 : Nat → Nat} (h : fA U2) : fA (fun j => if j < 10 then U2 j else y6 j) ∧ v10 (fun j => if j < 10 then U2 j else y6 j) = v10 U2 := by
  refine ⟨⟨fun j hj => ?_, ?_⟩, ?_⟩
  · simp only [show j < 10 by omega, if_true]; exact h.1 j hj
  · simp only [show (9 : Nat) < 10 by decide, if_true]; exact h.2
  · exact vs_congr (fun j hj => by simp [hj])
theorem fac_ok {k f2 : Nat → Nat} : ∀ j, j < 32 → updN (updN (fun j => if j < 32 then k j else f2 j) 0 ((if (0 : Nat) < 32 then k 0 else f2 0) &&& 248)) 31 ((updN (fun j => if j < 32 then k j else f2 j) 0 ((if (0 : Nat) < 32 then k 0 else f2 0) &&& 248) 31 &&& 127) ||| 64) j = facf k j := by
  intro j hj
  unfold facf
  by_cases h31 : j = 31
  · subst h31
    simp [updN]
  · by_cases h0 : j = 0
    · subst h0
      simp [updN]
    · simp [updN, h31, h0, hj]
end CReadV
