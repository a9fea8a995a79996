/-! the array rows by natural places; updates of the heap -/
theorem hup_eq {G : kG} {k : Nat} {e : kE} : (hup G k e).1 k = some e := if_pos rfl
theorem hup_ne {G : kG} {k j : Nat} {e : kE} (h : j ≠ k) : (hup G k e).1 j = G.1 j := if_neg h
theorem hup_nx {G : kG} {k : Nat} {e : kE} : (hup G k e).2 = G.2 := rfl
theorem hup_hup {G : kG} {k : Nat} {e e' : kE} : hup (hup G k e) k e' = hup G k e' := by
  unfold hup
  simp only [Prod.mk.injEq, and_true]
  funext j
  by_cases h : j = k <;> simp [h]
theorem hup_same {G : kG} {k : Nat} {e : kE} (h : G.1 k = some e) : hup G k e = G := by
  unfold hup
  obtain ⟨g, x⟩ := G
  simp only [Prod.mk.injEq, and_true]
  funext j
  by_cases hj : j = k
  · subst hj; simp [h]; exact h.symm
  · simp [hj]
theorem hup_comm {G : kG} {k l : Nat} {e e' : kE} (h : k ≠ l) : hup (hup G k e) l e' = hup (hup G l e') k e := by
  unfold hup
  simp only [Prod.mk.injEq, and_true]
  funext j
  by_cases h1 : j = k
  · by_cases h2 : j = l
    · exact absurd (h1.symm.trans h2) h
    · simp [h1, h]
  · by_cases h2 : j = l <;> simp [h1, h2, h, Ne.symm h]
theorem hup3 {G : kG} {r b : Nat} {x y z : kE} (h : r ≠ b) : hup (hup (hup G b x) r y) b z = hup (hup G b z) r y := by
  rw [hup_comm (k := r) (l := b) h, hup_hup]
theorem hup4 {G : kG} {r b : Nat} {x y z w : kE} (h : r ≠ b) : hup (hup (hup (hup G b x) r y) b z) r w = hup (hup G b z) r w := by
  rw [hup3 h, hup_hup]
theorem kG_ext {G G' : kG} (h1 : G.2 = G'.2) (h2 : ∀ j, G.1 j = G'.1 j) : G = G' := Prod.ext (funext h2) h1
section KJ
variable {K : kK} {bc bs : Nat} {M : kM} {pc n t : Nat} {lc : kLo} {st : List Value} {G : kG} {Q : kO → kG → Prop}
theorem V_ialdJ {a N j : Nat} {f : Nat → Int32} {i : Int32} (h : kf M pc = some (.iaload, n, t)) (ha : G.1 a = some (.inl (0, N, .inl f))) (hi : i = nI j) (hj : j < N) (hN : N < 2 ^ 31) (kk : V K bc bs M n lc (.int (f j) :: st) G Q) : V K bc bs M pc lc (.int i :: .ref a :: st) G Q := by
  subst hi
  refine V_iald h ha (vp_in_nI hj hN) ?_
  rw [nI_clamp (by omega)]; exact kk
theorem V_baldJ {a N j : Nat} {f : Nat → Int32} {i : Int32} (h : kf M pc = some (.baload, n, t)) (ha : G.1 a = some (.inl (1, N, .inl f))) (hi : i = nI j) (hj : j < N) (hN : N < 2 ^ 31) (kk : V K bc bs M n lc (.int (f j) :: st) G Q) : V K bc bs M pc lc (.int i :: .ref a :: st) G Q := by
  subst hi
  refine V_bald h ha (vp_in_nI hj hN) ?_
  rw [nI_clamp (by omega)]; exact kk
theorem V_zaldJ {a N j : Nat} {f : Nat → Int32} {i : Int32} (h : kf M pc = some (.baload, n, t)) (ha : G.1 a = some (.inl (3, N, .inl f))) (hi : i = nI j) (hj : j < N) (hN : N < 2 ^ 31) (kk : V K bc bs M n lc (.int (f j) :: st) G Q) : V K bc bs M pc lc (.int i :: .ref a :: st) G Q := by
  subst hi
  refine V_zald h ha (vp_in_nI hj hN) ?_
  rw [nI_clamp (by omega)]; exact kk
theorem V_laldJ {a N j : Nat} {f : Nat → Int64} {i : Int32} (h : kf M pc = some (.laload, n, t)) (ha : G.1 a = some (.inl (2, N, .inr (.inl f)))) (hi : i = nI j) (hj : j < N) (hN : N < 2 ^ 31) (kk : V K bc bs M n lc (.long (f j) :: st) G Q) : V K bc bs M pc lc (.int i :: .ref a :: st) G Q := by
  subst hi
  refine V_lald h ha (vp_in_nI hj hN) ?_
  rw [nI_clamp (by omega)]; exact kk
theorem V_isldJ {j L q : Nat} {xs : Nat → Int32} {i : Int32} (h : kf M pc = some (.iaload, n, t)) (ha : kSX K j = some (L, xs)) (hi : i = nI q) (hj : q < L) (hN : L < 2 ^ 31) (kk : V K bc bs M n lc (.int (xs q) :: st) G Q) : V K bc bs M pc lc (.int i :: .ref (1000000 + j) :: st) G Q := by
  subst hi
  refine V_isld h ha (vp_in_nI hj hN) ?_
  rw [nI_clamp (by omega)]; exact kk
theorem V_iastJ {a N j : Nat} {f : Nat → Int32} {i x : Int32} (h : kf M pc = some (.iastore, n, t)) (ha : G.1 a = some (.inl (0, N, .inl f))) (hi : i = nI j) (hj : j < N) (hN : N < 2 ^ 31) (kk : V K bc bs M n lc st (hup G a (.inl (0, N, .inl (upd f j x)))) Q) : V K bc bs M pc lc (.int x :: .int i :: .ref a :: st) G Q := by
  subst hi
  refine V_iast h ha (vp_in_nI hj hN) ?_
  rw [nI_clamp (by omega)]; exact kk
theorem V_bastJ {a N j : Nat} {f : Nat → Int32} {i x : Int32} (h : kf M pc = some (.bastore, n, t)) (ha : G.1 a = some (.inl (1, N, .inl f))) (hi : i = nI j) (hj : j < N) (hN : N < 2 ^ 31) (kk : V K bc bs M n lc st (hup G a (.inl (1, N, .inl (upd f j x.toInt8.toInt32)))) Q) : V K bc bs M pc lc (.int x :: .int i :: .ref a :: st) G Q := by
  subst hi
  refine V_bast h ha (vp_in_nI hj hN) ?_
  rw [nI_clamp (by omega)]; exact kk
theorem V_zastJ {a N j : Nat} {f : Nat → Int32} {i x : Int32} (h : kf M pc = some (.bastore, n, t)) (ha : G.1 a = some (.inl (3, N, .inl f))) (hi : i = nI j) (hj : j < N) (hN : N < 2 ^ 31) (kk : V K bc bs M n lc st (hup G a (.inl (3, N, .inl (upd f j (x &&& 1))))) Q) : V K bc bs M pc lc (.int x :: .int i :: .ref a :: st) G Q := by
  subst hi
  refine V_zast h ha (vp_in_nI hj hN) ?_
  rw [nI_clamp (by omega)]; exact kk
theorem V_lastJ {a N j : Nat} {f : Nat → Int64} {i : Int32} {x : Int64} (h : kf M pc = some (.lastore, n, t)) (ha : G.1 a = some (.inl (2, N, .inr (.inl f)))) (hi : i = nI j) (hj : j < N) (hN : N < 2 ^ 31) (kk : V K bc bs M n lc st (hup G a (.inl (2, N, .inr (.inl (vp_updL f j x))))) Q) : V K bc bs M pc lc (.long x :: .int i :: .ref a :: st) G Q := by
  subst hi
  refine V_last h ha (vp_in_nI hj hN) ?_
  rw [nI_clamp (by omega)]; exact kk
end KJ
