/-! the start is clean -/
section LKw
variable {args : Array Value} {s : State}
theorem k_stX {tm : Term} {N : Nat} {f : Nat → Int32} (hN : N < 2 ^ 31) (harr : (Cond.arrayOf tm .int).before args s = true) (hlen : (Term.length tm).eval args s none [] s = some (.int (Int32.ofNat N))) (hel : ∀ j : Nat, j < N → (Term.elem tm (.int (Int32.ofNat j))).eval args s none [] s = some (.int (f j))) : ∃ t : Nat, tm.eval args s none [] s = some (.ref t) ∧ t < s.heap.size ∧ va_X t N f s s.heap := by
  obtain ⟨t, ht, cell, h1, h2, h3, h4, h5, h6, h7⟩ := va_Tof (f := fun j => .int (f j)) (A := fun q => s.heap.size ≤ q) hN harr hlen hel (fun a h => Nat.not_le.mpr h)
  have hsz : cell.slots.size < 2 ^ 31 := by
    obtain ⟨t', cell', ht', hat, hv⟩ := Term.length_spec hlen
    cases ht.symm.trans ht'
    obtain ⟨hc, -⟩ := State.arrayAt?_spec hat
    cases Option.some.inj (h1.symm.trans hc)
    have hl := hlen
    simp only [Term.eval, ht, hat, Option.bind_eq_bind, Option.bind_some] at hl
    by_cases hlt : cell.slots.size < 2147483648
    · exact hlt
    · simp [hlt] at hl
  have e : cell.slots.size = N := by
    have e1 : Int32.ofNat cell.slots.size = Int32.ofNat N := h5
    have e2 := congrArg Int32.toNatClampNeg e1
    rw [Int32.toNatClampNeg_ofNat_of_lt hsz, Int32.toNatClampNeg_ofNat_of_lt hN] at e2
    exact e2
  exact ⟨t, ht, (Array.getElem?_eq_some_iff.mp h1).1, cell, h1, h2, h3, e, h6⟩
theorem k_arr {ty : FieldType} (hty : ∀ C, ty ≠ .object C) (h : (Cond.arrayClass ty).before args s = true) : ∃ c, ArrOfT s c ty ∧ va_RA s c ty := by
  obtain ⟨c, k, comp, h1, h2, h3⟩ := Cond.arrayClass_spec h
  refine ⟨c, fun n z => ⟨fun k h => (by cases h), k, h2, comp, h3⟩, ?_⟩
  cases ty with
  | object C => exact absurd rfl (hty C)
  | _ => exact h1
theorem k_arrq {C : String} (h : (Cond.arrayOver (.object C)).before args s = true) : ∃ c, ArrOfT s c (.object C) ∧ va_RA s c (.object C) := by
  obtain ⟨comp, c, k, h1, -, h2, h3, h4⟩ := Cond.arrayOver_spec h
  exact ⟨c, fun n z => ⟨fun k h => (by cases h), k, h2, comp, h3⟩, k, comp, h2, h3, h1, h4⟩
def kSX0 (L : Nat) (xs : Nat → Int32) : Nat → Option (Nat × (Nat → Int32))
  | 0 => some (32, fun j => nI (nine j))
  | 1 => some (8, kT.1)
  | 2 => some (64, kT.2.1)
  | 3 => some (32, fun j => nI (kT.2.2 j))
  | 4 => some (L, xs)
  | _ => none
def k5 {α : Type} (a b c d e : α) : Nat → α
  | 0 => a
  | 1 => b
  | 2 => c
  | 3 => d
  | _ => e
theorem k_stat {X n : String} {N i0 ia il : Nat} {f : Nat → Int32} (hN : N < 2 ^ 31) (hs : ∀ c ∈ kFC, c.before args s = true) (he : ∀ j, j < N → kFC[i0 + j]? = some (Cond.eq (.elem (.static X n "[I") (.int (Int32.ofNat j))) (.int (f j)))) (ha : kFC[ia]? = some (Cond.arrayOf (.static X n "[I") .int)) (hl : kFC[il]? = some (Cond.eq (.length (.static X n "[I")) (.int (Int32.ofNat N)))) : ∃ t : Nat, (Term.static X n "[I").eval args s none [] s = some (.ref t) ∧ t < s.heap.size ∧ va_X t N f s s.heap :=
  k_stX hN (hs _ (List.mem_of_getElem? ha)) (va_eqt (hs _ (List.mem_of_getElem? hl))) (fun j hj => va_eqt (hs _ (List.mem_of_getElem? (he j hj))))
theorem k_start {l : Launch} {b L : Nat} {xs : Nat → Int32} (hst : l.stackTraces = false) (hts : ∀ w ∈ lw_tbl, w.before args s = true) (hs : ∀ c ∈ kFC, c.before args s = true) (hX : va_X b L xs s s.heap) (hb : b < s.heap.size) : ∃ K : kK, kl K = l ∧ kb K = s.heap.size ∧ kSX K = kSX0 L xs ∧ ksd K 4 = b ∧ kW K s := by
  have hkU : ∀ w ∈ kU, w.before args s = true := fun w hw => hts w (List.mem_filter.mp hw).1
  have hA : ∀ a : Nat, a < s.heap.size → ¬ s.heap.size ≤ a := fun a h => Nat.not_le.mpr h
  have hg : ∀ {i : Nat} {w : Cond}, lw_tbl[i]? = some w → w.before args s = true := fun h => hts _ (List.mem_of_getElem? h)
  obtain ⟨t0, v0, z0, x0⟩ := k_stat (by decide) hs fe_NINE fa_NINE fl_NINE
  obtain ⟨t1, v1, z1, x1⟩ := k_stat (by decide) hs fe_FIRST fa_FIRST fl_FIRST
  obtain ⟨t2, v2, z2, x2⟩ := k_stat (by decide) hs fe_ROUND fa_ROUND fl_ROUND
  obtain ⟨t3, v3, z3, x3⟩ := k_stat (by decide) hs fe_QUARTERS fa_QUARTERS fl_QUARTERS
  obtain ⟨cI, aI⟩ := k_arr (ty := .int) (by intro C h; cases h) (hkU _ ka_int)
  obtain ⟨cB, aB⟩ := k_arr (ty := .byte) (by intro C h; cases h) (hkU _ ka_byte)
  obtain ⟨cJ, aJ⟩ := k_arr (ty := .long) (by intro C h; cases h) (hkU _ ka_long)
  obtain ⟨cZ, aZ⟩ := k_arr (ty := .boolean) (by intro C h; cases h) (hkU _ ka_boolean)
  obtain ⟨cR, aR⟩ := k_arrq (hg f_over)
  have hD : ∀ c : Nat, ∃ q : ClassId × (Nat → Nat), ∀ r : vw_C, vwCl[c]? = some r → u_Kn s r.1 r.2.1 r.2.2 q.1 q.2 := by
    intro c
    cases h : vwCl[c]? with
    | none => exact ⟨(0, fun _ => 0), fun r h => nomatch h⟩
    | some r =>
      obtain ⟨C9, T9, N9⟩ := r
      obtain ⟨n, hn⟩ := f_inst c _ h
      obtain ⟨cC, iS, hk⟩ := u_known hkU (kcl_ok c C9 T9 N9 h).1 (hkU _ hn)
      exact ⟨(cC, iS), fun r hr => by cases hr; exact hk⟩
  refine ⟨(l, (fun c => (Classical.choose (hD c)).1, fun c => (Classical.choose (hD c)).2), s.heap.size, k5 t0 t1 t2 t3 b, k5 cI cB cJ cZ cR, kSX0 L xs), rfl, rfl, rfl, rfl, hst, ⟨fun c q hq => Classical.choose_spec (hD c) q hq, ?_⟩, ?_, ?_, ⟨?_, ?_⟩, Nat.le_refl _, ?_, ?_, ?_, ?_, ?_⟩
  · intro k q hq
    match k, hq with
    | 0, hq => cases hq; exact aI
    | 1, hq => cases hq; exact aB
    | 2, hq => cases hq; exact aJ
    | 3, hq => cases hq; exact aZ
    | 4, hq => cases hq; exact aR
    | k + 5, hq => cases hq
  · intro j L' xs' hj
    match j, hj with
    | 0, hj => cases hj; exact ⟨z0, x0⟩
    | 1, hj => cases hj; exact ⟨z1, x1⟩
    | 2, hj => cases hj; exact ⟨z2, x2⟩
    | 3, hj => cases hj; exact ⟨z3, x3⟩
    | 4, hj => cases hj; exact ⟨hb, hX⟩
    | j + 5, hj => cases hj
  · intro j C n d hj
    match j, hj with
    | 0, hj => cases hj; exact va_Zof (hg fs_NINE.1) (hg fs_NINE.2) v0 hA
    | 1, hj => cases hj; exact va_Zof (hg fs_FIRST.1) (hg fs_FIRST.2) v1 hA
    | 2, hj => cases hj; exact va_Zof (hg fs_ROUND.1) (hg fs_ROUND.2) v2 hA
    | 3, hj => cases hj; exact va_Zof (hg fs_QUARTERS.1) (hg fs_QUARTERS.2) v3 hA
    | j + 4, hj => cases hj
  · exact vx_Zqof (hg fs_UNASSIGNED_STACK.1) (hg fs_UNASSIGNED_STACK.2.1) (hs _ (List.mem_of_getElem? fs_UNASSIGNED_STACK.2.2)) hA
  · exact vx_Zqof (hg fs_SUPPRESSED_SENTINEL.1) (hg fs_SUPPRESSED_SENTINEL.2.1) (hs _ (List.mem_of_getElem? fs_SUPPRESSED_SENTINEL.2.2)) hA
  · exact fun q hq => va_Nw.of rfl (hts _ (f_nest q hq))
  · exact va_AO.of (hg f_over)
  · exact fun y hy => va_Nw.of rfl (hts _ (f_decl y hy))
  · exact fun E hE => va_Nw.of rfl (hts _ (f_self E hE))
  · exact fun E hE F hF hne => va_Nc.of (hs _ (f_cast E hE F hF hne))
end LKw
