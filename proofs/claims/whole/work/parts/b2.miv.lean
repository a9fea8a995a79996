/-! what every call keeps: the invariant of the reference -/
section MIv
variable {T : TB} {S S' : SG}
def flw (S S' : SG) : Prop := ∀ j, (∀ i, i ≠ 0 → fl (S'.1 j) i = fl (S.1 j) i) ∧ (fl (S'.1 j) 0 = true → fl (S.1 j) 0 = true)
theorem flw.rf : flw S S := fun _ => ⟨fun _ _ => rfl, fun h => h⟩
theorem flw.tr {S2 : SG} (h : flw S S') (h2 : flw S' S2) : flw S S2 := fun j => ⟨fun i hi => ((h2 j).1 i hi).trans ((h j).1 i hi), fun q => (h j).2 ((h2 j).2 q)⟩
theorem flw.x_sE {e : Nat} {s : ES} (h1 : ∀ i, i ≠ 0 → fl s i = fl (S.1 e) i) (h2 : fl s 0 = true → fl (S.1 e) 0 = true) : flw S (sE S e s) := fun j => by
  by_cases z : j = e
  · subst z; rw [sE_e (S := S) (e := j) (s := s)]; exact ⟨h1, h2⟩
  · rw [sE_n (S := S) (e := e) (s := s) z]; exact ⟨fun _ _ => rfl, fun h => h⟩
theorem flw.sf {e : Nat} : flw S (sE S e (sfl (S.1 e) 0 false)) := flw.x_sE (fun i hi => (up_ne hi : up (S.1 e).1 0 false i = _)) (fun h => by rw [show fl (sfl (S.1 e) 0 false) 0 = false from (up_eq : up (S.1 e).1 0 false 0 = false)] at h; cases h)
theorem flw.x_emt {e : Nat} {p : List Nat} : flw S (emt T S e p) := by
  unfold emt
  split
  · exact flw.rf
  split
  · exact flw.sf
  · generalize wi (S.1 (1 - e)) ++ _ = l
    have h1 : flw S (sE S (1 - e) (swi (S.1 (1 - e)) l)) := flw.x_sE (fun _ _ => rfl) (fun h => h)
    have h2 : fl ((sE S (1 - e) (swi (S.1 (1 - e)) l)).1 e) = fl (S.1 e) := sE_fl (S := S) (e := 1 - e) (s := swi (S.1 (1 - e)) l) rfl e
    exact h1.tr (flw.x_sE (fun i _ => by rw [h2]; rfl) (fun h => by rw [h2]; exact h))
theorem flw.x_gvu {e : Nat} : flw S (gvu T S e) := by
  unfold gvu
  exact flw.tr flw.x_emt flw.sf
theorem gvu_f0 {e : Nat} : fl ((gvu T S e).1 e) 0 = false := by
  unfold gvu
  rw [sE_e]
  exact (up_eq : up ((emt T S e [1]).1 e).1 0 false 0 = false)
theorem ivE.w (h : ivE S) (hw : flw S S') : ivE S' := by
  refine ⟨fun e he q => ?_, fun q => ?_⟩
  · rw [(hw e).1 3 (by decide)] at q
    rw [(hw e).1 2 (by decide)]
    exact h.1 e he q
  · rw [(hw 0).1 8 (by decide), (hw 0).1 5 (by decide)]
    exact h.2 ((hw 0).2 q)
theorem ivE.s {e : Nat} {s : ES} (h : ivE S) (h1 : fl s 3 = true → fl s 2 = true) (h2 : e = 0 → fl s 0 = true → fl s 8 = fl s 5) : ivE (sE S e s) := by
  refine ⟨fun k hk q => ?_, fun q => ?_⟩
  · by_cases z : k = e
    · subst z; rw [sE_e] at q ⊢; exact h1 q
    · rw [sE_n z] at q ⊢; exact h.1 k hk q
  · by_cases z : 0 = e
    · subst z; rw [sE_e] at q ⊢; exact h2 rfl q
    · rw [sE_n z] at q ⊢; exact h.2 q
theorem ivE.x_emt {e : Nat} {p : List Nat} (h : ivE S) : ivE (emt T S e p) := h.w flw.x_emt
theorem ivE.x_gvu {e : Nat} (h : ivE S) : ivE (gvu T S e) := h.w flw.x_gvu
theorem ivE.at8 {e : Nat} (h : ivE S) (z : e = 0) : fl (S.1 e) 0 = true → fl (S.1 e) 8 = fl (S.1 e) 5 := by
  subst z; exact h.2
theorem ivE.x_bgn {e : Nat} (h : ivE S) : ivE (bgn T S e) := by
  unfold bgn wIn
  exact ivE.x_emt (h.s (fun _ => rfl) (fun z => h.at8 z))
theorem ivE.x_tks {e : Nat} (h : ivE S) : ivE (tks S e) := h.w (flw.x_sE (fun _ _ => rfl) (fun h => h))
theorem ivE.x_onI {e : Nat} {c : List Nat} (h : ivE S) (he : e < 2) : ivE (onI T S e c) := by
  have h2 : ivE (if fl ((sE S e (sfl (srw (S.1 e) 5 (gD c)) 3 true)).1 e) 2 = true then sE S e (sfl (srw (S.1 e) 5 (gD c)) 3 true) else bgn T (sE S e (sfl (srw (S.1 e) 5 (gD c)) 3 true)) e) := by
    split
    · next q =>
      rw [sE_e] at q
      exact h.s (fun _ => q) (fun z => h.at8 z)
    · unfold bgn wIn
      rw [sE_e, sE_sE]
      exact ivE.x_emt (h.s (fun _ => rfl) (fun z => h.at8 z))
  unfold onI
  simp only
  split
  · refine ivE.x_emt ?_
    have h4 := h2.x_tks (e := 0)
    exact h4.s (h4.1 0 (by decide)) (fun _ => h4.2)
  · exact h2
theorem sfl_ne {s : ES} {k i : Nat} {b : Bool} (h : i ≠ k) : fl (sfl s k b) i = fl s i := (up_ne h : up s.1 k b i = s.1 i)
theorem sfl_eq {s : ES} {k : Nat} {b : Bool} : fl (sfl s k b) k = b := (up_eq : up s.1 k b k = b)
theorem srw_fl {s : ES} {k : Nat} {r : Nat → Nat} : fl (srw s k r) = fl s := rfl
theorem tnk_fl {s : ES} {sh H : Nat → Nat} {sm cm i : Nat} (h6 : i ≠ 6) (h5 : i ≠ 5) (h1 : i ≠ 1) : fl (tnk T s sh H sm cm) i = fl s i := by
  unfold tnk
  simp only
  rw [sfl_ne h6, sfl_ne h5, srw_fl, srw_fl, srw_fl, srw_fl]
  split
  · rfl
  · rw [sfl_ne h1, srw_fl]
theorem tnk_f5 {s : ES} {sh H : Nat → Nat} {sm cm : Nat} : fl (tnk T s sh H sm cm) 5 = true := by
  unfold tnk
  simp only
  rw [sfl_ne (by decide), sfl_eq]
theorem ivE.x_onR {c : List Nat} (h : ivE S) : ivE (onR T S c) := by
  have h1 : ivE (sE S 1 (sfl (S.1 1) 4 true)) := h.s (h.1 1 (by decide)) (fun z => absurd z (by decide))
  have h3 : ∀ p : List Nat, ivE (emt T (emt T (tks (sE S 1 (sfl (S.1 1) 4 true)) 1) 1 p) 1 [21]) := fun p => h1.x_tks.x_emt.x_emt
  unfold onR
  simp only
  refine (h3 _).s (fun q => ?_) (fun z => absurd z (by decide))
  rw [tnk_fl (by decide) (by decide) (by decide)] at q ⊢
  exact (h3 _).1 1 (by decide) q
theorem ivE.x_aRp {c : List Nat} (h : ivE S) : ivE (aRp T S c) := by
  have h8 : fl ((sE S 0 (sfl (S.1 0) 8 true)).1 0) 8 = true := by rw [sE_e]; exact (up_eq : up (S.1 0).1 8 true 8 = true)
  have h3 : ∀ e, e < 2 → fl ((sE S 0 (sfl (S.1 0) 8 true)).1 e) 3 = true → fl ((sE S 0 (sfl (S.1 0) 8 true)).1 e) 2 = true := fun e he q => by
    by_cases z : e = 0
    · subst z; rw [sE_e] at q ⊢; exact h.1 0 he q
    · rw [sE_n z] at q ⊢; exact h.1 e he q
  unfold aRp
  simp only
  split
  · have hw := flw.x_emt (T := T) (S := sE S 0 (sfl (S.1 0) 8 true)) (e := 0) (p := [21])
    refine ⟨fun e he q => ?_, fun q => ?_⟩
    · by_cases z : e = 0
      · subst z
        rw [sE_e, tnk_fl (by decide) (by decide) (by decide)] at q ⊢
        rw [(hw 0).1 3 (by decide)] at q
        rw [(hw 0).1 2 (by decide)]
        exact h3 0 he q
      · rw [sE_n z] at q ⊢
        rw [(hw e).1 3 (by decide)] at q
        rw [(hw e).1 2 (by decide)]
        exact h3 e he q
    · rw [sE_e, tnk_fl (by decide) (by decide) (by decide), tnk_f5, (hw 0).1 8 (by decide)]
      exact h8
  · have hw := flw.x_gvu (T := T) (S := sE S 0 (sfl (S.1 0) 8 true)) (e := 0)
    refine ⟨fun e he q => ?_, fun q => ?_⟩
    · rw [(hw e).1 3 (by decide)] at q
      rw [(hw e).1 2 (by decide)]
      exact h3 e he q
    · rw [gvu_f0] at q; cases q
theorem ivE.x_act {e q : Nat} {c : List Nat} (h : ivE S) (he : e < 2) : ivE (act T S e c q) := by
  unfold act
  split
  · exact h.w flw.sf
  split
  · exact h
  split
  · exact h.w (flw.x_sE (fun _ _ => rfl) (fun h => h))
  split
  · exact h.x_onI he
  split
  · exact h.s (fun q => by cases q) (fun _ _ => rfl)
  split
  · exact h.x_onR
  split
  · exact h.x_aRp
  split
  · exact h.w (flw.x_sE (fun _ _ => rfl) (fun h => h))
  · exact h.x_emt
theorem ivE.x_dlv {e : Nat} (h : ivE S) (he : e < 2) : ivE (dlv T S e).2 := by
  unfold dlv
  split
  · exact h
  split
  · exact h.w (flw.x_sE (fun _ _ => rfl) (fun h => h))
  have h1 : ivE (sE S e (snm (swi (S.1 e) ((wi (S.1 e)).drop 1)) 1 (nm (S.1 e) 1 + 1))) := h.w (flw.x_sE (fun _ _ => rfl) (fun h => h))
  generalize opn T _ _ _ _ _ = O
  generalize sE S e _ = S2 at h1
  cases O with
  | none => exact h1.x_gvu
  | some p =>
    show ivE (if _ then _ else _ : Int32 × SG).2
    split
    · exact h1.x_act he
    · exact h1.x_gvu
theorem ivE.x_rnA {n : Nat} : ∀ (k : Nat) {S : SG} {e m : Nat}, e < 2 → ivE S → ivE (rnA T k n e m S).2
  | 0, S, e, m, he, h => h
  | k + 1, S, e, m, he, h => by
    unfold rnA
    split
    · split
      · exact ivE.x_rnA k (by omega) h
      · exact ivE.x_rnA k (by omega) (h.x_dlv he)
    · exact h
theorem ivE.f1 (h : ivE S) (q : ∀ j, fl (S'.1 j) = fl (S.1 j)) : ivE S' := h.w (fun j => by rw [q j]; exact ⟨fun _ _ => rfl, fun h => h⟩)
theorem bnd.f1 {B : Nat} (h : bnd S B) (q : ∀ j, nm (S'.1 j) = nm (S.1 j)) : bnd S' B := fun k hk i hi => by rw [q k]; exact h k hk i hi
end MIv
