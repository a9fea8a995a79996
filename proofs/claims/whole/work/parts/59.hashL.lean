section CHashL
variable {K : kK} {G : kG} {Q : kO → kG → Prop}
abbrev HSO : kE := .inr (3, [.ref 15, .ref 16, .ref 17])
/-- the hasher with a list of bytes added -/
def HM (G : kG) (l : List Nat) : Prop := G.1 14 = some HSO ∧ (∃ h, G.1 15 = some (IA 8 h)) ∧ (∃ w, G.1 16 = some (IA 64 w)) ∧ Rw G 17 18 640 l
theorem HM.fp {G' : kG} {l : List Nat} (h : HM G l) (e : ∀ j, 14 ≤ j → j ≤ 18 → G'.1 j = G.1 j) : HM G' l := by
  obtain ⟨h1, ⟨a, h2⟩, ⟨b, h3⟩, h4⟩ := h
  exact ⟨(e _ (by omega) (by omega)).trans h1, ⟨a, (e _ (by omega) (by omega)).trans h2⟩, ⟨b, (e _ (by omega) (by omega)).trans h3⟩, h4.fp (e _ (by omega) (by omega)) (e _ (by omega) (by omega))⟩
theorem HM.sr {l : List Nat} (h : HM G l) : hsr G := by
  obtain ⟨h1, h2, h3, h4⟩ := h
  obtain ⟨m, b, h5, h6⟩ := h4.ex
  exact ⟨h1, h2, h3, m, b, h5, h6⟩
theorem c_startL (h : hsr G) (hq : ∀ G', FP (fun j => j = 17) G G' → HM G' [] → Q (.inl none) G') : C K 0 0 mX3_start [.ref 14] G Q := by
  obtain ⟨h1, ⟨a, h2⟩, ⟨w, h3⟩, n, b, h4, h5⟩ := h
  refine c_hstart h1 h4 (hq _ (FP.rf.hup rfl) ⟨h1, ⟨a, h2⟩, ⟨w, h3⟩, hup_eq, Nat.zero_le _, b, h5, rfl, fun j hj => absurd hj (Nat.not_lt_zero j)⟩)
theorem c_addRowL {a N0 s c : Nat} {g : Nat → Nat} {l : List Nat} (h : HM G l) (ha : G.1 a = some (BA N0 g)) (hs : s + c ≤ N0) (hn : l.length + c ≤ 640) (hN0 : N0 < 2 ^ 20) (hg : ∀ j, j < c → g (s + j) < 256) (hq : ∀ G', FP (fun j => j = 17 ∨ j = 18) G G' → HM G' (l ++ lst (fun j => g (s + j)) c) → Q (.inl none) G') : C K 0 0 mX3_addRow [.ref 14, .ref a, .int (nI s), .int (nI c)] G Q := by
  obtain ⟨h1, ⟨x, h2⟩, ⟨w, h3⟩, r1, r2, b, r3, r4, r5⟩ := h
  have hl : (l ++ lst (fun j => g (s + j)) c).length = l.length + c := by rw [List.length_append, lst_len]
  refine c_haddRow h1 r1 r3 ha hs hn (by omega) (hq _ hup2_FP ⟨h1, ⟨x, h2⟩, ⟨w, h3⟩, ?_, ?_, va_cpy g b s l.length c, rfl, ?_, ?_⟩)
  · rw [hup_eq, hl]
  · rw [hl]; exact hn
  · rw [hl, lst_cpy, r4]
  · intro j hj
    rw [hl] at hj
    by_cases e : j < l.length
    · rw [pk_cpy_out (Or.inl e)]; exact r5 j e
    · rw [pk_cpy_in (by omega) (by omega)]
      exact hg _ (by omega)
/-- a segment of a row by its known bytes -/
def Sg (G : kG) (a s n : Nat) (f : Nat → Nat) : Prop := ∃ N b, G.1 a = some (BA N b) ∧ s + n ≤ N ∧ N < 2 ^ 20 ∧ (∀ j, j < n → b (s + j) = f j) ∧ ∀ j, j < n → f j < 256
theorem Sg.fp {G' : kG} {a s n : Nat} {f : Nat → Nat} (h : Sg G a s n f) (e : G'.1 a = G.1 a) : Sg G' a s n f := by
  obtain ⟨N, b, h1, h2⟩ := h
  exact ⟨N, b, e.trans h1, h2⟩
theorem Rb.sg {a N : Nat} {f : Nat → Nat} (h : Rb G a N f) (hN : N < 2 ^ 20) : Sg G a 0 N f := by
  obtain ⟨b, h1, h2, h3⟩ := h
  exact ⟨N, b, h1, by omega, hN, fun j hj => by rw [Nat.zero_add]; exact h2 j hj, h3⟩
theorem Rw.sg {r d N s n : Nat} {l : List Nat} (h : Rw G r d N l) (hN : N < 2 ^ 20) (hs : s + n ≤ l.length) : Sg G d s n (sft (gD l) s) := by
  obtain ⟨h1, h2, b, h3, h4, h5⟩ := h
  refine ⟨N, b, h3, by omega, hN, fun j hj => ?_, fun j hj => ?_⟩
  · unfold sft; rw [gD_of h4 (by omega)]
  · unfold sft; rw [gD_of h4 (by omega)]; exact h5 _ (by omega)
theorem c_addSg {a s c : Nat} {f : Nat → Nat} {l : List Nat} (h : HM G l) (ha : Sg G a s c f) (hn : l.length + c ≤ 640) (hq : ∀ G', FP (fun j => j = 17 ∨ j = 18) G G' → HM G' (l ++ lst f c) → Q (.inl none) G') : C K 0 0 mX3_addRow [.ref 14, .ref a, .int (nI s), .int (nI c)] G Q := by
  obtain ⟨N, b, h1, h2, h3, h4, h5⟩ := ha
  refine c_addRowL h h1 h2 hn h3 (fun j hj => by rw [h4 j hj]; exact h5 j hj) (fun G' k1 k2 => hq G' k1 ?_)
  rw [lst_congr (g := f) h4] at k2
  exact k2
theorem c_putSg {r d N a s c : Nat} {f : Nat → Nat} {l : List Nat} (h : Rw G r d N l) (ha : Sg G a s c f) (hn : l.length + c ≤ N) (hN : N < 2 ^ 20) (hq : ∀ G', FP (fun j => j = r ∨ j = d) G G' → Rw G' r d N (l ++ lst f c) → Q (.inl none) G') : C K 0 0 mX6_putAll [.ref r, .ref a, .int (nI s), .int (nI c)] G Q := by
  obtain ⟨N0, b, h1, h2, h3, h4, h5⟩ := ha
  refine c_putAllL h h1 h2 hn hN h3 (fun j hj => by rw [h4 j hj]; exact h5 j hj) (fun G' k1 k2 => hq G' k1 ?_)
  rw [lst_congr (g := f) h4] at k2
  exact k2
theorem c_addL {x : Nat} {l : List Nat} (h : HM G l) (hx : x < 256) (hn : l.length < 640) (hq : ∀ G', FP (fun j => j = 17 ∨ j = 18) G G' → HM G' (l ++ [x]) → Q (.inl none) G') : C K 0 0 mX3_add [.ref 14, .int (nI x)] G Q := by
  obtain ⟨h1, ⟨y, h2⟩, ⟨w, h3⟩, r1, r2, b, r3, r4, r5⟩ := h
  have hl : (l ++ [x]).length = l.length + 1 := by simp
  refine c_hadd h1 r1 r3 hn (hq _ hup2_FP ⟨h1, ⟨y, h2⟩, ⟨w, h3⟩, ?_, ?_, updN b l.length x, rfl, ?_, ?_⟩)
  · rw [hup_eq, hl]
  · rw [hl]; exact hn
  · rw [hl, lst_upd, r4]
  · intro j hj
    rw [hl] at hj
    by_cases e : j = l.length
    · rw [e, updN_eq]; exact hx
    · rw [updN_ne e]; exact r5 j (by omega)
theorem c_finishL {res Nr : Nat} {o : Nat → Nat} {l : List Nat} {T : TB} (hT : tbl K T) (h : HM G l) (hn : l.length ≤ 631) (hr : G.1 res = some (BA Nr o)) (hres : 18 < res) (hNr : 32 ≤ Nr ∧ Nr < 2 ^ 20) (hq : ∀ G', FP (fun j => (15 ≤ j ∧ j ≤ 18) ∨ j = res) G G' → hsr G' → G'.1 res = some (BA Nr (fun j => if j < 32 then hL T l j else o j)) → Q (.inl none) G') : C K 0 0 mX3_finish [.ref 14, .ref res] G Q := by
  obtain ⟨h1, ⟨y, h2⟩, ⟨w, h3⟩, r1, r2, b, r3, r4, r5⟩ := h
  refine c_hfinish hT.2.1 hT.2.2.1 h1 h2 h3 r1 r3 hn r5 hr (Or.inr hres) hNr (fun G' k1 k2 k3 => hq G' (k1.P (by intro x hx; simp at hx; omega)) k2 ?_)
  rw [r4] at k3
  exact k3
theorem c_finishRb {res : Nat} {o : Nat → Nat} {l : List Nat} {T : TB} (hT : tbl K T) (h : HM G l) (hn : l.length ≤ 631) (hr : G.1 res = some (BA 32 o)) (hres : 18 < res) (hq : ∀ G', FP (fun j => (15 ≤ j ∧ j ≤ 18) ∨ j = res) G G' → hsr G' → Rb G' res 32 (hL T l) → Q (.inl none) G') : C K 0 0 mX3_finish [.ref 14, .ref res] G Q :=
  c_finishL hT h hn hr hres (by decide) (fun G' k1 k2 k3 => hq G' k1 k2 ⟨_, k3, fun j hj => if_pos hj, fun j _ => HSH_lt _ _ _ j⟩)
theorem c_timesSg {k0 a0 s res : Nat} {k u o : Nat → Nat} (hc : crv G) (hk : Sg G k0 0 32 k) (ha : Sg G a0 s 32 u) (hr : G.1 res = some (BA 32 o)) (h13 : 13 < k0 ∧ 13 < a0 ∧ 13 < res) (hq : ∀ G', FP (fun j => (2 ≤ j ∧ j ≤ 13) ∨ j = res) G G' → crv G' → Rb G' res 32 (mulB k u) → Q (.inl none) G') : C K 0 0 mX0_times [.ref 1, .ref k0, .ref a0, .int (nI s), .ref res] G Q := by
  obtain ⟨Nk, k9, k1, k2, k3, k4, k5⟩ := hk
  obtain ⟨N, u9, u1, u2, u3, u4, u5⟩ := ha
  have k4' : ∀ j, j < 32 → k9 j = k j := fun j hj => by rw [← k4 j hj, Nat.zero_add]
  refine c_times hc k1 (by omega) h13.1 (fun j hj => by rw [k4' j hj]; exact k5 j hj) u1 u2 u3 (fun j hj => by rw [u4 j hj]; exact u5 j hj) h13.2.1 hr h13.2.2 (by decide) (fun G' q1 q2 q3 => hq G' (q1.P (by intro x hx; simp at hx; omega)) q2 ⟨_, q3, fun j hj => ?_, fun j _ => mulB_lt _ _ j⟩)
  rw [if_pos hj]
  show MULT _ _ / _ % _ = MULT _ _ / _ % _
  rw [MULT_congr k4' u4]
theorem c_timesN {k0 res : Nat} {k o : Nat → Nat} {T : TB} (hT : tbl K T) (hc : crv G) (hk : Sg G k0 0 32 k) (hr : G.1 res = some (BA 32 o)) (h13 : 13 < k0 ∧ 13 < res) (hq : ∀ G', FP (fun j => (2 ≤ j ∧ j ≤ 13) ∨ j = res) G G' → crv G' → Rb G' res 32 (mulB k nine) → Q (.inl none) G') : C K 0 0 mX0_times [.ref 1, .ref k0, .ref 1000000, .int (nI 0), .ref res] G Q := by
  obtain ⟨Nk, k9, k1, k2', k3, k4, k5⟩ := hk
  have k2 : ∀ j, j < 32 → k9 j = k j := fun j hj => by rw [← k4 j hj, Nat.zero_add]
  refine c_timesS (q0 := 0) (s := 0) hc k1 (by omega) h13.1 (fun j hj => by rw [k2 j hj]; exact k5 j hj) hT.1 (by decide) (by decide) (fun j hj => by unfold nine; split <;> decide) hr h13.2 (by decide) (fun G' q1 q2 q3 => hq G' (q1.P (by intro x hx; simp at hx; omega)) q2 ⟨_, q3, fun j hj => ?_, fun j _ => mulB_lt _ _ j⟩)
  rw [if_pos hj]
  show MULT _ _ / _ % _ = MULT _ _ / _ % _
  rw [MULT_congr k2 (fun j hj => by rw [Nat.zero_add])]
end CHashL
