/-! the reference sends -/
section MPost1
variable {K : kK} {G : kG} {Q : kO → kG → Prop} {T : TB} {S : SG} {th ta os hs ps rs : Int32}
theorem c_mzeros {n : Nat} {b : Bool} (hn : n < 2 ^ 20) (hq : Q (.inl (some (.int (nI (zb n b))))) G) : C K 0 0 mX12_zerosOf [.int (nI n), .int (bI b)] G Q := by
  obtain ⟨d, hd⟩ : ∃ d, d = (8 - (1 + n + 4 + (if b then 0 else 4)) % 8) % 8 := ⟨_, rfl⟩
  have hz : zb n b = 4 + d := by unfold zb; rw [hd]
  rw [hz] at hq
  refine C_of okX12_zerosOf (Nat.le_of_ble_eq_true rfl) ?_
  refine V_iconst (v := nI 4) rfl (by decide) ?_
  refine V_istore_n rfl (by decide) ?_
  have hd8 : d < 8 := by rw [hd]; exact Nat.mod_lt _ (by decide)
  have LP := V_loop (K := K) (bc := 0) (bs := 0) (M := mX12_zerosOf) (head := 2) (Q := Q) d (fun i lc G' => lc 0 = some (.int (nI n)) ∧ lc 1 = some (.int (bI b)) ∧ lc 2 = some (.int (nI (4 + i))) ∧ G' = G) ?_ ?_
  · exact LP 0 _ _ (Nat.zero_le _) ⟨rfl, rfl, rfl, rfl⟩
  · rintro i lc G' hi ⟨l0, l1, l2, rfl⟩ ih
    cases b with
    | true =>
      rw [if_pos rfl] at hd
      refine V_iload_n rfl (by assumption) ?_
      refine V_if_eqB rfl (fun h => Bool.noConfusion h) (fun _ => ?_)
      refine V_iconst (v := nI 1) rfl (by decide) ?_
      refine V_iload_n rfl (by first | rfl | assumption) ?_
      refine V_iaddN rfl ?_
      refine V_iload_n rfl (by first | rfl | assumption) ?_
      refine V_iaddN rfl ?_
      refine V_goto rfl ?_
      refine V_bipush (v := nI 8) rfl (by decide) ?_
      refine V_iremN rfl (by first | omega | decide) (by first | omega | decide) (by first | omega | decide) ?_
      refine V_if_eqN rfl (by omega) (fun h => absurd h (by omega)) (fun _ => ?_)
      refine V_iincN (d := 1) rfl (by first | rfl | assumption) (by decide) (by decide) ?_
      refine V_goto rfl ?_
      exact ih _ _ ⟨l0, l1, rfl, rfl⟩
    | false =>
      rw [if_neg (by decide)] at hd
      refine V_iload_n rfl (by assumption) ?_
      refine V_if_eqB rfl (fun _ => ?_) (fun h => Bool.noConfusion h)
      refine V_iconst (v := nI 5) rfl (by decide) ?_
      refine V_iload_n rfl (by first | rfl | assumption) ?_
      refine V_iaddN rfl ?_
      refine V_iload_n rfl (by first | rfl | assumption) ?_
      refine V_iaddN rfl ?_
      refine V_bipush (v := nI 8) rfl (by decide) ?_
      refine V_iremN rfl (by first | omega | decide) (by first | omega | decide) (by first | omega | decide) ?_
      refine V_if_eqN rfl (by omega) (fun h => absurd h (by omega)) (fun _ => ?_)
      refine V_iincN (d := 1) rfl (by first | rfl | assumption) (by decide) (by decide) ?_
      refine V_goto rfl ?_
      exact ih _ _ ⟨l0, l1, rfl, rfl⟩
  · rintro lc G' ⟨l0, l1, l2, rfl⟩
    cases b with
    | true =>
      rw [if_pos rfl] at hd
      refine V_iload_n rfl (by assumption) ?_
      refine V_if_eqB rfl (fun h => Bool.noConfusion h) (fun _ => ?_)
      refine V_iconst (v := nI 1) rfl (by decide) ?_
      refine V_iload_n rfl (by first | rfl | assumption) ?_
      refine V_iaddN rfl ?_
      refine V_iload_n rfl (by first | rfl | assumption) ?_
      refine V_iaddN rfl ?_
      refine V_goto rfl ?_
      refine V_bipush (v := nI 8) rfl (by decide) ?_
      refine V_iremN rfl (by first | omega | decide) (by first | omega | decide) (by first | omega | decide) ?_
      refine V_if_eqN rfl (by omega) (fun _ => ?_) (fun h => absurd (by omega) h)
      refine V_iload_n rfl (by first | rfl | assumption) ?_
      exact V_iret rfl rfl hq
    | false =>
      rw [if_neg (by decide)] at hd
      refine V_iload_n rfl (by assumption) ?_
      refine V_if_eqB rfl (fun _ => ?_) (fun h => Bool.noConfusion h)
      refine V_iconst (v := nI 5) rfl (by decide) ?_
      refine V_iload_n rfl (by first | rfl | assumption) ?_
      refine V_iaddN rfl ?_
      refine V_iload_n rfl (by first | rfl | assumption) ?_
      refine V_iaddN rfl ?_
      refine V_bipush (v := nI 8) rfl (by decide) ?_
      refine V_iremN rfl (by first | omega | decide) (by first | omega | decide) (by first | omega | decide) ?_
      refine V_if_eqN rfl (by omega) (fun _ => ?_) (fun h => absurd (by omega) h)
      refine V_iload_n rfl (by first | rfl | assumption) ?_
      exact V_iret rfl rfl hq
/-- the payload that is written -/
def plM (p : List Nat) (G : kG) : Prop := ∃ b, G.1 179 = some (YA 240 b) ∧ (∀ j, b j < 256) ∧ lst b p.length = p
theorem plM.fp {p : List Nat} {G' : kG} (h : plM p G) (e : G'.1 179 = G.1 179) : plM p G' := by obtain ⟨f, a, b⟩ := h; exact ⟨f, e.trans a, b⟩
theorem plM.nl (h : yM 179 240 G) : plM [] G := by obtain ⟨f, a, b⟩ := h; exact ⟨f, a, b, rfl⟩
theorem plM.y {p : List Nat} (h : plM p G) : yM 179 240 G := by obtain ⟨f, a, b, _⟩ := h; exact ⟨f, a, b⟩
abbrev PP2 (j : Nat) : Prop := j = 140 ∨ j = 179
theorem c_msay {x : Int32} {p : List Nat} (g140 : G.1 140 = some (MO th ta os hs (nI p.length) rs)) (hp : plM p G) (hn : p.length < 240)
    (hq : ∀ G', FP PP2 G G' → G'.1 140 = some (MO th ta os hs (nI (p ++ [lw x]).length) rs) → plM (p ++ [lw x]) G' → Q (.inl none) G') : C K 0 0 mX12_say [.ref 140, .int x] G Q := by
  obtain ⟨b, g179, hb, hl⟩ := hp
  refine C_of okX12_say (Nat.le_of_ble_eq_true rfl) ?_
  refine V_aload_n rfl (by first | rfl | assumption) ?_
  refine V_getf rfl rfl rfl (by repeat (first | exact hup_eq | assumption | refine Eq.trans (hup_ne (by first | assumption | exact Ne.symm (by assumption) | decide | omega)) ?_)) (by first | rfl | assumption) ?_
  refine V_aload_n rfl (by first | rfl | assumption) ?_
  refine V_getf rfl rfl rfl (by repeat (first | exact hup_eq | assumption | refine Eq.trans (hup_ne (by first | assumption | exact Ne.symm (by assumption) | decide | omega)) ?_)) (by first | rfl | assumption) ?_
  refine V_iload_n rfl (by first | rfl | assumption) ?_
  refine V_i2b rfl ?_
  refine V_bastM rfl (by repeat (first | exact hup_eq | assumption | refine Eq.trans (hup_ne (by first | assumption | exact Ne.symm (by assumption) | decide | omega)) ?_)) rfl (by first | omega | decide) (by first | omega | decide) ?_
  refine V_aload_n rfl (by first | rfl | assumption) ?_
  refine V_dup rfl rfl ?_
  refine V_getf rfl rfl rfl (by repeat (first | exact hup_eq | assumption | refine Eq.trans (hup_ne (by first | assumption | exact Ne.symm (by assumption) | decide | omega)) ?_)) (by first | rfl | assumption) ?_
  refine V_iconst (v := nI 1) rfl (by decide) ?_
  refine V_iaddN rfl ?_
  refine V_pf_ps rfl rfl rfl (by repeat (first | exact hup_eq | assumption | refine Eq.trans (hup_ne (by first | assumption | exact Ne.symm (by assumption) | decide | omega)) ?_)) ?_
  rw [lw_8]
  refine V_vret rfl rfl (hq _ ((FP.rf.hup (by decide)).hup (by decide)) ?_ ⟨updN b p.length (lw x), (hup_ne (by decide)).trans hup_eq, fun j => ?_, ?_⟩)
  · rw [hup_eq, List.length_append]; rfl
  · by_cases e : j = p.length
    · rw [e, updN_eq]; exact lw_lt x
    · rw [updN_ne e]; exact hb j
  · rw [List.length_append, List.length_singleton, lst_upd, hl]
theorem c_msayRow {a N s c : Nat} {f : Nat → Nat} {p : List Nat} (g140 : G.1 140 = some (MO th ta os hs (nI p.length) rs)) (hp : plM p G) (ga : G.1 a = some (YA N f)) (ha : a ≠ 179 ∧ a ≠ 140) (hs9 : s + c ≤ N) (hN : N < 2 ^ 20) (hf : ∀ j, f j < 256) (hn : p.length + c ≤ 240)
    (hq : ∀ G', FP PP2 G G' → G'.1 140 = some (MO th ta os hs (nI (p ++ lst (sft f s) c).length) rs) → plM (p ++ lst (sft f s) c) G' → Q (.inl none) G') : C K 0 0 mX12_sayRow [.ref 140, .ref a, .int (nI s), .int (nI c)] G Q := by
  refine C_of okX12_sayRow (Nat.le_of_ble_eq_true rfl) ?_
  refine V_iconst (v := nI 0) rfl (by decide) ?_
  refine V_istore rfl (by decide) ?_
  have LP := V_loop (K := K) (bc := 0) (bs := 0) (M := mX12_sayRow) (head := 3) (Q := Q) c (fun i lc G' => lc 0 = some (.ref 140) ∧ lc 1 = some (.ref a) ∧ lc 2 = some (.int (nI s)) ∧ lc 3 = some (.int (nI c)) ∧ lc 4 = some (.int (nI i)) ∧ FP PP2 G G' ∧ G'.1 140 = some (MO th ta os hs (nI (p ++ lst (sft f s) i).length) rs) ∧ plM (p ++ lst (sft f s) i) G') ?_ ?_
  · refine LP 0 _ _ (Nat.zero_le _) ⟨rfl, rfl, rfl, rfl, rfl, FP.rf, ?_, ?_⟩
    · rw [lst_0, List.append_nil]; exact g140
    · rw [lst_0, List.append_nil]; exact hp
  · rintro i lc G' hi ⟨l0, l1, l2, l3, l4, F, k140, kp⟩ ih
    have ka := F.get (j := a) (by rintro (q | q) <;> omega) ga
    refine V_iload rfl (by first | rfl | assumption) ?_
    refine V_iload_n rfl (by first | rfl | assumption) ?_
    refine V_icmp_geN rfl (by omega) (by omega) (fun h => absurd h (by omega)) (fun _ => ?_)
    refine V_aload_n rfl (by first | rfl | assumption) ?_
    refine V_aload_n rfl (by first | rfl | assumption) ?_
    refine V_iload_n rfl (by first | rfl | assumption) ?_
    refine V_iload rfl (by first | rfl | assumption) ?_
    refine V_iaddN rfl ?_
    refine V_baldB rfl (by repeat (first | exact hup_eq | assumption | refine Eq.trans (hup_ne (by first | assumption | exact Ne.symm (by assumption) | decide | omega)) ?_)) rfl (by first | omega | decide) (by first | omega | decide) ?_
    refine V_callV (M' := mX12_say) (mc := 0) (ms := 0) (bc' := 0) (bs' := 0) rfl cw_X12_307 iv_X12_say (by repeat (first | exact hup_eq | assumption | refine Eq.trans (hup_ne (by first | assumption | exact Ne.symm (by assumption) | decide | omega)) ?_)) rfl rfl (Nat.le_of_ble_eq_true rfl) ⟨Nat.le_of_ble_eq_true rfl, Nat.le_of_ble_eq_true rfl⟩ ⟨Nat.le_of_ble_eq_true rfl, Nat.le_of_ble_eq_true rfl⟩ (As := [.int (bB (f (s + i)))]) (c_msay (Q := fun o G2 => o = .inl none ∧ FP PP2 G' G2 ∧ G2.1 140 = some (MO th ta os hs (nI (p ++ lst (sft f s) (i + 1)).length) rs) ∧ plM (p ++ lst (sft f s) (i + 1)) G2) k140 kp (by rw [List.length_append, lst_len]; omega) (fun G2 h1 h2 h3 => ?_)) (fun o G2 h => ?_) (fun E G' h => by cases h.1)
    · have e : p ++ lst (sft f s) i ++ [lw (bB (f (s + i)))] = p ++ lst (sft f s) (i + 1) := by
        rw [lw_B, Nat.mod_eq_of_lt (hf _), lst_s, List.append_assoc]; rfl
      rw [e] at h2 h3
      exact ⟨rfl, h1, h2, h3⟩
    obtain ⟨h, F2, j140, jp⟩ := h
    cases h
    refine V_iincN (d := 1) rfl (by first | rfl | assumption) (by decide) (by decide) ?_
    refine V_goto rfl ?_
    exact ih _ _ ⟨l0, l1, l2, l3, rfl, F.trans F2 (fun _ q => q), j140, jp⟩
  · rintro lc G' ⟨l0, l1, l2, l3, l4, F, k140, kp⟩
    refine V_iload rfl (by first | rfl | assumption) ?_
    refine V_iload_n rfl (by first | rfl | assumption) ?_
    refine V_icmp_geN rfl (by omega) (by omega) (fun _ => ?_) (fun h => absurd (Nat.le_refl _) h)
    exact V_vret rfl rfl (hq _ F k140 kp)
def pnF (p : List Nat) (z k : Nat) : Nat := if k < 4 then (1 + p.length + z) / 2 ^ (24 - 8 * k) % 2 ^ 8 else if k = 4 then z else if k < 5 + p.length then gD p (k - 5) else 0
theorem be4_lst (m : Nat) : be4 m = lst (fun k => m / 2 ^ (24 - 8 * k) % 2 ^ 8) 4 := by
  unfold be4 lst
  simp [List.range_succ]
theorem rep_lst (z : Nat) : List.replicate z 0 = lst (fun _ => 0) z := by
  unfold lst
  induction z with
  | zero => rfl
  | succ z ih => rw [List.range_succ, List.map_append, ← ih, List.replicate_succ']; rfl
theorem pln_lst (p : List Nat) (made : Bool) : pln p made = lst (pnF p (zb p.length made)) (5 + p.length + zb p.length made) := by
  unfold pln
  generalize zb p.length made = z
  have e1 : lst (fun k => (1 + p.length + z) / 2 ^ (24 - 8 * k) % 2 ^ 8) 4 = lst (pnF p z) 4 := lst_congr (fun j hj => by unfold pnF; rw [if_pos hj])
  have e2 : [z] = lst (fun j => pnF p z (4 + j)) 1 := rfl
  have e3 : lst (gD p) p.length = lst (fun j => pnF p z (4 + 1 + j)) p.length := lst_congr (fun j hj => by
    unfold pnF
    rw [if_neg (by omega), if_neg (by omega), if_pos (by omega)]
    congr 1
    omega)
  have e4 : lst (fun _ => 0) z = lst (fun j => pnF p z (4 + 1 + p.length + j)) z := lst_congr (fun j hj => by
    unfold pnF
    rw [if_neg (by omega), if_neg (by omega), if_neg (by omega)])
  rw [show 5 + p.length + z = 4 + 1 + p.length + z by omega, lst_app, lst_app, lst_app, be4_lst, rep_lst, ← e1, ← e2, ← e3, ← e4, lst_gD]
theorem pnF_lt {p : List Nat} {z k : Nat} (hz : z < 256) (hp : ∀ j, j < p.length → gD p j < 256) : pnF p z k < 256 := by
  unfold pnF
  split
  · exact Nat.mod_lt _ (by decide)
  · split
    · exact hz
    · split
      · exact hp _ (by omega)
      · decide
theorem zb_lt (n : Nat) (b : Bool) : 4 ≤ zb n b ∧ zb n b ≤ 11 := by unfold zb; omega
/-- one more packet -/
theorem getD_app1 {ls : List (List Nat)} {x : List Nat} {k : Nat} : (ls ++ [x]).getD k [] = if k = ls.length then x else ls.getD k [] := by
  by_cases h : k < ls.length
  · rw [if_neg (by omega)]
    simp [List.getD, List.getElem?_append_left h]
  · by_cases e : k = ls.length
    · rw [if_pos e, e]; simp [List.getD]
    · rw [if_neg e]
      have h1 : (ls ++ [x])[k]? = none := List.getElem?_eq_none (by rw [List.length_append, List.length_singleton]; omega)
      have h2 : ls[k]? = none := List.getElem?_eq_none (by omega)
      simp [List.getD, h1, h2]
theorem rWi.post {o : Nat} {pk : List Nat} {G' : kG} {z w w' : Nat → Nat} (ho : o < 2) (hlen : (wi (S.1 o)).length < 12) (hpk : pk.length ≤ 228) (hz : ∀ e, e < 2 → (wi (S.1 e)).length ≤ 12 ∧ ∀ k, k < (wi (S.1 e)).length → z (12 * e + k) = (pkA S e k).length ∧ (pkA S e k).length ≤ 228 ∧ ∀ j, j < (pkA S e k).length → w (240 * (12 * e + k) + j) = gD (pkA S e k) j)
    (h176 : G'.1 176 = some (BA 2 (updN (fun j => (wi (S.1 j)).length) o ((wi (S.1 o)).length + 1)))) (h177 : G'.1 177 = some (BA 24 (updN z (12 * o + (wi (S.1 o)).length) pk.length))) (h178 : G'.1 178 = some (YA 5760 w')) (hb : ∀ j, w' j < 256) (hout : ∀ j, j < 240 * (12 * o + (wi (S.1 o)).length) ∨ 240 * (12 * o + (wi (S.1 o)).length) + 228 ≤ j → w' j = w j) (hin : ∀ j, j < pk.length → w' (240 * (12 * o + (wi (S.1 o)).length) + j) = gD pk j) : rWi (sE S o (swi (S.1 o) (wi (S.1 o) ++ [pk]))) G' := by
  have el : (wi (S.1 o) ++ [pk]).length = (wi (S.1 o)).length + 1 := by rw [List.length_append, List.length_singleton]
  refine ⟨?_, _, w', h177, h178, hb, fun e he => ?_⟩
  · rw [h176]
    refine congrArg (fun f => some (BA 2 f)) ?_
    have := pj_up (S := S) (fun s => (wi s).length) (e := o) (s := swi (S.1 o) (wi (S.1 o) ++ [pk]))
    rw [this]
    show _ = up _ o (wi (S.1 o) ++ [pk]).length
    rw [el]
    rfl
  · by_cases x : e = o
    · subst x
      have ew : wi ((sE S e (swi (S.1 e) (wi (S.1 e) ++ [pk]))).1 e) = wi (S.1 e) ++ [pk] := by rw [sE_e]; rfl
      rw [ew, el]
      refine ⟨by omega, fun k hk => ?_⟩
      have ep : pkA (sE S e (swi (S.1 e) (wi (S.1 e) ++ [pk]))) e k = if k = (wi (S.1 e)).length then pk else pkA S e k := by
        unfold pkA
        rw [ew, getD_app1]
      rw [ep]
      by_cases q : k = (wi (S.1 e)).length
      · rw [if_pos q, q, updN_eq]
        exact ⟨rfl, hpk, hin⟩
      · rw [if_neg q, updN_ne (by omega)]
        have := (hz e he).2 k (by omega)
        refine ⟨this.1, this.2.1, fun j hj => ?_⟩
        rw [hout _ (by omega)]
        exact this.2.2 j hj
    · have ew : (sE S o (swi (S.1 o) (wi (S.1 o) ++ [pk]))).1 e = S.1 e := sE_n x
      have ep : ∀ k, pkA (sE S o (swi (S.1 o) (wi (S.1 o) ++ [pk]))) e k = pkA S e k := fun k => by unfold pkA; rw [ew]
      rw [ew]
      refine ⟨(hz e he).1, fun k hk => ?_⟩
      rw [ep k]
      have := (hz e he).2 k hk
      have hl12 := (hz e he).1
      rw [updN_ne (by omega)]
      refine ⟨this.1, this.2.1, fun j hj => ?_⟩
      rw [hout _ (by omega)]
      exact this.2.2 j hj
end MPost1
