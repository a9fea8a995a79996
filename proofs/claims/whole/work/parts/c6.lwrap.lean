/-! the law's own small methods: what they give -/
section LWrap
variable {K : kK} {G : kG} {Q : kO → kG → Prop} {T : TB} {S : SG}
theorem oV_l {ns : List String} {c : Nat} {r : Option Value} (h : Sum.inl r = oV ns c) : c = 0 ∧ r = none := by
  unfold oV at h
  split at h
  · next z => exact ⟨z, Sum.inl.inj h⟩
  · cases h
theorem oI_l {ns : List String} {c : Nat} {v : Int32} {r : Option Value} (h : Sum.inl r = oI ns c v) : c = 0 ∧ r = some (.int v) := by
  unfold oI at h
  split at h
  · next z => exact ⟨z, Sum.inl.inj h⟩
  · cases h
theorem oV_r {ns : List String} {c : Nat} {E : String} (h : Sum.inr E = oV ns c) : c ≠ 0 ∧ E = ns.getD (c - 1) "" := by
  unfold oV at h
  split at h
  · cases h
  · next z => exact ⟨z, Sum.inr.inj h⟩
theorem oI_r {ns : List String} {c : Nat} {v : Int32} {E : String} (h : Sum.inr E = oI ns c v) : c ≠ 0 ∧ E = ns.getD (c - 1) "" := by
  unfold oI at h
  split at h
  · cases h
  · next z => exact ⟨z, Sum.inr.inj h⟩
theorem x4_EIA : EIA ∈ kX4 := List.mem_cons_self
theorem x4_EIS : EIS ∈ kX4 := List.mem_cons_of_mem _ List.mem_cons_self
theorem x4_EIO : EIO ∈ kX4 := List.mem_cons_of_mem _ (List.mem_cons_of_mem _ List.mem_cons_self)
theorem x4_ENS : ENS ∈ kX4 := List.mem_cons_of_mem _ (List.mem_cons_of_mem _ (List.mem_cons_of_mem _ List.mem_cons_self))
/-- the cells from 140 on are left alone, but for the law's own row -/
def Kq (G G' : kG) : Prop := ∀ j, 140 ≤ j → j ≠ 184 → G'.1 j = G.1 j
abbrev OA (f : Nat → Int64) : kE := .inl (2, 1, .inr (.inl f))
theorem xn_EIO_EIA : EIO ≠ EIA := by decide
theorem xn_EIO_ENS : EIO ≠ ENS := by decide
theorem xn_EIO_EIS : EIO ≠ EIS := by decide
theorem xn_EIA_EIO : EIA ≠ EIO := by decide
theorem xn_EIA_ENS : EIA ≠ ENS := by decide
theorem xn_EIA_EIS : EIA ≠ EIS := by decide
theorem xn_ENS_EIO : ENS ≠ EIO := by decide
theorem xn_ENS_EIA : ENS ≠ EIA := by decide
theorem xn_ENS_EIS : ENS ≠ EIS := by decide
theorem xn_EIS_EIO : EIS ≠ EIO := by decide
theorem xn_EIS_EIA : EIS ≠ EIA := by decide
theorem xn_EIS_ENS : EIS ≠ ENS := by decide
theorem cd_set {a : Int} : (aSt S a).1 ≤ 2 := by
  unfold aSt
  repeat (first | split | exact Nat.le_of_ble_eq_true rfl)
theorem cd_multiply : (aMu S).1 ≤ 1 := by
  unfold aMu
  generalize mulB _ _ = l
  repeat (first | split | exact Nat.le_of_ble_eq_true rfl)
theorem cd_stream {a : Int} {b : Int} : (aSr T S a b).1 ≤ 1 := by
  unfold aSr
  generalize STRM _ _ _ _ = l
  repeat (first | split | exact Nat.le_of_ble_eq_true rfl)
theorem cd_tag : (aTg S).1 ≤ 1 := by
  unfold aTg
  generalize TAG _ _ _ = l
  repeat (first | split | exact Nat.le_of_ble_eq_true rfl)
theorem cd_out {a : Int} : (aOu S a).1 ≤ 1 := by
  unfold aOu
  repeat (first | split | exact Nat.le_of_ble_eq_true rfl)
theorem cd_begin {a : Int} : (aBg T S a).1 ≤ 2 := by
  unfold aBg
  repeat (first | split | exact Nat.le_of_ble_eq_true rfl)
theorem cd_send {a : Int} : (aSd T S a).1 ≤ 3 := by
  unfold aSd
  repeat (first | split | exact Nat.le_of_ble_eq_true rfl)
theorem cd_come {a : Int} : (aCm T S a).1 ≤ 1 := by
  unfold aCm
  repeat (first | split | exact Nat.le_of_ble_eq_true rfl)
theorem cd_run {a : Int} : (aRn T S a).1 ≤ 1 := by
  unfold aRn
  repeat (first | split | exact Nat.le_of_ble_eq_true rfl)
theorem cd_packet {a : Int} {b : Int} {c : Int} : (aPk S a b c).1 ≤ 2 := by
  unfold aPk
  repeat (first | split | exact Nat.le_of_ble_eq_true rfl)
theorem cd_damage {a : Int} {b : Int} {c : Int} {d : Int} : (aDm S a b c d).1 ≤ 3 := by
  unfold aDm
  repeat (first | split | exact Nat.le_of_ble_eq_true rfl)
theorem cd_got {a : Int} {b : Int} : (aGt S a b).1 ≤ 2 := by
  unfold aGt
  repeat (first | split | exact Nat.le_of_ble_eq_true rfl)
theorem cd_about {a : Int} {b : Int} : (aAb S a b).1 ≤ 2 := by
  unfold aAb
  repeat (first | split | exact Nat.le_of_ble_eq_true rfl)
theorem cd_session {a : Int} {b : Int} : (aSs S a b).1 ≤ 3 := by
  unfold aSs
  repeat (first | split | exact Nat.le_of_ble_eq_true rfl)
theorem w_set {x : Int32} (h : RC S G) (hq : ∀ G', Kp G G' → RC (aSt S x.toInt).2.2 G' → Q (.inl (some (.int (nI (aSt S x.toInt).1)))) G') : CH K 1 6 mL_set hL_set [.ref 0, .int x] G Q := by
  refine CH_of okL_set (Nat.le_of_ble_eq_true rfl) ?_
  refine VH_aload_n rfl (by first | rfl | assumption) ?_
  refine VH_iload_n rfl (by first | rfl | assumption) ?_
  obtain ⟨tp, sp, g0⟩ := h.sw
  refine VH_callV (M' := mX11_set) (mc := 1) (ms := 6) (bc' := 0) (bs' := 0) rfl cw_L_7 iv_X11_set g0 rfl rfl (Nat.le_of_ble_eq_true rfl) ⟨Nat.le_of_ble_eq_true rfl, Nat.le_of_ble_eq_true rfl⟩ ⟨Nat.le_of_ble_eq_true rfl, Nat.le_of_ble_eq_true rfl⟩ (As := [.int x]) (c_set (Q := fun o G' => Kp G G' ∧ RC (aSt S x.toInt).2.2 G' ∧ o = oV [EIO, EIA] (aSt S x.toInt).1) h (fun G' a b => ⟨a, b, rfl⟩)) (fun r G' hr => ?_) (fun E G' hr => ?_)
  · obtain ⟨a, b, e⟩ := hr
    obtain ⟨e1, e2⟩ := oV_l e
    subst e2
    refine VH_goto rfl ?_
    refine VH_iconst (v := nI (aSt S x.toInt).1) rfl (by rw [e1]; decide) ?_
    exact VH_iret rfl rfl (hq G' a b)
  · obtain ⟨a, b, e⟩ := hr
    obtain ⟨e1, e2⟩ := oV_r e
    refine ⟨nI (aSt S x.toInt).1, ?_, hq G' a b⟩
    have hc := cd_set (S := S) (a := x.toInt)
    generalize (aSt S x.toInt).1 = k at e1 e2 hc ⊢
    rcases (show k = 1 ∨ k = 2 by omega) with rfl | rfl
    · subst e2
      exact ⟨[], ⟨0, 5, 8, 13⟩, [⟨0, 5, 11, 15⟩], rfl, fun _ h => absurd h List.not_mem_nil, rfl, by decide, kl_L_13, x4_EIO, ⟨.astore_n 2, 9, 0, 10, 0, 11, 0, 1, rfl, Or.inl ⟨2, rfl, by decide⟩, rfl, by decide, rfl, rfl⟩⟩
    · subst e2
      exact ⟨[⟨0, 5, 8, 13⟩], ⟨0, 5, 11, 15⟩, [], rfl, List.forall_mem_cons.mpr ⟨⟨rfl, by decide, EIO, kl_L_13, x4_EIO, xn_EIA_EIO⟩, fun _ h => absurd h List.not_mem_nil⟩, rfl, by decide, kl_L_15, x4_EIA, ⟨.astore_n 2, 12, 0, 13, 0, 14, 0, 2, rfl, Or.inl ⟨2, rfl, by decide⟩, rfl, by decide, rfl, rfl⟩⟩
theorem w_multiply (h : RC S G) (hq : ∀ G', Kp G G' → RC (aMu S).2.2 G' → Q (.inl (some (.int (nI (aMu S).1)))) G') : CH K 1 6 mL_multiply hL_multiply [.ref 0] G Q := by
  refine CH_of okL_multiply (Nat.le_of_ble_eq_true rfl) ?_
  refine VH_aload_n rfl (by first | rfl | assumption) ?_
  obtain ⟨tp, sp, g0⟩ := h.sw
  refine VH_callV (M' := mX11_multiply) (mc := 1) (ms := 6) (bc' := 0) (bs' := 0) rfl cw_L_17 iv_X11_multiply g0 rfl rfl (Nat.le_of_ble_eq_true rfl) ⟨Nat.le_of_ble_eq_true rfl, Nat.le_of_ble_eq_true rfl⟩ ⟨Nat.le_of_ble_eq_true rfl, Nat.le_of_ble_eq_true rfl⟩ (As := []) (c_multiply (Q := fun o G' => Kp G G' ∧ RC (aMu S).2.2 G' ∧ o = oV [EIA] (aMu S).1) h (fun G' a b => ⟨a, b, rfl⟩)) (fun r G' hr => ?_) (fun E G' hr => ?_)
  · obtain ⟨a, b, e⟩ := hr
    obtain ⟨e1, e2⟩ := oV_l e
    subst e2
    refine VH_goto rfl ?_
    refine VH_iconst (v := nI (aMu S).1) rfl (by rw [e1]; decide) ?_
    exact VH_iret rfl rfl (hq G' a b)
  · obtain ⟨a, b, e⟩ := hr
    obtain ⟨e1, e2⟩ := oV_r e
    refine ⟨nI (aMu S).1, ?_, hq G' a b⟩
    have hc := cd_multiply (S := S)
    generalize (aMu S).1 = k at e1 e2 hc ⊢
    obtain rfl : k = 1 := by omega
    subst e2
    exact ⟨[], ⟨0, 4, 7, 15⟩, [], rfl, fun _ h => absurd h List.not_mem_nil, rfl, by decide, kl_L_15, x4_EIA, ⟨.astore_n 1, 8, 0, 9, 0, 10, 0, 1, rfl, Or.inl ⟨1, rfl, by decide⟩, rfl, by decide, rfl, rfl⟩⟩
theorem w_stream {w : Int64} {x : Int32} (hT : tbl K T) (h : RC S G) (hq : ∀ G', Kp G G' → RC (aSr T S w.toInt x.toInt).2.2 G' → Q (.inl (some (.int (nI (aSr T S w.toInt x.toInt).1)))) G') : CH K 1 6 mL_stream hL_stream [.ref 0, .long w, .int x] G Q := by
  refine CH_of okL_stream (Nat.le_of_ble_eq_true rfl) ?_
  refine VH_aload_n rfl (by first | rfl | assumption) ?_
  refine VH_lload_n rfl (by first | rfl | assumption) (by first | rfl | assumption) ?_
  refine VH_iload_n rfl (by first | rfl | assumption) ?_
  obtain ⟨tp, sp, g0⟩ := h.sw
  refine VH_callV (M' := mX11_stream) (mc := 1) (ms := 6) (bc' := 0) (bs' := 0) rfl cw_L_20 iv_X11_stream g0 rfl rfl (Nat.le_of_ble_eq_true rfl) ⟨Nat.le_of_ble_eq_true rfl, Nat.le_of_ble_eq_true rfl⟩ ⟨Nat.le_of_ble_eq_true rfl, Nat.le_of_ble_eq_true rfl⟩ (As := [.long w, .int x]) (c_stream (Q := fun o G' => Kp G G' ∧ RC (aSr T S w.toInt x.toInt).2.2 G' ∧ o = oV [EIA] (aSr T S w.toInt x.toInt).1) hT h (fun G' a b => ⟨a, b, rfl⟩)) (fun r G' hr => ?_) (fun E G' hr => ?_)
  · obtain ⟨a, b, e⟩ := hr
    obtain ⟨e1, e2⟩ := oV_l e
    subst e2
    refine VH_goto rfl ?_
    refine VH_iconst (v := nI (aSr T S w.toInt x.toInt).1) rfl (by rw [e1]; decide) ?_
    exact VH_iret rfl rfl (hq G' a b)
  · obtain ⟨a, b, e⟩ := hr
    obtain ⟨e1, e2⟩ := oV_r e
    refine ⟨nI (aSr T S w.toInt x.toInt).1, ?_, hq G' a b⟩
    have hc := cd_stream (S := S) (T := T) (a := w.toInt) (b := x.toInt)
    generalize (aSr T S w.toInt x.toInt).1 = k at e1 e2 hc ⊢
    obtain rfl : k = 1 := by omega
    subst e2
    exact ⟨[], ⟨0, 6, 9, 15⟩, [], rfl, fun _ h => absurd h List.not_mem_nil, rfl, by decide, kl_L_15, x4_EIA, ⟨.astore 4, 11, 0, 12, 0, 13, 0, 1, rfl, Or.inr ⟨4, rfl, by decide⟩, rfl, by decide, rfl, rfl⟩⟩
theorem w_tag (h : RC S G) (hq : ∀ G', Kp G G' → RC (aTg S).2.2 G' → Q (.inl (some (.int (nI (aTg S).1)))) G') : CH K 1 6 mL_tag hL_tag [.ref 0] G Q := by
  refine CH_of okL_tag (Nat.le_of_ble_eq_true rfl) ?_
  refine VH_aload_n rfl (by first | rfl | assumption) ?_
  obtain ⟨tp, sp, g0⟩ := h.sw
  refine VH_callV (M' := mX11_tag) (mc := 1) (ms := 6) (bc' := 0) (bs' := 0) rfl cw_L_24 iv_X11_tag g0 rfl rfl (Nat.le_of_ble_eq_true rfl) ⟨Nat.le_of_ble_eq_true rfl, Nat.le_of_ble_eq_true rfl⟩ ⟨Nat.le_of_ble_eq_true rfl, Nat.le_of_ble_eq_true rfl⟩ (As := []) (c_tag (Q := fun o G' => Kp G G' ∧ RC (aTg S).2.2 G' ∧ o = oV [EIA] (aTg S).1) h (fun G' a b => ⟨a, b, rfl⟩)) (fun r G' hr => ?_) (fun E G' hr => ?_)
  · obtain ⟨a, b, e⟩ := hr
    obtain ⟨e1, e2⟩ := oV_l e
    subst e2
    refine VH_goto rfl ?_
    refine VH_iconst (v := nI (aTg S).1) rfl (by rw [e1]; decide) ?_
    exact VH_iret rfl rfl (hq G' a b)
  · obtain ⟨a, b, e⟩ := hr
    obtain ⟨e1, e2⟩ := oV_r e
    refine ⟨nI (aTg S).1, ?_, hq G' a b⟩
    have hc := cd_tag (S := S)
    generalize (aTg S).1 = k at e1 e2 hc ⊢
    obtain rfl : k = 1 := by omega
    subst e2
    exact ⟨[], ⟨0, 4, 7, 15⟩, [], rfl, fun _ h => absurd h List.not_mem_nil, rfl, by decide, kl_L_15, x4_EIA, ⟨.astore_n 1, 8, 0, 9, 0, 10, 0, 1, rfl, Or.inl ⟨1, rfl, by decide⟩, rfl, by decide, rfl, rfl⟩⟩
theorem w_out {x : Int32} (h : RC S G) {f : Nat → Int64} (g184 : G.1 184 = some (OA f)) (hq : ∀ G' f', Kq G G' → RC (aOu S x.toInt).2.2 G' → G'.1 184 = some (OA f') → ((aOu S x.toInt).1 = 0 → f' 0 = (aOu S x.toInt).2.1.toInt64) → Q (.inl (some (.int (nI (aOu S x.toInt).1)))) G') : CH K 1 6 mL_out hL_out [.ref 0, .int x, .ref 184] G Q := by
  refine CH_of okL_out (Nat.le_of_ble_eq_true rfl) ?_
  refine VH_aload_n rfl (by first | rfl | assumption) ?_
  refine VH_iconst (v := nI 0) rfl (by decide) ?_
  refine VH_aload_n rfl (by first | rfl | assumption) ?_
  refine VH_iload_n rfl (by first | rfl | assumption) ?_
  obtain ⟨tp, sp, g0⟩ := h.sw
  refine VH_callV (M' := mX11_out) (mc := 1) (ms := 6) (bc' := 0) (bs' := 0) rfl cw_L_27 iv_X11_out g0 rfl rfl (Nat.le_of_ble_eq_true rfl) ⟨Nat.le_of_ble_eq_true rfl, Nat.le_of_ble_eq_true rfl⟩ ⟨Nat.le_of_ble_eq_true rfl, Nat.le_of_ble_eq_true rfl⟩ (As := [.int x]) (c_out (Q := fun o G' => Kp G G' ∧ RC (aOu S x.toInt).2.2 G' ∧ o = oI [EIO] (aOu S x.toInt).1 (aOu S x.toInt).2.1) h (fun G' a b => ⟨a, b, rfl⟩)) (fun r G' hr => ?_) (fun E G' hr => ?_)
  · obtain ⟨a, b, e⟩ := hr
    obtain ⟨e1, e2⟩ := oI_l e
    subst e2
    refine VH_i2l rfl ?_
    refine VH_lastJ rfl ((a 184 (by decide)).trans g184) rfl (by decide) (by decide) ?_
    refine VH_goto rfl ?_
    refine VH_iconst (v := nI (aOu S x.toInt).1) rfl (by rw [e1]; decide) ?_
    exact VH_iret rfl rfl (hq _ _ (fun j h1 h2 => (hup_ne h2).trans (a j h1)) (b.fp (fun j hj => hup_ne (by omega))) hup_eq (fun _ => rfl))
  · obtain ⟨a, b, e⟩ := hr
    obtain ⟨e1, e2⟩ := oI_r e
    refine ⟨nI (aOu S x.toInt).1, ?_, hq G' f (fun j h1 _ => a j h1) b ((a 184 (by decide)).trans g184) (fun z => absurd z e1)⟩
    have hc := cd_out (S := S) (a := x.toInt)
    generalize (aOu S x.toInt).1 = k at e1 e2 hc ⊢
    obtain rfl : k = 1 := by omega
    subst e2
    exact ⟨[], ⟨0, 9, 12, 13⟩, [], rfl, fun _ h => absurd h List.not_mem_nil, rfl, by decide, kl_L_13, x4_EIO, ⟨.astore_n 3, 13, 0, 14, 0, 15, 0, 1, rfl, Or.inl ⟨3, rfl, by decide⟩, rfl, by decide, rfl, rfl⟩⟩
theorem w_begin {x : Int32} {B : Nat} (hT : tbl K T) (h : RC S G) (hB : bnd S B) (hB2 : B < 2 ^ 20) (hq : ∀ G', Kp G G' → RC (aBg T S x.toInt).2.2 G' → Q (.inl (some (.int (nI (aBg T S x.toInt).1)))) G') : CH K 2 12 mL_begin hL_begin [.ref 0, .int x] G Q := by
  refine CH_of okL_begin (Nat.le_of_ble_eq_true rfl) ?_
  refine VH_aload_n rfl (by first | rfl | assumption) ?_
  refine VH_iload_n rfl (by first | rfl | assumption) ?_
  obtain ⟨tp, sp, g0⟩ := h.sw
  refine VH_callV (M' := mX11_begin) (mc := 2) (ms := 12) (bc' := 0) (bs' := 0) rfl cw_L_31 iv_X11_begin g0 rfl rfl (Nat.le_of_ble_eq_true rfl) ⟨Nat.le_of_ble_eq_true rfl, Nat.le_of_ble_eq_true rfl⟩ ⟨Nat.le_of_ble_eq_true rfl, Nat.le_of_ble_eq_true rfl⟩ (As := [.int x]) (c_begin (Q := fun o G' => Kp G G' ∧ RC (aBg T S x.toInt).2.2 G' ∧ o = oV [ENS, EIS] (aBg T S x.toInt).1) hT h hB hB2 (fun G' a b => ⟨a, b, rfl⟩)) (fun r G' hr => ?_) (fun E G' hr => ?_)
  · obtain ⟨a, b, e⟩ := hr
    obtain ⟨e1, e2⟩ := oV_l e
    subst e2
    refine VH_goto rfl ?_
    refine VH_iconst (v := nI (aBg T S x.toInt).1) rfl (by rw [e1]; decide) ?_
    exact VH_iret rfl rfl (hq G' a b)
  · obtain ⟨a, b, e⟩ := hr
    obtain ⟨e1, e2⟩ := oV_r e
    refine ⟨nI (aBg T S x.toInt).1, ?_, hq G' a b⟩
    have hc := cd_begin (S := S) (T := T) (a := x.toInt)
    generalize (aBg T S x.toInt).1 = k at e1 e2 hc ⊢
    rcases (show k = 1 ∨ k = 2 by omega) with rfl | rfl
    · subst e2
      exact ⟨[], ⟨0, 5, 8, 34⟩, [⟨0, 5, 11, 36⟩], rfl, fun _ h => absurd h List.not_mem_nil, rfl, by decide, kl_L_34, x4_ENS, ⟨.astore_n 2, 9, 0, 10, 0, 11, 0, 1, rfl, Or.inl ⟨2, rfl, by decide⟩, rfl, by decide, rfl, rfl⟩⟩
    · subst e2
      exact ⟨[⟨0, 5, 8, 34⟩], ⟨0, 5, 11, 36⟩, [], rfl, List.forall_mem_cons.mpr ⟨⟨rfl, by decide, ENS, kl_L_34, x4_ENS, xn_EIS_ENS⟩, fun _ h => absurd h List.not_mem_nil⟩, rfl, by decide, kl_L_36, x4_EIS, ⟨.astore_n 2, 12, 0, 13, 0, 14, 0, 2, rfl, Or.inl ⟨2, rfl, by decide⟩, rfl, by decide, rfl, rfl⟩⟩
theorem w_send {x : Int32} {B : Nat} (hT : tbl K T) (h : RC S G) (hB : bnd S B) (hB2 : B < 2 ^ 20) (hq : ∀ G', Kp G G' → RC (aSd T S x.toInt).2.2 G' → Q (.inl (some (.int (nI (aSd T S x.toInt).1)))) G') : CH K 2 12 mL_send hL_send [.ref 0, .int x] G Q := by
  refine CH_of okL_send (Nat.le_of_ble_eq_true rfl) ?_
  refine VH_aload_n rfl (by first | rfl | assumption) ?_
  refine VH_iload_n rfl (by first | rfl | assumption) ?_
  obtain ⟨tp, sp, g0⟩ := h.sw
  refine VH_callV (M' := mX11_send) (mc := 2) (ms := 12) (bc' := 0) (bs' := 0) rfl cw_L_38 iv_X11_send g0 rfl rfl (Nat.le_of_ble_eq_true rfl) ⟨Nat.le_of_ble_eq_true rfl, Nat.le_of_ble_eq_true rfl⟩ ⟨Nat.le_of_ble_eq_true rfl, Nat.le_of_ble_eq_true rfl⟩ (As := [.int x]) (c_send (Q := fun o G' => Kp G G' ∧ RC (aSd T S x.toInt).2.2 G' ∧ o = oV [ENS, EIA, EIS] (aSd T S x.toInt).1) hT h hB hB2 (fun G' a b => ⟨a, b, rfl⟩)) (fun r G' hr => ?_) (fun E G' hr => ?_)
  · obtain ⟨a, b, e⟩ := hr
    obtain ⟨e1, e2⟩ := oV_l e
    subst e2
    refine VH_goto rfl ?_
    refine VH_iconst (v := nI (aSd T S x.toInt).1) rfl (by rw [e1]; decide) ?_
    exact VH_iret rfl rfl (hq G' a b)
  · obtain ⟨a, b, e⟩ := hr
    obtain ⟨e1, e2⟩ := oV_r e
    refine ⟨nI (aSd T S x.toInt).1, ?_, hq G' a b⟩
    have hc := cd_send (S := S) (T := T) (a := x.toInt)
    generalize (aSd T S x.toInt).1 = k at e1 e2 hc ⊢
    rcases (show k = 1 ∨ k = 2 ∨ k = 3 by omega) with rfl | rfl | rfl
    · subst e2
      exact ⟨[], ⟨0, 5, 8, 34⟩, [⟨0, 5, 11, 15⟩, ⟨0, 5, 14, 36⟩], rfl, fun _ h => absurd h List.not_mem_nil, rfl, by decide, kl_L_34, x4_ENS, ⟨.astore_n 2, 9, 0, 10, 0, 11, 0, 1, rfl, Or.inl ⟨2, rfl, by decide⟩, rfl, by decide, rfl, rfl⟩⟩
    · subst e2
      exact ⟨[⟨0, 5, 8, 34⟩], ⟨0, 5, 11, 15⟩, [⟨0, 5, 14, 36⟩], rfl, List.forall_mem_cons.mpr ⟨⟨rfl, by decide, ENS, kl_L_34, x4_ENS, xn_EIA_ENS⟩, fun _ h => absurd h List.not_mem_nil⟩, rfl, by decide, kl_L_15, x4_EIA, ⟨.astore_n 2, 12, 0, 13, 0, 14, 0, 2, rfl, Or.inl ⟨2, rfl, by decide⟩, rfl, by decide, rfl, rfl⟩⟩
    · subst e2
      exact ⟨[⟨0, 5, 8, 34⟩, ⟨0, 5, 11, 15⟩], ⟨0, 5, 14, 36⟩, [], rfl, List.forall_mem_cons.mpr ⟨⟨rfl, by decide, ENS, kl_L_34, x4_ENS, xn_EIS_ENS⟩, List.forall_mem_cons.mpr ⟨⟨rfl, by decide, EIA, kl_L_15, x4_EIA, xn_EIS_EIA⟩, fun _ h => absurd h List.not_mem_nil⟩⟩, rfl, by decide, kl_L_36, x4_EIS, ⟨.astore_n 2, 15, 0, 16, 0, 17, 0, 3, rfl, Or.inl ⟨2, rfl, by decide⟩, rfl, by decide, rfl, rfl⟩⟩
theorem w_come {x : Int32} {B : Nat} (hT : tbl K T) (h : RC S G) (hB : bnd S B) (hB2 : B < 2 ^ 20) {f : Nat → Int64} (g184 : G.1 184 = some (OA f)) (hq : ∀ G' f', Kq G G' → RC (aCm T S x.toInt).2.2 G' → G'.1 184 = some (OA f') → ((aCm T S x.toInt).1 = 0 → f' 0 = (aCm T S x.toInt).2.1.toInt64) → Q (.inl (some (.int (nI (aCm T S x.toInt).1)))) G') : CH K 1 6 mL_come hL_come [.ref 0, .int x, .ref 184] G Q := by
  refine CH_of okL_come (Nat.le_of_ble_eq_true rfl) ?_
  refine VH_aload_n rfl (by first | rfl | assumption) ?_
  refine VH_iconst (v := nI 0) rfl (by decide) ?_
  refine VH_aload_n rfl (by first | rfl | assumption) ?_
  refine VH_iload_n rfl (by first | rfl | assumption) ?_
  obtain ⟨tp, sp, g0⟩ := h.sw
  refine VH_callV (M' := mX11_come) (mc := 1) (ms := 6) (bc' := 0) (bs' := 0) rfl cw_L_41 iv_X11_come g0 rfl rfl (Nat.le_of_ble_eq_true rfl) ⟨Nat.le_of_ble_eq_true rfl, Nat.le_of_ble_eq_true rfl⟩ ⟨Nat.le_of_ble_eq_true rfl, Nat.le_of_ble_eq_true rfl⟩ (As := [.int x]) (c_come (Q := fun o G' => Kp G G' ∧ RC (aCm T S x.toInt).2.2 G' ∧ o = oI [ENS] (aCm T S x.toInt).1 (aCm T S x.toInt).2.1) hT h hB hB2 (fun G' a b => ⟨a, b, rfl⟩)) (fun r G' hr => ?_) (fun E G' hr => ?_)
  · obtain ⟨a, b, e⟩ := hr
    obtain ⟨e1, e2⟩ := oI_l e
    subst e2
    refine VH_i2l rfl ?_
    refine VH_lastJ rfl ((a 184 (by decide)).trans g184) rfl (by decide) (by decide) ?_
    refine VH_goto rfl ?_
    refine VH_iconst (v := nI (aCm T S x.toInt).1) rfl (by rw [e1]; decide) ?_
    exact VH_iret rfl rfl (hq _ _ (fun j h1 h2 => (hup_ne h2).trans (a j h1)) (b.fp (fun j hj => hup_ne (by omega))) hup_eq (fun _ => rfl))
  · obtain ⟨a, b, e⟩ := hr
    obtain ⟨e1, e2⟩ := oI_r e
    refine ⟨nI (aCm T S x.toInt).1, ?_, hq G' f (fun j h1 _ => a j h1) b ((a 184 (by decide)).trans g184) (fun z => absurd z e1)⟩
    have hc := cd_come (S := S) (T := T) (a := x.toInt)
    generalize (aCm T S x.toInt).1 = k at e1 e2 hc ⊢
    obtain rfl : k = 1 := by omega
    subst e2
    exact ⟨[], ⟨0, 9, 12, 34⟩, [], rfl, fun _ h => absurd h List.not_mem_nil, rfl, by decide, kl_L_34, x4_ENS, ⟨.astore_n 3, 13, 0, 14, 0, 15, 0, 1, rfl, Or.inl ⟨3, rfl, by decide⟩, rfl, by decide, rfl, rfl⟩⟩
theorem w_run {x : Int32} {B : Nat} (hT : tbl K T) (h : RC S G) (hB : bnd S B) (hB2 : B < 2 ^ 20) {f : Nat → Int64} (g184 : G.1 184 = some (OA f)) (hq : ∀ G' f', Kq G G' → RC (aRn T S x.toInt).2.2 G' → G'.1 184 = some (OA f') → ((aRn T S x.toInt).1 = 0 → f' 0 = (aRn T S x.toInt).2.1.toInt64) → Q (.inl (some (.int (nI (aRn T S x.toInt).1)))) G') : CH K 1 6 mL_run hL_run [.ref 0, .int x, .ref 184] G Q := by
  refine CH_of okL_run (Nat.le_of_ble_eq_true rfl) ?_
  refine VH_aload_n rfl (by first | rfl | assumption) ?_
  refine VH_iconst (v := nI 0) rfl (by decide) ?_
  refine VH_aload_n rfl (by first | rfl | assumption) ?_
  refine VH_iload_n rfl (by first | rfl | assumption) ?_
  obtain ⟨tp, sp, g0⟩ := h.sw
  refine VH_callV (M' := mX11_run) (mc := 1) (ms := 6) (bc' := 0) (bs' := 0) rfl cw_L_44 iv_X11_run g0 rfl rfl (Nat.le_of_ble_eq_true rfl) ⟨Nat.le_of_ble_eq_true rfl, Nat.le_of_ble_eq_true rfl⟩ ⟨Nat.le_of_ble_eq_true rfl, Nat.le_of_ble_eq_true rfl⟩ (As := [.int x]) (c_run (Q := fun o G' => Kp G G' ∧ RC (aRn T S x.toInt).2.2 G' ∧ o = oI [EIA] (aRn T S x.toInt).1 (aRn T S x.toInt).2.1) hT h hB hB2 (fun G' a b => ⟨a, b, rfl⟩)) (fun r G' hr => ?_) (fun E G' hr => ?_)
  · obtain ⟨a, b, e⟩ := hr
    obtain ⟨e1, e2⟩ := oI_l e
    subst e2
    refine VH_i2l rfl ?_
    refine VH_lastJ rfl ((a 184 (by decide)).trans g184) rfl (by decide) (by decide) ?_
    refine VH_goto rfl ?_
    refine VH_iconst (v := nI (aRn T S x.toInt).1) rfl (by rw [e1]; decide) ?_
    exact VH_iret rfl rfl (hq _ _ (fun j h1 h2 => (hup_ne h2).trans (a j h1)) (b.fp (fun j hj => hup_ne (by omega))) hup_eq (fun _ => rfl))
  · obtain ⟨a, b, e⟩ := hr
    obtain ⟨e1, e2⟩ := oI_r e
    refine ⟨nI (aRn T S x.toInt).1, ?_, hq G' f (fun j h1 _ => a j h1) b ((a 184 (by decide)).trans g184) (fun z => absurd z e1)⟩
    have hc := cd_run (S := S) (T := T) (a := x.toInt)
    generalize (aRn T S x.toInt).1 = k at e1 e2 hc ⊢
    obtain rfl : k = 1 := by omega
    subst e2
    exact ⟨[], ⟨0, 9, 12, 15⟩, [], rfl, fun _ h => absurd h List.not_mem_nil, rfl, by decide, kl_L_15, x4_EIA, ⟨.astore_n 3, 13, 0, 14, 0, 15, 0, 1, rfl, Or.inl ⟨3, rfl, by decide⟩, rfl, by decide, rfl, rfl⟩⟩
theorem w_packet {x : Int32} {y : Int32} {z : Int32} (h : RC S G) {f : Nat → Int64} (g184 : G.1 184 = some (OA f)) (hq : ∀ G' f', Kq G G' → RC (aPk S x.toInt y.toInt z.toInt).2.2 G' → G'.1 184 = some (OA f') → ((aPk S x.toInt y.toInt z.toInt).1 = 0 → f' 0 = (aPk S x.toInt y.toInt z.toInt).2.1.toInt64) → Q (.inl (some (.int (nI (aPk S x.toInt y.toInt z.toInt).1)))) G') : CH K 3 18 mL_packet hL_packet [.ref 0, .int x, .int y, .int z, .ref 184] G Q := by
  refine CH_of okL_packet (Nat.le_of_ble_eq_true rfl) ?_
  refine VH_aload rfl (by first | rfl | assumption) ?_
  refine VH_iconst (v := nI 0) rfl (by decide) ?_
  refine VH_aload_n rfl (by first | rfl | assumption) ?_
  refine VH_iload_n rfl (by first | rfl | assumption) ?_
  refine VH_iload_n rfl (by first | rfl | assumption) ?_
  refine VH_iload_n rfl (by first | rfl | assumption) ?_
  obtain ⟨tp, sp, g0⟩ := h.sw
  refine VH_callV (M' := mX11_packet) (mc := 3) (ms := 18) (bc' := 0) (bs' := 0) rfl cw_L_47 iv_X11_packet g0 rfl rfl (Nat.le_of_ble_eq_true rfl) ⟨Nat.le_of_ble_eq_true rfl, Nat.le_of_ble_eq_true rfl⟩ ⟨Nat.le_of_ble_eq_true rfl, Nat.le_of_ble_eq_true rfl⟩ (As := [.int x, .int y, .int z]) (c_packet (Q := fun o G' => Kp G G' ∧ RC (aPk S x.toInt y.toInt z.toInt).2.2 G' ∧ o = oI [ENS, EIO] (aPk S x.toInt y.toInt z.toInt).1 (aPk S x.toInt y.toInt z.toInt).2.1) h (fun G' a b => ⟨a, b, rfl⟩)) (fun r G' hr => ?_) (fun E G' hr => ?_)
  · obtain ⟨a, b, e⟩ := hr
    obtain ⟨e1, e2⟩ := oI_l e
    subst e2
    refine VH_i2l rfl ?_
    refine VH_lastJ rfl ((a 184 (by decide)).trans g184) rfl (by decide) (by decide) ?_
    refine VH_goto rfl ?_
    refine VH_iconst (v := nI (aPk S x.toInt y.toInt z.toInt).1) rfl (by rw [e1]; decide) ?_
    exact VH_iret rfl rfl (hq _ _ (fun j h1 h2 => (hup_ne h2).trans (a j h1)) (b.fp (fun j hj => hup_ne (by omega))) hup_eq (fun _ => rfl))
  · obtain ⟨a, b, e⟩ := hr
    obtain ⟨e1, e2⟩ := oI_r e
    refine ⟨nI (aPk S x.toInt y.toInt z.toInt).1, ?_, hq G' f (fun j h1 _ => a j h1) b ((a 184 (by decide)).trans g184) (fun z => absurd z e1)⟩
    have hc := cd_packet (S := S) (a := x.toInt) (b := y.toInt) (c := z.toInt)
    generalize (aPk S x.toInt y.toInt z.toInt).1 = k at e1 e2 hc ⊢
    rcases (show k = 1 ∨ k = 2 by omega) with rfl | rfl
    · subst e2
      exact ⟨[], ⟨0, 12, 15, 34⟩, [⟨0, 12, 19, 13⟩], rfl, fun _ h => absurd h List.not_mem_nil, rfl, by decide, kl_L_34, x4_ENS, ⟨.astore 5, 17, 0, 18, 0, 19, 0, 1, rfl, Or.inr ⟨5, rfl, by decide⟩, rfl, by decide, rfl, rfl⟩⟩
    · subst e2
      exact ⟨[⟨0, 12, 15, 34⟩], ⟨0, 12, 19, 13⟩, [], rfl, List.forall_mem_cons.mpr ⟨⟨rfl, by decide, ENS, kl_L_34, x4_ENS, xn_EIO_ENS⟩, fun _ h => absurd h List.not_mem_nil⟩, rfl, by decide, kl_L_13, x4_EIO, ⟨.astore 5, 21, 0, 22, 0, 23, 0, 2, rfl, Or.inr ⟨5, rfl, by decide⟩, rfl, by decide, rfl, rfl⟩⟩
theorem w_damage {x : Int32} {y : Int32} {z : Int32} {u : Int32} (h : RC S G) (hq : ∀ G', Kp G G' → RC (aDm S x.toInt y.toInt z.toInt u.toInt).2.2 G' → Q (.inl (some (.int (nI (aDm S x.toInt y.toInt z.toInt u.toInt).1)))) G') : CH K 3 18 mL_damage hL_damage [.ref 0, .int x, .int y, .int z, .int u] G Q := by
  refine CH_of okL_damage (Nat.le_of_ble_eq_true rfl) ?_
  refine VH_aload_n rfl (by first | rfl | assumption) ?_
  refine VH_iload_n rfl (by first | rfl | assumption) ?_
  refine VH_iload_n rfl (by first | rfl | assumption) ?_
  refine VH_iload_n rfl (by first | rfl | assumption) ?_
  refine VH_iload rfl (by first | rfl | assumption) ?_
  obtain ⟨tp, sp, g0⟩ := h.sw
  refine VH_callV (M' := mX11_damage) (mc := 3) (ms := 18) (bc' := 0) (bs' := 0) rfl cw_L_51 iv_X11_damage g0 rfl rfl (Nat.le_of_ble_eq_true rfl) ⟨Nat.le_of_ble_eq_true rfl, Nat.le_of_ble_eq_true rfl⟩ ⟨Nat.le_of_ble_eq_true rfl, Nat.le_of_ble_eq_true rfl⟩ (As := [.int x, .int y, .int z, .int u]) (c_damage (Q := fun o G' => Kp G G' ∧ RC (aDm S x.toInt y.toInt z.toInt u.toInt).2.2 G' ∧ o = oV [ENS, EIO, EIA] (aDm S x.toInt y.toInt z.toInt u.toInt).1) h (fun G' a b => ⟨a, b, rfl⟩)) (fun r G' hr => ?_) (fun E G' hr => ?_)
  · obtain ⟨a, b, e⟩ := hr
    obtain ⟨e1, e2⟩ := oV_l e
    subst e2
    refine VH_goto rfl ?_
    refine VH_iconst (v := nI (aDm S x.toInt y.toInt z.toInt u.toInt).1) rfl (by rw [e1]; decide) ?_
    exact VH_iret rfl rfl (hq G' a b)
  · obtain ⟨a, b, e⟩ := hr
    obtain ⟨e1, e2⟩ := oV_r e
    refine ⟨nI (aDm S x.toInt y.toInt z.toInt u.toInt).1, ?_, hq G' a b⟩
    have hc := cd_damage (S := S) (a := x.toInt) (b := y.toInt) (c := z.toInt) (d := u.toInt)
    generalize (aDm S x.toInt y.toInt z.toInt u.toInt).1 = k at e1 e2 hc ⊢
    rcases (show k = 1 ∨ k = 2 ∨ k = 3 by omega) with rfl | rfl | rfl
    · subst e2
      exact ⟨[], ⟨0, 9, 12, 34⟩, [⟨0, 9, 16, 13⟩, ⟨0, 9, 20, 15⟩], rfl, fun _ h => absurd h List.not_mem_nil, rfl, by decide, kl_L_34, x4_ENS, ⟨.astore 5, 14, 0, 15, 0, 16, 0, 1, rfl, Or.inr ⟨5, rfl, by decide⟩, rfl, by decide, rfl, rfl⟩⟩
    · subst e2
      exact ⟨[⟨0, 9, 12, 34⟩], ⟨0, 9, 16, 13⟩, [⟨0, 9, 20, 15⟩], rfl, List.forall_mem_cons.mpr ⟨⟨rfl, by decide, ENS, kl_L_34, x4_ENS, xn_EIO_ENS⟩, fun _ h => absurd h List.not_mem_nil⟩, rfl, by decide, kl_L_13, x4_EIO, ⟨.astore 5, 18, 0, 19, 0, 20, 0, 2, rfl, Or.inr ⟨5, rfl, by decide⟩, rfl, by decide, rfl, rfl⟩⟩
    · subst e2
      exact ⟨[⟨0, 9, 12, 34⟩, ⟨0, 9, 16, 13⟩], ⟨0, 9, 20, 15⟩, [], rfl, List.forall_mem_cons.mpr ⟨⟨rfl, by decide, ENS, kl_L_34, x4_ENS, xn_EIA_ENS⟩, List.forall_mem_cons.mpr ⟨⟨rfl, by decide, EIO, kl_L_13, x4_EIO, xn_EIA_EIO⟩, fun _ h => absurd h List.not_mem_nil⟩⟩, rfl, by decide, kl_L_15, x4_EIA, ⟨.astore 5, 22, 0, 23, 0, 24, 0, 3, rfl, Or.inr ⟨5, rfl, by decide⟩, rfl, by decide, rfl, rfl⟩⟩
theorem w_got {x : Int32} {y : Int32} (h : RC S G) {f : Nat → Int64} (g184 : G.1 184 = some (OA f)) (hq : ∀ G' f', Kq G G' → RC (aGt S x.toInt y.toInt).2.2 G' → G'.1 184 = some (OA f') → ((aGt S x.toInt y.toInt).1 = 0 → f' 0 = (aGt S x.toInt y.toInt).2.1.toInt64) → Q (.inl (some (.int (nI (aGt S x.toInt y.toInt).1)))) G') : CH K 2 12 mL_got hL_got [.ref 0, .int x, .int y, .ref 184] G Q := by
  refine CH_of okL_got (Nat.le_of_ble_eq_true rfl) ?_
  refine VH_aload_n rfl (by first | rfl | assumption) ?_
  refine VH_iconst (v := nI 0) rfl (by decide) ?_
  refine VH_aload_n rfl (by first | rfl | assumption) ?_
  refine VH_iload_n rfl (by first | rfl | assumption) ?_
  refine VH_iload_n rfl (by first | rfl | assumption) ?_
  obtain ⟨tp, sp, g0⟩ := h.sw
  refine VH_callV (M' := mX11_got) (mc := 2) (ms := 12) (bc' := 0) (bs' := 0) rfl cw_L_55 iv_X11_got g0 rfl rfl (Nat.le_of_ble_eq_true rfl) ⟨Nat.le_of_ble_eq_true rfl, Nat.le_of_ble_eq_true rfl⟩ ⟨Nat.le_of_ble_eq_true rfl, Nat.le_of_ble_eq_true rfl⟩ (As := [.int x, .int y]) (c_got (Q := fun o G' => Kp G G' ∧ RC (aGt S x.toInt y.toInt).2.2 G' ∧ o = oI [ENS, EIO] (aGt S x.toInt y.toInt).1 (aGt S x.toInt y.toInt).2.1) h (fun G' a b => ⟨a, b, rfl⟩)) (fun r G' hr => ?_) (fun E G' hr => ?_)
  · obtain ⟨a, b, e⟩ := hr
    obtain ⟨e1, e2⟩ := oI_l e
    subst e2
    refine VH_i2l rfl ?_
    refine VH_lastJ rfl ((a 184 (by decide)).trans g184) rfl (by decide) (by decide) ?_
    refine VH_goto rfl ?_
    refine VH_iconst (v := nI (aGt S x.toInt y.toInt).1) rfl (by rw [e1]; decide) ?_
    exact VH_iret rfl rfl (hq _ _ (fun j h1 h2 => (hup_ne h2).trans (a j h1)) (b.fp (fun j hj => hup_ne (by omega))) hup_eq (fun _ => rfl))
  · obtain ⟨a, b, e⟩ := hr
    obtain ⟨e1, e2⟩ := oI_r e
    refine ⟨nI (aGt S x.toInt y.toInt).1, ?_, hq G' f (fun j h1 _ => a j h1) b ((a 184 (by decide)).trans g184) (fun z => absurd z e1)⟩
    have hc := cd_got (S := S) (a := x.toInt) (b := y.toInt)
    generalize (aGt S x.toInt y.toInt).1 = k at e1 e2 hc ⊢
    rcases (show k = 1 ∨ k = 2 by omega) with rfl | rfl
    · subst e2
      exact ⟨[], ⟨0, 10, 13, 34⟩, [⟨0, 10, 17, 13⟩], rfl, fun _ h => absurd h List.not_mem_nil, rfl, by decide, kl_L_34, x4_ENS, ⟨.astore 4, 15, 0, 16, 0, 17, 0, 1, rfl, Or.inr ⟨4, rfl, by decide⟩, rfl, by decide, rfl, rfl⟩⟩
    · subst e2
      exact ⟨[⟨0, 10, 13, 34⟩], ⟨0, 10, 17, 13⟩, [], rfl, List.forall_mem_cons.mpr ⟨⟨rfl, by decide, ENS, kl_L_34, x4_ENS, xn_EIO_ENS⟩, fun _ h => absurd h List.not_mem_nil⟩, rfl, by decide, kl_L_13, x4_EIO, ⟨.astore 4, 19, 0, 20, 0, 21, 0, 2, rfl, Or.inr ⟨4, rfl, by decide⟩, rfl, by decide, rfl, rfl⟩⟩
theorem w_about {x : Int32} {y : Int32} (h : RC S G) {f : Nat → Int64} (g184 : G.1 184 = some (OA f)) (hq : ∀ G' f', Kq G G' → RC (aAb S x.toInt y.toInt).2.2 G' → G'.1 184 = some (OA f') → ((aAb S x.toInt y.toInt).1 = 0 → f' 0 = (aAb S x.toInt y.toInt).2.1.toInt64) → Q (.inl (some (.int (nI (aAb S x.toInt y.toInt).1)))) G') : CH K 2 12 mL_about hL_about [.ref 0, .int x, .int y, .ref 184] G Q := by
  refine CH_of okL_about (Nat.le_of_ble_eq_true rfl) ?_
  refine VH_aload_n rfl (by first | rfl | assumption) ?_
  refine VH_iconst (v := nI 0) rfl (by decide) ?_
  refine VH_aload_n rfl (by first | rfl | assumption) ?_
  refine VH_iload_n rfl (by first | rfl | assumption) ?_
  refine VH_iload_n rfl (by first | rfl | assumption) ?_
  obtain ⟨tp, sp, g0⟩ := h.sw
  refine VH_callV (M' := mX11_about) (mc := 2) (ms := 12) (bc' := 0) (bs' := 0) rfl cw_L_59 iv_X11_about g0 rfl rfl (Nat.le_of_ble_eq_true rfl) ⟨Nat.le_of_ble_eq_true rfl, Nat.le_of_ble_eq_true rfl⟩ ⟨Nat.le_of_ble_eq_true rfl, Nat.le_of_ble_eq_true rfl⟩ (As := [.int x, .int y]) (c_about (Q := fun o G' => Kp G G' ∧ RC (aAb S x.toInt y.toInt).2.2 G' ∧ o = oI [ENS, EIO] (aAb S x.toInt y.toInt).1 (aAb S x.toInt y.toInt).2.1) h (fun G' a b => ⟨a, b, rfl⟩)) (fun r G' hr => ?_) (fun E G' hr => ?_)
  · obtain ⟨a, b, e⟩ := hr
    obtain ⟨e1, e2⟩ := oI_l e
    subst e2
    refine VH_i2l rfl ?_
    refine VH_lastJ rfl ((a 184 (by decide)).trans g184) rfl (by decide) (by decide) ?_
    refine VH_goto rfl ?_
    refine VH_iconst (v := nI (aAb S x.toInt y.toInt).1) rfl (by rw [e1]; decide) ?_
    exact VH_iret rfl rfl (hq _ _ (fun j h1 h2 => (hup_ne h2).trans (a j h1)) (b.fp (fun j hj => hup_ne (by omega))) hup_eq (fun _ => rfl))
  · obtain ⟨a, b, e⟩ := hr
    obtain ⟨e1, e2⟩ := oI_r e
    refine ⟨nI (aAb S x.toInt y.toInt).1, ?_, hq G' f (fun j h1 _ => a j h1) b ((a 184 (by decide)).trans g184) (fun z => absurd z e1)⟩
    have hc := cd_about (S := S) (a := x.toInt) (b := y.toInt)
    generalize (aAb S x.toInt y.toInt).1 = k at e1 e2 hc ⊢
    rcases (show k = 1 ∨ k = 2 by omega) with rfl | rfl
    · subst e2
      exact ⟨[], ⟨0, 10, 13, 34⟩, [⟨0, 10, 17, 13⟩], rfl, fun _ h => absurd h List.not_mem_nil, rfl, by decide, kl_L_34, x4_ENS, ⟨.astore 4, 15, 0, 16, 0, 17, 0, 1, rfl, Or.inr ⟨4, rfl, by decide⟩, rfl, by decide, rfl, rfl⟩⟩
    · subst e2
      exact ⟨[⟨0, 10, 13, 34⟩], ⟨0, 10, 17, 13⟩, [], rfl, List.forall_mem_cons.mpr ⟨⟨rfl, by decide, ENS, kl_L_34, x4_ENS, xn_EIO_ENS⟩, fun _ h => absurd h List.not_mem_nil⟩, rfl, by decide, kl_L_13, x4_EIO, ⟨.astore 4, 19, 0, 20, 0, 21, 0, 2, rfl, Or.inr ⟨4, rfl, by decide⟩, rfl, by decide, rfl, rfl⟩⟩
theorem w_session {x : Int32} {y : Int32} (h : RC S G) {f : Nat → Int64} (g184 : G.1 184 = some (OA f)) (hq : ∀ G' f', Kq G G' → RC (aSs S x.toInt y.toInt).2.2 G' → G'.1 184 = some (OA f') → ((aSs S x.toInt y.toInt).1 = 0 → f' 0 = (aSs S x.toInt y.toInt).2.1.toInt64) → Q (.inl (some (.int (nI (aSs S x.toInt y.toInt).1)))) G') : CH K 2 12 mL_session hL_session [.ref 0, .int x, .int y, .ref 184] G Q := by
  refine CH_of okL_session (Nat.le_of_ble_eq_true rfl) ?_
  refine VH_aload_n rfl (by first | rfl | assumption) ?_
  refine VH_iconst (v := nI 0) rfl (by decide) ?_
  refine VH_aload_n rfl (by first | rfl | assumption) ?_
  refine VH_iload_n rfl (by first | rfl | assumption) ?_
  refine VH_iload_n rfl (by first | rfl | assumption) ?_
  obtain ⟨tp, sp, g0⟩ := h.sw
  refine VH_callV (M' := mX11_session) (mc := 2) (ms := 12) (bc' := 0) (bs' := 0) rfl cw_L_62 iv_X11_session g0 rfl rfl (Nat.le_of_ble_eq_true rfl) ⟨Nat.le_of_ble_eq_true rfl, Nat.le_of_ble_eq_true rfl⟩ ⟨Nat.le_of_ble_eq_true rfl, Nat.le_of_ble_eq_true rfl⟩ (As := [.int x, .int y]) (c_session (Q := fun o G' => Kp G G' ∧ RC (aSs S x.toInt y.toInt).2.2 G' ∧ o = oI [ENS, EIO, EIS] (aSs S x.toInt y.toInt).1 (aSs S x.toInt y.toInt).2.1) h (fun G' a b => ⟨a, b, rfl⟩)) (fun r G' hr => ?_) (fun E G' hr => ?_)
  · obtain ⟨a, b, e⟩ := hr
    obtain ⟨e1, e2⟩ := oI_l e
    subst e2
    refine VH_i2l rfl ?_
    refine VH_lastJ rfl ((a 184 (by decide)).trans g184) rfl (by decide) (by decide) ?_
    refine VH_goto rfl ?_
    refine VH_iconst (v := nI (aSs S x.toInt y.toInt).1) rfl (by rw [e1]; decide) ?_
    exact VH_iret rfl rfl (hq _ _ (fun j h1 h2 => (hup_ne h2).trans (a j h1)) (b.fp (fun j hj => hup_ne (by omega))) hup_eq (fun _ => rfl))
  · obtain ⟨a, b, e⟩ := hr
    obtain ⟨e1, e2⟩ := oI_r e
    refine ⟨nI (aSs S x.toInt y.toInt).1, ?_, hq G' f (fun j h1 _ => a j h1) b ((a 184 (by decide)).trans g184) (fun z => absurd z e1)⟩
    have hc := cd_session (S := S) (a := x.toInt) (b := y.toInt)
    generalize (aSs S x.toInt y.toInt).1 = k at e1 e2 hc ⊢
    rcases (show k = 1 ∨ k = 2 ∨ k = 3 by omega) with rfl | rfl | rfl
    · subst e2
      exact ⟨[], ⟨0, 10, 13, 34⟩, [⟨0, 10, 17, 13⟩, ⟨0, 10, 21, 36⟩], rfl, fun _ h => absurd h List.not_mem_nil, rfl, by decide, kl_L_34, x4_ENS, ⟨.astore 4, 15, 0, 16, 0, 17, 0, 1, rfl, Or.inr ⟨4, rfl, by decide⟩, rfl, by decide, rfl, rfl⟩⟩
    · subst e2
      exact ⟨[⟨0, 10, 13, 34⟩], ⟨0, 10, 17, 13⟩, [⟨0, 10, 21, 36⟩], rfl, List.forall_mem_cons.mpr ⟨⟨rfl, by decide, ENS, kl_L_34, x4_ENS, xn_EIO_ENS⟩, fun _ h => absurd h List.not_mem_nil⟩, rfl, by decide, kl_L_13, x4_EIO, ⟨.astore 4, 19, 0, 20, 0, 21, 0, 2, rfl, Or.inr ⟨4, rfl, by decide⟩, rfl, by decide, rfl, rfl⟩⟩
    · subst e2
      exact ⟨[⟨0, 10, 13, 34⟩, ⟨0, 10, 17, 13⟩], ⟨0, 10, 21, 36⟩, [], rfl, List.forall_mem_cons.mpr ⟨⟨rfl, by decide, ENS, kl_L_34, x4_ENS, xn_EIS_ENS⟩, List.forall_mem_cons.mpr ⟨⟨rfl, by decide, EIO, kl_L_13, x4_EIO, xn_EIS_EIO⟩, fun _ h => absurd h List.not_mem_nil⟩⟩, rfl, by decide, kl_L_36, x4_EIS, ⟨.astore 4, 23, 0, 24, 0, 25, 0, 3, rfl, Or.inr ⟨4, rfl, by decide⟩, rfl, by decide, rfl, rfl⟩⟩
end LWrap
