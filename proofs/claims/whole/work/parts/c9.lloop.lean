/-! the law's loop -/
section LLoop
variable {K : kK} {Q : kO → kG → Prop} {T : TB} {L : Nat} {xs : Nat → Int32}
theorem sub5 : ∀ L, L < 321 → (nI L - nI 5).toInt = (L : Int) - 5 := by decide +kernel
theorem nI_Z : ∀ n, n < 321 → (nI n).toInt = (n : Int) := by decide +kernel
set_option maxRecDepth 100000 in
theorem V_llast {G : kG} {bc bs : Nat} {lc : kLo} (hq : Q (.inl (some (.int 1))) G) : V K bc bs mL_law 962 lc [] G Q := by
  refine V_iconst (v := 1) rfl (by decide) ?_
  exact V_zret rfl rfl (Or.inr rfl) hq
set_option maxRecDepth 100000 in
theorem V_law (hT : tbl K T) (hqt : qtO T.2.2) (hx : kSX K 4 = some (L, xs)) (hL : L ≤ 320) (hq : ∀ G, Q (.inl (some (.int 1))) G) : ∀ (m t : Nat) (S : SG) (lc : kLo) (G : kG), t + m = 64 → 5 * t ≤ 320 → iv S (400 * t) → LI T S (5 * t) lc G → V K (3 * m) (18 * m) mL_law 23 lc [] G Q
  | 0, t, S, lc, G, hm, ht, hiv, h => by
    obtain ⟨l0, l1, l2, l3, l4⟩ := h.1
    refine V_iload rfl (by first | rfl | assumption) ?_
    refine V_aload_n rfl (by first | rfl | assumption) ?_
    refine V_slen (j := 4) rfl hx ?_
    refine V_iconst (v := nI 5) rfl (by decide) ?_
    refine V_isub rfl ?_
    refine V_icmp_gtZ rfl (nI_Z _ (by omega)) (sub5 L (by omega)) (fun _ => V_llast (hq G)) (fun z => absurd (by omega) z)
  | m + 1, t, S, lc, G, hm, ht, hiv, h => by
    obtain ⟨l0, l1, l2, l3, l4⟩ := h.1
    refine V_iload rfl (by first | rfl | assumption) ?_
    refine V_aload_n rfl (by first | rfl | assumption) ?_
    refine V_slen (j := 4) rfl hx ?_
    refine V_iconst (v := nI 5) rfl (by decide) ?_
    refine V_isub rfl ?_
    refine V_icmp_gtZ rfl (nI_Z _ (by omega)) (sub5 L (by omega)) (fun _ => V_llast (hq G)) (fun z => ?_)
    have hi : 5 * t + 5 ≤ L := by omega
    have hB : 400 * t < 2 ^ 20 := by omega
    have kn : ∀ (S' : SG) (G' : kG) (lc' : kLo), iv S' (400 * t + 400) → LI T S' (5 * t) lc' G' → V K (3 * m) (18 * m) mL_law 956 lc' [] G' Q := by
      intro S' G' lc' hiv' h'
      obtain ⟨⟨l0, l1, l2, l3, l4⟩, h2⟩ := h'
      refine V_iincN (d := 5) rfl (by first | rfl | assumption) (by decide) (by decide) ?_
      refine V_goto rfl ?_
      exact V_law hT hqt hx hL hq m (t + 1) S' _ G' (by omega) (by omega) (by rw [show 400 * (t + 1) = 400 * t + 400 by omega]; exact hiv') ⟨⟨l0, l1, l2, l3, by rw [show 5 * (t + 1) = 5 * t + 5 by omega]; rfl⟩, h2⟩
    rw [show 3 * (m + 1) = 3 * m + 3 by omega, show 18 * (m + 1) = 18 * m + 18 by omega]
    generalize 3 * m = bc at kn ⊢
    generalize 18 * m = bs at kn ⊢
    refine V_aload_n rfl (by first | rfl | assumption) ?_
    refine V_iload rfl (by first | rfl | assumption) ?_
    refine V_isldJ (j := 4) rfl hx rfl (by omega) (by omega) ?_
    refine V_bipush (v := nI 15) rfl (by decide) ?_
    rw [nI_self (xs (5 * t))]
    refine V_iandN 4 rfl (by decide) (by decide) ?_
    have hn : (xs (5 * t)).toBitVec.toNat % 2 ^ 4 < 16 := Nat.mod_lt _ (by decide)
    generalize (xs (5 * t)).toBitVec.toNat % 2 ^ 4 = n at hn ⊢
    rcases (show n = 0 ∨ n = 1 ∨ n = 2 ∨ n = 3 ∨ n = 4 ∨ n = 5 ∨ n = 6 ∨ n = 7 ∨ n = 8 ∨ n = 9 ∨ n = 10 ∨ n = 11 ∨ n = 12 ∨ n = 13 ∨ n = 14 ∨ n = 15 by omega) with rfl | rfl | rfl | rfl | rfl | rfl | rfl | rfl | rfl | rfl | rfl | rfl | rfl | rfl | rfl | rfl
    · refine V_tableIn (g := 116) rfl (by decide) (by decide) rfl rfl ?_
      exact L_type hx hi hL h (fun G' lc' h' => kn _ G' lc' (iv_Ty hiv) h')
    · refine V_tableIn (g := 185) rfl (by decide) (by decide) rfl rfl ?_
      exact L_set hx hi hL h (fun G' lc' h' => kn _ G' lc' (iv_St hiv) h')
    · refine V_tableIn (g := 221) rfl (by decide) (by decide) rfl rfl ?_
      exact L_multiply hx hi hL h (fun G' lc' h' => kn _ G' lc' (iv_Mu hiv) h')
    · refine V_tableIn (g := 245) rfl (by decide) (by decide) rfl rfl ?_
      exact L_hash hT hx hi hL h (fun G' lc' h' => kn _ G' lc' (iv_Ha hiv) h')
    · refine V_tableIn (g := 256) rfl (by decide) (by decide) rfl rfl ?_
      exact L_stream hqt hT hx hi hL h (fun G' lc' h' => kn _ G' lc' (iv_Sr hiv) h')
    · refine V_tableIn (g := 336) rfl (by decide) (by decide) rfl rfl ?_
      exact L_tag hx hi hL h (fun G' lc' h' => kn _ G' lc' (iv_Tg hiv) h')
    · refine V_tableIn (g := 360) rfl (by decide) (by decide) rfl rfl ?_
      exact L_out hx hi hL h (fun G' lc' h' => kn _ G' lc' (iv_Ou hiv) h')
    · refine V_tableIn (g := 416) rfl (by decide) (by decide) rfl rfl ?_
      exact L_begin hqt hT hx hi hL h hiv.2 hB (fun G' lc' h' => kn _ G' lc' (iv_Bg hiv) h')
    · refine V_tableIn (g := 452) rfl (by decide) (by decide) rfl rfl ?_
      exact L_send hqt hT hx hi hL h hiv.2 hB (fun G' lc' h' => kn _ G' lc' (iv_Sd hiv) h')
    · refine V_tableIn (g := 488) rfl (by decide) (by decide) rfl rfl ?_
      exact L_come hqt hT hx hi hL h hiv.2 hB hiv.1 (fun G' lc' h' => kn _ G' lc' (iv_Cm hiv) h')
    · refine V_tableIn (g := 544) rfl (by decide) (by decide) rfl rfl ?_
      exact L_run hqt hT hx hi hL h hiv.2 hB hiv.1 (fun G' lc' h' => kn _ G' lc' (iv_Rn hiv) h')
    · refine V_tableIn (g := 600) rfl (by decide) (by decide) rfl rfl ?_
      exact L_packet hx hi hL h (fun G' lc' h' => kn _ G' lc' (iv_Pk hiv) h')
    · refine V_tableIn (g := 680) rfl (by decide) (by decide) rfl rfl ?_
      exact L_damage hx hi hL h (fun G' lc' h' => kn _ G' lc' (iv_Dm hiv) h')
    · refine V_tableIn (g := 752) rfl (by decide) (by decide) rfl rfl ?_
      exact L_got hx hi hL h (fun G' lc' h' => kn _ G' lc' (iv_Gt hiv) h')
    · refine V_tableIn (g := 820) rfl (by decide) (by decide) rfl rfl ?_
      exact L_about hx hi hL h (fun G' lc' h' => kn _ G' lc' (iv_Ab hiv) h')
    · refine V_tableIn (g := 888) rfl (by decide) (by decide) rfl rfl ?_
      exact L_session hx hi hL h (fun G' lc' h' => kn _ G' lc' (iv_Ss hiv) h')
end LLoop
/-! the law's beginning -/
section LBegin
variable {K : kK} {Q : kO → kG → Prop} {T : TB} {L : Nat} {xs : Nat → Int32}
def kG0 : kG := (fun _ => none, some 0)
set_option maxRecDepth 100000 in
theorem V_begin {lc : kLo} {r2 r3 : Nat → Nat} (h2 : ∀ n, rtF n 2 37 0 = r2 n) (h3 : ∀ n, rtF n 3 37 0 = r3 n) (hT1 : ∀ j, j < 8 → nI (r2 (gD p64 j)) = T.1 j) (hT2 : ∀ j, j < 64 → nI (r3 (gD p64 j)) = T.2.1 j) (hT : tbl K T) (hqt : qtO T.2.2) (hx : kSX K 4 = some (L, xs)) (hL : L ≤ 320) (hq : ∀ G, Q (.inl (some (.int 1))) G) (l0 : lc 0 = some (.ref (1000000 + 4))) : V K 377 28579 mL_law 0 lc [] kG0 Q := by
  refine V_new (ci := 10) (bc' := 376) (bs' := 28563) (fs := [.null, .null, .null, .null, .null, .null, .null, .null, .null, .null, .null, .null, .null, .null, .null, .null]) rfl rfl ⟨kl_L_8, kn_X11⟩ rfl (G := kG0) (nx := 0) rfl (by decide) ⟨Nat.le_of_ble_eq_true rfl, Nat.le_of_ble_eq_true rfl⟩ ?_
  refine V_dup rfl rfl ?_
  refine V_callI (M' := mX11_init) (mc := 139) (ms := 13444) (bc' := 237) (bs' := 15119) rfl cw_L_65 ii_X11_init rfl (Nat.le_of_ble_eq_true rfl) ⟨Nat.le_of_ble_eq_true rfl, Nat.le_of_ble_eq_true rfl⟩ ⟨Nat.le_of_ble_eq_true rfl, Nat.le_of_ble_eq_true rfl⟩ (As := []) (c_new11 (b := 0) (Q := fun o G' => o = .inl none ∧ G'.2 = some 140 ∧ HL G' 0 (L11 0)) rfl rfl (by decide) (fun G' a b c => ⟨rfl, a, c⟩)) (fun E G' h => by cases h.1) (fun o G1 h => ?_)
  obtain ⟨h0, n1, hl⟩ := h
  cases h0
  have hC := RC1 (RC0 hl)
  clear hl
  refine V_astore_n rfl (by decide) ?_
  refine V_new (ci := 11) (bc' := 236) (bs' := 15070) (fs := [.int 0, .int 0, .null, .int 0, .null, .null, .null, .null, .null, .null, .null, .int 0, .null, .null, .null, .null, .null, .null, .null, .null, .null, .null, .null, .null, .null, .null, .null, .null, .null, .null, .null, .null, .null, .null, .null, .null, .null, .null, .null, .null, .null, .null, .int 0, .null, .int 0, .null, .null, .null, .null]) rfl rfl ⟨kl_L_66, kn_X12⟩ rfl (nx := 140) n1 (by decide) ⟨Nat.le_of_ble_eq_true rfl, Nat.le_of_ble_eq_true rfl⟩ ?_
  refine V_dup rfl rfl ?_
  refine V_callI (M' := mX12_init) (mc := 43) (ms := 13917) (bc' := 193) (bs' := 1153) rfl cw_L_68 ii_X12_init rfl (Nat.le_of_ble_eq_true rfl) ⟨Nat.le_of_ble_eq_true rfl, Nat.le_of_ble_eq_true rfl⟩ ⟨Nat.le_of_ble_eq_true rfl, Nat.le_of_ble_eq_true rfl⟩ (As := []) (c_newM (T := T) (Q := fun o G' => o = .inl none ∧ G'.2 = some 184 ∧ (∀ j, j < 140 → G'.1 j = (if j = 140 then some (.inr (11, [.int 0, .int 0, .null, .int 0, .null, .null, .null, .null, .null, .null, .null, .int 0, .null, .null, .null, .null, .null, .null, .null, .null, .null, .null, .null, .null, .null, .null, .null, .null, .null, .null, .null, .null, .null, .null, .null, .null, .null, .null, .null, .null, .null, .null, .int 0, .null, .int 0, .null, .null, .null, .null])) else G1.1 j)) ∧ RMA T sg1 0 G') h2 h3 hT1 hT2 rfl rfl (fun G' a b c => ⟨rfl, a, b, c⟩)) (fun E G' h => by cases h.1) (fun o G2 h => ?_)
  obtain ⟨h0, n2, k2, hR⟩ := h
  cases h0
  have hC2 : RC sg1 G2 := hC.fp (fun j hj => (k2 j hj).trans (if_neg (by omega)))
  refine V_astore_n rfl (by decide) ?_
  refine V_iconst (v := nI 1) rfl (by decide) ?_
  refine V_nwL (nx := 184) (bc' := 192) (bs' := 1152) rfl (by decide) n2 (by decide) ⟨Nat.le_of_ble_eq_true rfl, Nat.le_of_ble_eq_true rfl⟩ ?_
  refine V_astore_n rfl (by decide) ?_
  refine V_iconst (v := nI 0) rfl (by decide) ?_
  refine V_istore rfl (by decide) ?_
  exact V_law hT hqt hx hL hq 64 0 sg1 _ _ rfl (by decide) iv_0 ⟨⟨l0, rfl, rfl, rfl, rfl⟩, hC2.fp (fun j hj => hnw_ne (by omega)), ⟨0, hR.fp (fun j a b => hnw_ne (by omega))⟩, _, hnw_eq⟩
end LBegin
