/-! rows of the heap -/
/-- class names by their number -/
def kcn : Nat → String
  | 0 => RX0
  | 1 => RX1
  | 2 => RX2
  | 3 => RX3
  | 4 => RX4
  | 5 => RX5
  | 6 => RX6
  | 7 => RX7
  | 8 => RX8
  | 9 => RX9
  | 10 => RX10
  | 11 => RX11
  | 12 => RX12
  | 99 => RL
  | 107 => RJ7
  | 109 => RJ9
  | 110 => RJ10
  | _ => ""
/-- fields: class number, place in its pool, class of the object, field, place of the word -/
def kFl : List (Nat × Nat × Nat × Nat × Nat) := [(0, 11, 0, 0, 120), (0, 15, 0, 1, 121), (0, 19, 0, 2, 122), (0, 22, 0, 3, 123), (0, 25, 0, 4, 124), (0, 28, 0, 5, 125), (0, 31, 0, 6, 126), (0, 34, 0, 7, 127), (0, 37, 0, 8, 128), (0, 40, 0, 9, 129), (0, 43, 0, 10, 130), (0, 46, 0, 11, 131), (6, 7, 5, 0, 171), (7, 57, 5, 0, 172), (11, 105, 5, 0, 173), (3, 60, 5, 0, 174), (7, 34, 5, 1, 175), (6, 13, 5, 1, 176), (11, 98, 5, 1, 177), (3, 35, 5, 1, 178), (3, 7, 3, 0, 184), (3, 13, 3, 1, 185), (3, 21, 3, 2, 186), (8, 9, 7, 0, 206), (7, 76, 7, 0, 207), (11, 142, 7, 0, 208), (8, 13, 7, 1, 209), (8, 16, 7, 2, 210), (9, 9, 8, 0, 224), (7, 80, 8, 0, 225), (11, 155, 8, 0, 226), (9, 13, 8, 1, 227), (9, 16, 8, 2, 228), (9, 20, 8, 3, 229), (9, 23, 8, 4, 230), (7, 12, 6, 0, 244), (11, 129, 6, 0, 245), (7, 21, 6, 1, 246), (11, 146, 6, 1, 247), (7, 30, 6, 2, 248), (10, 11, 9, 0, 273), (10, 22, 9, 1, 274), (10, 26, 9, 2, 275), (11, 199, 9, 2, 276), (4, 9, 4, 0, 290), (7, 93, 4, 0, 291), (11, 345, 4, 0, 292), (4, 15, 4, 1, 293), (7, 69, 4, 1, 294), (11, 354, 4, 1, 295), (7, 38, 4, 2, 296), (4, 24, 4, 2, 297), (11, 357, 4, 2, 298), (2, 9, 2, 0, 314), (11, 311, 2, 0, 315), (2, 15, 2, 1, 316), (11, 314, 2, 1, 317), (2, 18, 2, 2, 318), (11, 323, 2, 2, 319), (2, 21, 2, 3, 320), (11, 320, 2, 3, 321), (2, 27, 2, 4, 322), (1, 62, 2, 4, 323), (11, 360, 2, 4, 324), (2, 31, 2, 5, 325), (11, 172, 2, 5, 326), (2, 35, 2, 6, 327), (11, 223, 2, 6, 328), (2, 38, 2, 7, 329), (11, 302, 2, 7, 330), (2, 41, 2, 8, 331), (11, 305, 2, 8, 332), (2, 44, 2, 9, 333), (11, 248, 2, 9, 334), (1, 9, 1, 0, 356), (11, 235, 1, 0, 357), (1, 15, 1, 1, 358), (11, 238, 1, 1, 359), (1, 18, 1, 2, 360), (11, 232, 1, 2, 361), (1, 26, 1, 3, 362), (11, 211, 1, 3, 363), (1, 33, 1, 4, 364), (11, 195, 1, 4, 365), (1, 40, 1, 5, 366), (11, 251, 1, 5, 367), (1, 44, 1, 6, 368), (11, 268, 1, 6, 369), (1, 50, 1, 7, 370), (11, 168, 1, 7, 371), (1, 54, 1, 8, 372), (11, 164, 1, 8, 373), (11, 229, 1, 9, 374), (11, 214, 1, 10, 375), (11, 217, 1, 11, 376), (1, 72, 1, 12, 377), (11, 220, 1, 12, 378), (1, 58, 1, 13, 379), (11, 226, 1, 13, 380), (11, 10, 10, 0, 412), (11, 19, 10, 1, 413), (11, 26, 10, 2, 414), (11, 33, 10, 3, 415), (11, 37, 10, 4, 416), (11, 40, 10, 5, 417), (11, 44, 10, 6, 418), (11, 47, 10, 7, 419), (11, 50, 10, 8, 420), (11, 53, 10, 9, 421), (11, 56, 10, 10, 422), (11, 64, 10, 11, 423), (11, 68, 10, 12, 424), (11, 71, 10, 13, 425), (11, 74, 10, 14, 426), (11, 77, 10, 15, 427), (12, 146, 11, 0, 1024), (12, 257, 11, 1, 1025), (12, 7, 11, 2, 1026), (12, 260, 11, 3, 1027), (12, 13, 11, 4, 1028), (12, 16, 11, 5, 1029), (12, 20, 11, 6, 1030), (12, 23, 11, 7, 1031), (12, 27, 11, 8, 1032), (12, 30, 11, 9, 1033), (12, 33, 11, 10, 1034), (12, 204, 11, 11, 1035), (12, 36, 11, 12, 1036), (12, 39, 11, 13, 1037), (12, 42, 11, 14, 1038), (12, 45, 11, 15, 1039), (12, 48, 11, 16, 1040), (12, 51, 11, 17, 1041), (12, 54, 11, 18, 1042), (12, 57, 11, 19, 1043), (12, 60, 11, 20, 1044), (12, 63, 11, 21, 1045), (12, 66, 11, 22, 1046), (12, 69, 11, 23, 1047), (12, 72, 11, 24, 1048), (12, 75, 11, 25, 1049), (12, 79, 11, 26, 1050), (12, 82, 11, 27, 1051), (12, 85, 11, 28, 1052), (12, 88, 11, 29, 1053), (12, 91, 11, 30, 1054), (12, 94, 11, 31, 1055), (12, 97, 11, 32, 1056), (12, 100, 11, 33, 1057), (12, 103, 11, 34, 1058), (12, 106, 11, 35, 1059), (12, 109, 11, 36, 1060), (12, 112, 11, 37, 1061), (12, 115, 11, 38, 1062), (12, 118, 11, 39, 1063), (12, 121, 11, 40, 1064), (12, 124, 11, 41, 1065), (12, 292, 11, 42, 1066), (12, 127, 11, 43, 1067), (12, 321, 11, 44, 1068), (12, 130, 11, 45, 1069), (12, 133, 11, 46, 1070), (12, 136, 11, 47, 1071), (12, 139, 11, 48, 1072)]
def kFt (cn idx : Nat) : Option (Nat × Nat) := (kFl.find? (fun q => Nat.beq q.1 cn && Nat.beq q.2.1 idx)).map (fun q => (q.2.2.1, q.2.2.2.1))
def kFc (q : Nat × Nat × Nat × Nat × Nat) : Bool := match vwCl[q.2.2.1]? with
  | some (_, T, N) => decide (q.2.2.2.1 < N) && decide (lw_tbl[q.2.2.2.2]? = some (Cond.fieldLink (kcn q.1) q.2.1 (T q.2.2.2.1).1 (T q.2.2.2.1).2.1 (T q.2.2.2.1).2.2.1))
  | none => false
theorem kFl_ok : kFl.all kFc = true := by decide +kernel
theorem kU_of {w : Cond} {i : Nat} (h : lw_tbl[i]? = some w) (hg : goodWord w = true) : w ∈ kU := List.mem_filter.mpr ⟨List.mem_of_getElem? h, hg⟩
theorem kFt_ok {cn idx ci k : Nat} (h : kFt cn idx = some (ci, k)) : ∃ C T N, vwCl[ci]? = some (C, T, N) ∧ k < N ∧ Cond.fieldLink (kcn cn) idx (T k).1 (T k).2.1 (T k).2.2.1 ∈ kU := by
  unfold kFt at h
  obtain ⟨q, hq, he⟩ := Option.map_eq_some_iff.mp h
  have hm := List.mem_of_find?_eq_some hq
  have hp := List.find?_some hq
  have h1 := List.all_eq_true.mp kFl_ok q hm
  obtain ⟨q1, q2, q3, q4, q5⟩ := q
  cases he
  simp only [Bool.and_eq_true] at hp
  have e1 : q1 = cn := Nat.eq_of_beq_eq_true hp.1
  have e2 : q2 = idx := Nat.eq_of_beq_eq_true hp.2
  subst e1; subst e2
  unfold kFc at h1
  simp only at h1
  split at h1
  · rename_i C T N hv
    simp only [Bool.and_eq_true, decide_eq_true_eq] at h1
    exact ⟨C, T, N, hv, h1.1, kU_of h1.2 rfl⟩
  · cases h1
theorem kwsX0 : ∀ w ∈ u_ws RX0 TX0 12, w ∈ kU := fun w hw => by
  have hg := goodIn_r (big := lw_tbl) (u_ws RX0 TX0 12) [132, 134, 136, 138, 140, 142, 144, 146, 148, 150, 152, 154] (by decide +kernel) (by decide +kernel) w hw
  refine List.mem_filter.mpr ⟨hg.1, ?_⟩
  have ha : (u_ws RX0 TX0 12).all goodWord = true := by decide +kernel
  exact List.all_eq_true.mp ha w hw
theorem kwsX1 : ∀ w ∈ u_ws RX1 TX1 14, w ∈ kU := fun w hw => by
  have hg := goodIn_r (big := lw_tbl) (u_ws RX1 TX1 14) [381, 383, 385, 387, 389, 391, 393, 395, 397, 399, 401, 403, 405, 407] (by decide +kernel) (by decide +kernel) w hw
  refine List.mem_filter.mpr ⟨hg.1, ?_⟩
  have ha : (u_ws RX1 TX1 14).all goodWord = true := by decide +kernel
  exact List.all_eq_true.mp ha w hw
theorem kwsX2 : ∀ w ∈ u_ws RX2 TX2 10, w ∈ kU := fun w hw => by
  have hg := goodIn_r (big := lw_tbl) (u_ws RX2 TX2 10) [335, 337, 339, 341, 343, 345, 347, 349, 351, 353] (by decide +kernel) (by decide +kernel) w hw
  refine List.mem_filter.mpr ⟨hg.1, ?_⟩
  have ha : (u_ws RX2 TX2 10).all goodWord = true := by decide +kernel
  exact List.all_eq_true.mp ha w hw
theorem kwsX3 : ∀ w ∈ u_ws RX3 TX3 3, w ∈ kU := fun w hw => by
  have hg := goodIn_r (big := lw_tbl) (u_ws RX3 TX3 3) [187, 189, 191] (by decide +kernel) (by decide +kernel) w hw
  refine List.mem_filter.mpr ⟨hg.1, ?_⟩
  have ha : (u_ws RX3 TX3 3).all goodWord = true := by decide +kernel
  exact List.all_eq_true.mp ha w hw
theorem kwsX4 : ∀ w ∈ u_ws RX4 TX4 3, w ∈ kU := fun w hw => by
  have hg := goodIn_r (big := lw_tbl) (u_ws RX4 TX4 3) [299, 301, 303] (by decide +kernel) (by decide +kernel) w hw
  refine List.mem_filter.mpr ⟨hg.1, ?_⟩
  have ha : (u_ws RX4 TX4 3).all goodWord = true := by decide +kernel
  exact List.all_eq_true.mp ha w hw
theorem kwsX6 : ∀ w ∈ u_ws RX6 TX6 2, w ∈ kU := fun w hw => by
  have hg := goodIn_r (big := lw_tbl) (u_ws RX6 TX6 2) [179, 181] (by decide +kernel) (by decide +kernel) w hw
  refine List.mem_filter.mpr ⟨hg.1, ?_⟩
  have ha : (u_ws RX6 TX6 2).all goodWord = true := by decide +kernel
  exact List.all_eq_true.mp ha w hw
theorem kwsX7 : ∀ w ∈ u_ws RX7 TX7 3, w ∈ kU := fun w hw => by
  have hg := goodIn_r (big := lw_tbl) (u_ws RX7 TX7 3) [249, 251, 253] (by decide +kernel) (by decide +kernel) w hw
  refine List.mem_filter.mpr ⟨hg.1, ?_⟩
  have ha : (u_ws RX7 TX7 3).all goodWord = true := by decide +kernel
  exact List.all_eq_true.mp ha w hw
theorem kwsX8 : ∀ w ∈ u_ws RX8 TX8 3, w ∈ kU := fun w hw => by
  have hg := goodIn_r (big := lw_tbl) (u_ws RX8 TX8 3) [211, 213, 215] (by decide +kernel) (by decide +kernel) w hw
  refine List.mem_filter.mpr ⟨hg.1, ?_⟩
  have ha : (u_ws RX8 TX8 3).all goodWord = true := by decide +kernel
  exact List.all_eq_true.mp ha w hw
theorem kwsX9 : ∀ w ∈ u_ws RX9 TX9 5, w ∈ kU := fun w hw => by
  have hg := goodIn_r (big := lw_tbl) (u_ws RX9 TX9 5) [231, 233, 235, 237, 239] (by decide +kernel) (by decide +kernel) w hw
  refine List.mem_filter.mpr ⟨hg.1, ?_⟩
  have ha : (u_ws RX9 TX9 5).all goodWord = true := by decide +kernel
  exact List.all_eq_true.mp ha w hw
theorem kwsX10 : ∀ w ∈ u_ws RX10 TX10 3, w ∈ kU := fun w hw => by
  have hg := goodIn_r (big := lw_tbl) (u_ws RX10 TX10 3) [277, 279, 281] (by decide +kernel) (by decide +kernel) w hw
  refine List.mem_filter.mpr ⟨hg.1, ?_⟩
  have ha : (u_ws RX10 TX10 3).all goodWord = true := by decide +kernel
  exact List.all_eq_true.mp ha w hw
theorem kwsX11 : ∀ w ∈ u_ws RX11 TX11 16, w ∈ kU := fun w hw => by
  have hg := goodIn_r (big := lw_tbl) (u_ws RX11 TX11 16) [428, 430, 432, 434, 436, 438, 440, 442, 444, 446, 448, 450, 452, 454, 456, 458] (by decide +kernel) (by decide +kernel) w hw
  refine List.mem_filter.mpr ⟨hg.1, ?_⟩
  have ha : (u_ws RX11 TX11 16).all goodWord = true := by decide +kernel
  exact List.all_eq_true.mp ha w hw
theorem kwsX12 : ∀ w ∈ u_ws RX12 TX12 49, w ∈ kU := fun w hw => by
  have hg := goodIn_r (big := lw_tbl) (u_ws RX12 TX12 49) [1073, 1075, 1077, 1079, 1081, 1083, 1085, 1087, 1089, 1091, 1093, 1095, 1097, 1099, 1101, 1103, 1105, 1107, 1109, 1111, 1113, 1115, 1117, 1119, 1121, 1123, 1125, 1127, 1129, 1131, 1133, 1135, 1137, 1139, 1141, 1143, 1145, 1147, 1149, 1151, 1153, 1155, 1157, 1159, 1161, 1163, 1165, 1167, 1169] (by decide +kernel) (by decide +kernel) w hw
  refine List.mem_filter.mpr ⟨hg.1, ?_⟩
  have ha : (u_ws RX12 TX12 49).all goodWord = true := by decide +kernel
  exact List.all_eq_true.mp ha w hw
def kfty : Nat → Nat → FieldType
  | 0 => tyX0
  | 1 => tyX1
  | 2 => tyX2
  | 3 => tyX3
  | 4 => tyX4
  | 5 => tyX6
  | 6 => tyX7
  | 7 => tyX8
  | 8 => tyX9
  | 9 => tyX10
  | 10 => tyX11
  | 11 => tyX12
  | _ => fun _ => .int
theorem kcl_ok : ∀ (ci : Nat) (C : String) (T : u_T) (N : Nat), vwCl[ci]? = some (C, T, N) → (∀ w ∈ u_ws C T N, w ∈ kU) ∧ (∀ k, k < N → parseFieldDescriptor (T k).2.2.1 = some (kfty ci k)) ∧ (∀ a, a < N → ∀ b, b < N → a ≠ b → (T a).2.1 ≠ (T b).2.1)
  | 0, C, T, N, h => by cases h; exact ⟨kwsX0, tyX0_ok, nmX0⟩
  | 1, C, T, N, h => by cases h; exact ⟨kwsX1, tyX1_ok, nmX1⟩
  | 2, C, T, N, h => by cases h; exact ⟨kwsX2, tyX2_ok, nmX2⟩
  | 3, C, T, N, h => by cases h; exact ⟨kwsX3, tyX3_ok, nmX3⟩
  | 4, C, T, N, h => by cases h; exact ⟨kwsX4, tyX4_ok, nmX4⟩
  | 5, C, T, N, h => by cases h; exact ⟨kwsX6, tyX6_ok, nmX6⟩
  | 6, C, T, N, h => by cases h; exact ⟨kwsX7, tyX7_ok, nmX7⟩
  | 7, C, T, N, h => by cases h; exact ⟨kwsX8, tyX8_ok, nmX8⟩
  | 8, C, T, N, h => by cases h; exact ⟨kwsX9, tyX9_ok, nmX9⟩
  | 9, C, T, N, h => by cases h; exact ⟨kwsX10, tyX10_ok, nmX10⟩
  | 10, C, T, N, h => by cases h; exact ⟨kwsX11, tyX11_ok, nmX11⟩
  | 11, C, T, N, h => by cases h; exact ⟨kwsX12, tyX12_ok, nmX12⟩
  | ci + 12, C, T, N, h => by simp [vwCl] at h
/-- final or not -/
def kfin (ci k : Nat) : Bool := match vwCl[ci]? with
  | some q => (q.2.1 k).2.2.2
  | none => false
theorem narrow_ref (ty : FieldType) (a : Nat) : narrow ty (.ref a) = .ref a := by cases ty <;> rfl
section KH
variable {K : kK} {bc bs bc' bs' : Nat} {M M' : kM} {pc n t : Nat} {lc : kLo} {st : List Value} {G : kG} {Q Q' : kO → kG → Prop}
theorem V_getf {idx ci k a : Nat} {fs : List Value} {v : Value} (h : kf M pc = some (.getfield idx, n, t)) (hf : kFt (mcn M) idx = some (ci, k)) (hcn : kcn (mcn M) = (my M).cls) (ha : G.1 a = some (.inr (ci, fs))) (hv : fs[k]? = some v) (kk : V K bc bs M n lc (v :: st) G Q) : V K bc bs M pc lc (.ref a :: st) G Q := by
  intro hM p e R s m args below meth c H locs cells slots ls hC hB hS hH hL
  obtain ⟨hd, hn, -⟩ := hM.dec h rfl
  subst hn
  obtain ⟨C, T, N, hc, hk, hl⟩ := kFt_ok hf
  rw [hcn] at hl
  refine va_get hC.1 hC.2.1 (ws := [(kad K a, kshE K (.inr (ci, fs)))]) hC.2.2.2.2.2.2.2.2.1 (kcl_ok ci C T N hc).1 hC.2.2.2.2.2.2.1 hC.2.2.2.2.2.2.2.2.2.2.1 (fun k q hq => ?_) 0 rfl hc k hk (hC.2.2.2.2.2.2.2.2.1 _ hl) (fun x hx => hx) (v := ksh K v) (by rw [List.getElem?_map, hv]; rfl) hd
    (kk hM p e R s m args below meth c H locs cells slots ls hC hB hS hH hL)
  match k, hq with
  | 0, hq => cases hq; exact (hH.1 a _ ha).2
theorem kput_at {ci k a : Nat} {fs : List Value} {v : Value} {H1 : Heap} (h : va_P (kD K) vwCl ([(kad K a, kshE K (.inr (ci, fs)))].set 0 (kad K a, .inr (ci, (fs.map (ksh K)).set k (ksh K v)))) H1) : va_at (kD K) vwCl (kad K a, kshE K (.inr (ci, fs.set k v))) H1 := by
  have := h 0 _ rfl
  simpa [kshE, List.map_set] using this
theorem V_putf {idx ci k a : Nat} {fs : List Value} {v : Value} (h : kf M pc = some (.putfield idx, n, t)) (hf : kFt (mcn M) idx = some (ci, k)) (hcn : kcn (mcn M) = (my M).cls) (hfi : kfin ci k = false) (ha : G.1 a = some (.inr (ci, fs))) (hkl : k < fs.length) (hv : narrow (kfty ci k) (ksh K v) = ksh K v ∧ fits (kfty ci k) (ksh K v) = true) (kk : V K bc bs M n lc st (hup G a (.inr (ci, fs.set k v))) Q) : V K bc bs M pc lc (v :: .ref a :: st) G Q := by
  intro hM p e R s m args below meth c H locs cells slots ls hC hB hS hH hL
  obtain ⟨hd, hn, -⟩ := hM.dec h rfl
  subst hn
  obtain ⟨C, T, N, hc, hk, hl⟩ := kFt_ok hf
  rw [hcn] at hl
  obtain ⟨q1, q2, q3⟩ := kcl_ok ci C T N hc
  have hfin : (T k).2.2.2 = false := by unfold kfin at hfi; rw [hc] at hfi; exact hfi
  have hts := hC.2.2.2.2.2.2.2.2.1
  have hown := hC.2.2.2.2.2.2.1
  have hK : va_K (kD K) vwCl (ktys K) s := hC.2.2.2.2.2.2.2.2.2.2.1
  have hap := va_apart (own := (my M).cls) hts q1 (kfty ci) q2 q3 hK hc
  obtain ⟨r, h1, cell, g1, g2, g3, g4⟩ := (hH.1 a _ ha).2
  have hr : r = (C, T, N) := Option.some.inj (h1.symm.trans hc)
  subst hr
  obtain ⟨hSl, hfc, kC, hkC, hkind⟩ := hK.1 ci _ hc
  obtain ⟨cf, kf, fi, f, hi, hsl⟩ := hSl k hk
  have hlay := hts _ (q1 _ (u_in_lay hk))
  unfold u_lay at hlay
  rw [if_neg (by rw [hfin]; decide)] at hlay
  have hst := (u_facts hfc hkC (u_lays hts q1 hk) hi).1
  have h6 := u_store hfc hkC hkind hlay hi (q2 k hk) hv.1 hv.2
  refine W.putK hC.1 hC.2.1 (f := f) ⟨hown, hts _ hl, ⟨_, _, _, hi⟩, hst⟩ (by rw [g2]; exact h6) g1 g3 (by rw [hsl]; exact k2_hasslot (g4 k hk)) rfl rfl hd fun H' e1 e2 e3 => ?_
  rw [hsl] at e1 ⊢
  refine kk hM p e R s m args below meth c H' _ cells slots ls hC hB (hS.put e2 e3 (show kb K ≤ kad K a by rw [kad_lt (hH.1 a _ ha).1]; omega)) (hH.set ha ?_ e2 e3) hL
  refine ⟨_, hc, t_OB.to (V := updV (vp_V (fs.map (ksh K))) k (ksh K v)) ⟨_, e1, g2, g3, t_set g4 hap hk (ksh K v)⟩ (fun j _ => ?_)⟩
  rw [vp_updV_set (by simpa using hkl) (ksh K v) j]
  simp only [List.map_set]
theorem V_putF {idx ci k a : Nat} {fs : List Value} {v : Value} (h : kf M pc = some (.putfield idx, n, t)) (hf : kFt (mcn M) idx = some (ci, k)) (hcn : kcn (mcn M) = (my M).cls) (hfi : kfin ci k = true) (hini : (my M).name = "<init>") (hdecl : (vwCl[ci]?).map (fun q => (q.2.1 k).1) = some (my M).cls) (ha : G.1 a = some (.inr (ci, fs))) (hkl : k < fs.length) (hv : narrow (kfty ci k) (ksh K v) = ksh K v ∧ fits (kfty ci k) (ksh K v) = true) (kk : V K bc bs M n lc st (hup G a (.inr (ci, fs.set k v))) Q) : V K bc bs M pc lc (v :: .ref a :: st) G Q := by
  intro hM p e R s m args below meth c H locs cells slots ls hC hB hS hH hL
  obtain ⟨hd, hn, -⟩ := hM.dec h rfl
  subst hn
  obtain ⟨C, T, N, hc, hk, hl⟩ := kFt_ok hf
  rw [hcn] at hl
  obtain ⟨q1, q2, q3⟩ := kcl_ok ci C T N hc
  have hfin : (T k).2.2.2 = true := by unfold kfin at hfi; rw [hc] at hfi; exact hfi
  have hdec : (T k).1 = (my M).cls := by rw [hc] at hdecl; exact Option.some.inj hdecl
  have hts := hC.2.2.2.2.2.2.2.2.1
  have hown := hC.2.2.2.2.2.2.1
  have hK : va_K (kD K) vwCl (ktys K) s := hC.2.2.2.2.2.2.2.2.2.2.1
  have hap := va_apart (own := (my M).cls) hts q1 (kfty ci) q2 q3 hK hc
  obtain ⟨r, h1, cell, g1, g2, g3, g4⟩ := (hH.1 a _ ha).2
  have hr : r = (C, T, N) := Option.some.inj (h1.symm.trans hc)
  subst hr
  obtain ⟨hSl, hfc, kC, hkC, hkind⟩ := hK.1 ci _ hc
  obtain ⟨cf, kf, fi, f, hi, hsl⟩ := hSl k hk
  have hlay := hts _ (q1 _ (u_in_lay hk))
  unfold u_lay at hlay
  rw [if_pos hfin] at hlay
  have hst := (u_facts hfc hkC (u_lays hts q1 hk) hi).1
  have hcf : m.cls = cf := by
    obtain ⟨_, _, c', _, _, _, -, -, hf', -, -, -, hown2, -⟩ := Cond.laysFinal_spec hlay
    have e1 : c' = cf := by have := hi.symm.trans hf'; simp at this; exact this.1.symm
    simp only [hdec] at hown2
    rw [← e1]; exact Option.some.inj (hown.symm.trans hown2)
  have h6 := u_fits hfc hkC hkind (Or.inr hlay) hi (q2 k hk) hv.1 hv.2
  refine W.putFinK hC.1 hC.2.1 hown (hts _ hl) hi hst hcf (hC.2.2.2.2.2.1 hini) (by rw [g2]; exact h6) g1 g3 (by rw [hsl]; exact k2_hasslot (g4 k hk)) rfl rfl hd fun H' e1 e2 e3 => ?_
  rw [hsl] at e1 ⊢
  refine kk hM p e R s m args below meth c H' _ cells slots ls hC hB (hS.put e2 e3 (show kb K ≤ kad K a by rw [kad_lt (hH.1 a _ ha).1]; omega)) (hH.set ha ?_ e2 e3) hL
  refine ⟨_, hc, t_OB.to (V := updV (vp_V (fs.map (ksh K))) k (ksh K v)) ⟨_, e1, g2, g3, t_set g4 hap hk (ksh K v)⟩ (fun j _ => ?_)⟩
  rw [vp_updV_set (by simpa using hkl) (ksh K v) j]
  simp only [List.map_set]
theorem V_iald {a N : Nat} {f : Nat → Int32} {i : Int32} (h : kf M pc = some (.iaload, n, t)) (ha : G.1 a = some (.inl (0, N, .inl f))) (hi : vp_in i N) (kk : V K bc bs M n lc (.int (f i.toNatClampNeg) :: st) G Q) : V K bc bs M pc lc (.int i :: .ref a :: st) G Q := by
  intro hM p e R s m args below meth c H locs cells slots ls hC hB hS hH hL
  obtain ⟨hd, hn, -⟩ := hM.dec h rfl
  subst hn
  refine va_iald hC.1 hC.2.1 hC.2.2.2.2.2.2.2.2.2.2.1 (ws := [(kad K a, kshE K (.inl (0, N, .inl f)))]) (fun k q hq => ?_) 0 0 rfl rfl hi hd (kk hM p e R s m args below meth c H locs cells slots ls hC hB hS hH hL)
  match k, hq with
  | 0, hq => cases hq; exact (hH.1 a _ ha).2
theorem V_bald {a N : Nat} {f : Nat → Int32} {i : Int32} (h : kf M pc = some (.baload, n, t)) (ha : G.1 a = some (.inl (1, N, .inl f))) (hi : vp_in i N) (kk : V K bc bs M n lc (.int (f i.toNatClampNeg) :: st) G Q) : V K bc bs M pc lc (.int i :: .ref a :: st) G Q := by
  intro hM p e R s m args below meth c H locs cells slots ls hC hB hS hH hL
  obtain ⟨hd, hn, -⟩ := hM.dec h rfl
  subst hn
  refine va_bald hC.1 hC.2.1 hC.2.2.2.2.2.2.2.2.2.2.1 (ws := [(kad K a, kshE K (.inl (1, N, .inl f)))]) (fun k q hq => ?_) 0 1 rfl rfl hi hd (kk hM p e R s m args below meth c H locs cells slots ls hC hB hS hH hL)
  match k, hq with
  | 0, hq => cases hq; exact (hH.1 a _ ha).2
theorem V_zald {a N : Nat} {f : Nat → Int32} {i : Int32} (h : kf M pc = some (.baload, n, t)) (ha : G.1 a = some (.inl (3, N, .inl f))) (hi : vp_in i N) (kk : V K bc bs M n lc (.int (f i.toNatClampNeg) :: st) G Q) : V K bc bs M pc lc (.int i :: .ref a :: st) G Q := by
  intro hM p e R s m args below meth c H locs cells slots ls hC hB hS hH hL
  obtain ⟨hd, hn, -⟩ := hM.dec h rfl
  subst hn
  refine va_zald hC.1 hC.2.1 hC.2.2.2.2.2.2.2.2.2.2.1 (ws := [(kad K a, kshE K (.inl (3, N, .inl f)))]) (fun k q hq => ?_) 0 3 rfl rfl hi hd (kk hM p e R s m args below meth c H locs cells slots ls hC hB hS hH hL)
  match k, hq with
  | 0, hq => cases hq; exact (hH.1 a _ ha).2
theorem V_lald {a N : Nat} {f : Nat → Int64} {i : Int32} (h : kf M pc = some (.laload, n, t)) (ha : G.1 a = some (.inl (2, N, .inr (.inl f)))) (hi : vp_in i N) (kk : V K bc bs M n lc (.long (f i.toNatClampNeg) :: st) G Q) : V K bc bs M pc lc (.int i :: .ref a :: st) G Q := by
  intro hM p e R s m args below meth c H locs cells slots ls hC hB hS hH hL
  obtain ⟨hd, hn, -⟩ := hM.dec h rfl
  subst hn
  refine va_lald hC.1 hC.2.1 hC.2.2.2.2.2.2.2.2.2.2.1 (ws := [(kad K a, kshE K (.inl (2, N, .inr (.inl f))))]) (fun k q hq => ?_) 0 2 rfl rfl hi hd (kk hM p e R s m args below meth c H locs cells slots ls hC hB hS hH hL)
  match k, hq with
  | 0, hq => cases hq; exact (hH.1 a _ ha).2
theorem V_iast {a N : Nat} {f : Nat → Int32} {i : Int32} {x : Int32} (h : kf M pc = some (.iastore, n, t)) (ha : G.1 a = some (.inl (0, N, .inl f))) (hi : vp_in i N) (kk : V K bc bs M n lc st (hup G a (.inl (0, N, .inl (upd f i.toNatClampNeg x)))) Q) : V K bc bs M pc lc (.int x :: .int i :: .ref a :: st) G Q := by
  intro hM p e R s m args below meth c H locs cells slots ls hC hB hS hH hL
  obtain ⟨hd, hn, -⟩ := hM.dec h rfl
  subst hn
  have hK : va_K (kD K) vwCl (ktys K) s := hC.2.2.2.2.2.2.2.2.2.2.1
  have hcell : H[kad K a]? = some (vp_cell (ktc K 0) (N, .inl f)) := (hH.1 a _ ha).2
  refine W.iast hC.1 hC.2.1 hcell ((hK.2 0 _ rfl).1 N (fun j => .int (f j))) (fun q => by cases q) (by show ¬ (i < 0 ∨ (arrV _ _ _).slots.size ≤ _); rw [arrV_size]; exact hi) rfl rfl hd fun H1 e1 z oq => ?_
  refine kk hM p e R s m args below meth c H1 _ cells slots ls hC hB (hS.put z oq (show kb K ≤ kad K a by rw [kad_lt (hH.1 a _ ha).1]; omega)) (hH.set ha ?_ z oq) hL
  show H1[kad K a]? = some (vp_cell _ _)
  rw [e1]
  rw [vp_cell_i, vp_cell_i, arrV_store]
  congr 2
  funext q
  by_cases hq : q = i.toNatClampNeg
  · subst hq
    simp [updV, upd]
  · simp [updV, upd, hq]
theorem V_bast {a N : Nat} {f : Nat → Int32} {i : Int32} {x : Int32} (h : kf M pc = some (.bastore, n, t)) (ha : G.1 a = some (.inl (1, N, .inl f))) (hi : vp_in i N) (kk : V K bc bs M n lc st (hup G a (.inl (1, N, .inl (upd f i.toNatClampNeg x.toInt8.toInt32)))) Q) : V K bc bs M pc lc (.int x :: .int i :: .ref a :: st) G Q := by
  intro hM p e R s m args below meth c H locs cells slots ls hC hB hS hH hL
  obtain ⟨hd, hn, -⟩ := hM.dec h rfl
  subst hn
  have hK : va_K (kD K) vwCl (ktys K) s := hC.2.2.2.2.2.2.2.2.2.2.1
  have hcell : H[kad K a]? = some (vp_cell (ktc K 1) (N, .inl f)) := (hH.1 a _ ha).2
  refine W.bast hC.1 hC.2.1 hcell ((hK.2 1 _ rfl).1 N (fun j => .int (f j))) (fun q => by cases q) (by show ¬ (i < 0 ∨ (arrV _ _ _).slots.size ≤ _); rw [arrV_size]; exact hi) rfl rfl hd fun H1 e1 z oq => ?_
  refine kk hM p e R s m args below meth c H1 _ cells slots ls hC hB (hS.put z oq (show kb K ≤ kad K a by rw [kad_lt (hH.1 a _ ha).1]; omega)) (hH.set ha ?_ z oq) hL
  show H1[kad K a]? = some (vp_cell _ _)
  rw [e1]
  rw [vp_cell_i, vp_cell_i, arrV_store]
  congr 2
  funext q
  by_cases hq : q = i.toNatClampNeg
  · subst hq
    simp [updV, upd, narrow_byte]
  · simp [updV, upd, narrow_byte, hq]
theorem V_zast {a N : Nat} {f : Nat → Int32} {i : Int32} {x : Int32} (h : kf M pc = some (.bastore, n, t)) (ha : G.1 a = some (.inl (3, N, .inl f))) (hi : vp_in i N) (kk : V K bc bs M n lc st (hup G a (.inl (3, N, .inl (upd f i.toNatClampNeg (x &&& 1))))) Q) : V K bc bs M pc lc (.int x :: .int i :: .ref a :: st) G Q := by
  intro hM p e R s m args below meth c H locs cells slots ls hC hB hS hH hL
  obtain ⟨hd, hn, -⟩ := hM.dec h rfl
  subst hn
  have hK : va_K (kD K) vwCl (ktys K) s := hC.2.2.2.2.2.2.2.2.2.2.1
  have hcell : H[kad K a]? = some (vp_cell (ktc K 3) (N, .inl f)) := (hH.1 a _ ha).2
  refine W.zast hC.1 hC.2.1 hcell ((hK.2 3 _ rfl).1 N (fun j => .int (f j))) (fun q => by cases q) (by show ¬ (i < 0 ∨ (arrV _ _ _).slots.size ≤ _); rw [arrV_size]; exact hi) rfl rfl hd fun H1 e1 z oq => ?_
  refine kk hM p e R s m args below meth c H1 _ cells slots ls hC hB (hS.put z oq (show kb K ≤ kad K a by rw [kad_lt (hH.1 a _ ha).1]; omega)) (hH.set ha ?_ z oq) hL
  show H1[kad K a]? = some (vp_cell _ _)
  rw [e1]
  rw [vp_cell_i, vp_cell_i, arrV_store]
  congr 2
  funext q
  by_cases hq : q = i.toNatClampNeg
  · subst hq
    simp [updV, upd, narrow]
  · simp [updV, upd, narrow, hq]
theorem V_last {a N : Nat} {f : Nat → Int64} {i : Int32} {x : Int64} (h : kf M pc = some (.lastore, n, t)) (ha : G.1 a = some (.inl (2, N, .inr (.inl f)))) (hi : vp_in i N) (kk : V K bc bs M n lc st (hup G a (.inl (2, N, .inr (.inl (vp_updL f i.toNatClampNeg x))))) Q) : V K bc bs M pc lc (.long x :: .int i :: .ref a :: st) G Q := by
  intro hM p e R s m args below meth c H locs cells slots ls hC hB hS hH hL
  obtain ⟨hd, hn, -⟩ := hM.dec h rfl
  subst hn
  have hK : va_K (kD K) vwCl (ktys K) s := hC.2.2.2.2.2.2.2.2.2.2.1
  have hcell : H[kad K a]? = some (vp_cell (ktc K 2) (N, .inr (.inl f))) := (hH.1 a _ ha).2
  refine W.last hC.1 hC.2.1 hcell ((hK.2 2 _ rfl).1 N (fun j => .long (f j))) (fun q => by cases q) (by show ¬ (i < 0 ∨ (arrV _ _ _).slots.size ≤ _); rw [arrV_size]; exact hi) rfl rfl hd fun H1 e1 z oq => ?_
  refine kk hM p e R s m args below meth c H1 _ cells slots ls hC hB (hS.put z oq (show kb K ≤ kad K a by rw [kad_lt (hH.1 a _ ha).1]; omega)) (hH.set ha ?_ z oq) hL
  show H1[kad K a]? = some (vp_cell _ _)
  rw [e1]
  rw [vp_cell_l, vp_cell_l, arrV_store]
  congr 2
  funext q
  by_cases hq : q = i.toNatClampNeg
  · subst hq
    simp [updV, vp_updL]
  · simp [updV, vp_updL, hq]
theorem V_aald {a N : Nat} {f : Nat → Option Nat} {i : Int32} {q : Nat} (h : kf M pc = some (.aaload, n, t)) (ha : G.1 a = some (.inl (4, N, .inr (.inr (.inr (.inr f)))))) (hi : vp_in i N) (hq : f i.toNatClampNeg = some q) (kk : V K bc bs M n lc (.ref q :: st) G Q) : V K bc bs M pc lc (.int i :: .ref a :: st) G Q := by
  intro hM p e R s m args below meth c H locs cells slots ls hC hB hS hH hL
  obtain ⟨hd, hn, -⟩ := hM.dec h rfl
  subst hn
  refine va_aldq hC.1 hC.2.1 hC.2.2.2.2.2.2.2.2.2.2.1 (ws := [(kad K a, kshE K (.inl (4, N, .inr (.inr (.inr (.inr f))))))]) (fun k q hq => ?_) 0 4 rfl rfl hi hd ?_
  · match k, hq with
    | 0, hq => cases hq; exact (hH.1 a _ ha).2
  · rw [hq]
    exact kk hM p e R s m args below meth c H locs cells slots ls hC hB hS hH hL
/-- rows that were there before -/
theorem V_isld {j L : Nat} {xs : Nat → Int32} {i : Int32} (h : kf M pc = some (.iaload, n, t)) (ha : kSX K j = some (L, xs)) (hi : vp_in i L) (kk : V K bc bs M n lc (.int (xs i.toNatClampNeg) :: st) G Q) : V K bc bs M pc lc (.int i :: .ref (1000000 + j) :: st) G Q := by
  intro hM p e R s m args below meth c H locs cells slots ls hC hB hS hH hL
  obtain ⟨hd, hn, -⟩ := hM.dec h rfl
  subst hn
  obtain ⟨w1, w2, w3, -, -, w7, -⟩ := hC.2.2.2.2.2.2.2.2.2
  obtain ⟨x1, x2⟩ := w3 j L xs ha
  have hq : ksh K (.ref (1000000 + j)) = .ref (ksd K j) := by simp [ksh, kad]; omega
  simp only [List.map_cons, hq]
  exact va_sld hC.1 hC.2.1 x2 (by omega) (Nat.not_le.mpr x1) hS hi hd (kk hM p e R s m args below meth c H locs cells slots ls hC hB hS hH hL)
theorem V_slen {j L : Nat} {xs : Nat → Int32} (h : kf M pc = some (.arraylength, n, t)) (ha : kSX K j = some (L, xs)) (kk : V K bc bs M n lc (.int (nI L) :: st) G Q) : V K bc bs M pc lc (.ref (1000000 + j) :: st) G Q := by
  intro hM p e R s m args below meth c H locs cells slots ls hC hB hS hH hL
  obtain ⟨hd, hn, -⟩ := hM.dec h rfl
  subst hn
  obtain ⟨w1, w2, w3, -, -, w7, -⟩ := hC.2.2.2.2.2.2.2.2.2
  obtain ⟨x1, x2⟩ := w3 j L xs ha
  have hq : ksh K (.ref (1000000 + j)) = .ref (ksd K j) := by simp [ksh, kad]; omega
  simp only [List.map_cons, hq]
  exact va_slen hC.1 hC.2.1 x2 (by omega) (Nat.not_le.mpr x1) hS hd (kk hM p e R s m args below meth c H locs cells slots ls hC hB hS hH hL)
theorem V_alen {a tg N : Nat} {x : (Nat → Int32) ⊕ (Nat → Int64) ⊕ (Nat → UInt32) ⊕ (Nat → UInt64) ⊕ (Nat → Option Nat)} (h : kf M pc = some (.arraylength, n, t)) (ha : G.1 a = some (.inl (tg, N, x))) (htg : tg < 5) (kk : V K bc bs M n lc (.int (nI N) :: st) G Q) : V K bc bs M pc lc (.ref a :: st) G Q := by
  intro hM p e R s m args below meth c H locs cells slots ls hC hB hS hH hL
  obtain ⟨hd, hn, -⟩ := hM.dec h rfl
  subst hn
  have ht : ∃ ty, (ktys K)[tg]? = some (ktc K tg, ty) := by
    match tg, htg with
    | 0, _ => exact ⟨_, rfl⟩
    | 1, _ => exact ⟨_, rfl⟩
    | 2, _ => exact ⟨_, rfl⟩
    | 3, _ => exact ⟨_, rfl⟩
    | 4, _ => exact ⟨_, rfl⟩
  obtain ⟨ty, ht⟩ := ht
  have hsh : ∃ x', kshE K (.inl (tg, N, x)) = .inl (ktc K tg, N, x') := by
    rcases x with f | f | f | f | f <;> exact ⟨_, rfl⟩
  obtain ⟨x', hsh⟩ := hsh
  refine va_alen hC.1 hC.2.1 hC.2.2.2.2.2.2.2.2.2.2.1 (ws := [(kad K a, kshE K (.inl (tg, N, x)))]) (fun k q hq => ?_) 0 tg (by rw [hsh]; rfl) ht (v := nI N) rfl hd (kk hM p e R s m args below meth c H locs cells slots ls hC hB hS hH hL)
  match k, hq with
  | 0, hq => cases hq; exact (hH.1 a _ ha).2
theorem V_gets {j : Nat} {idx : Nat} {C nm d : String} (h : kf M pc = some (.getstatic idx, n, t)) (hj : kst j = some (C, nm, d)) (hl : Cond.fieldLink (my M).cls idx C nm d ∈ kU) (kk : V K bc bs M n lc (.ref (1000000 + j) :: st) G Q) : V K bc bs M pc lc st G Q := by
  intro hM p e R s m args below meth c H locs cells slots ls hC hB hS hH hL
  obtain ⟨hd, hn, -⟩ := hM.dec h rfl
  subst hn
  have hq : ksh K (.ref (1000000 + j)) = .ref (ksd K j) := by simp [ksh, kad]; omega
  have k2 := kk hM p e R s m args below meth c H locs cells slots ls hC hB hS hH hL
  simp only [List.map_cons, hq] at k2
  exact va_gets hC.1 hC.2.1 (hC.2.2.2.2.2.2.2.2.2.2.2.2.1 j C nm d hj) hS hC.2.2.2.2.2.2.1 (hC.2.2.2.2.2.2.2.2.1 _ hl) (fun x hx => hx) hd k2
theorem V_ldc {idx : Nat} {v : Int32} (h : kf M pc = some (.ldc idx, n, t)) (hl : Cond.constant (my M).cls idx v ∈ kU) (kk : V K bc bs M n lc (.int v :: st) G Q) : V K bc bs M pc lc st G Q := by
  intro hM p e R s m args below meth c H locs cells slots ls hC hB hS hH hL
  obtain ⟨hd, hn, -⟩ := hM.dec h rfl
  subst hn
  exact lv_ldc hC.1 hC.2.1 hC.2.2.2.2.2.2.1 (hC.2.2.2.2.2.2.2.2.1 _ hl) hd (kk hM p e R s m args below meth c H locs cells slots ls hC hB hS hH hL)
theorem V_ldc2 {idx : Nat} {v : Int64} (h : kf M pc = some (.ldc2_w idx, n, t)) (hl : Cond.constantLong (my M).cls idx v ∈ kU) (kk : V K bc bs M n lc (.long v :: st) G Q) : V K bc bs M pc lc st G Q := by
  intro hM p e R s m args below meth c H locs cells slots ls hC hB hS hH hL
  obtain ⟨hd, hn, -⟩ := hM.dec h rfl
  subst hn
  exact lv_ldc2 hC.1 hC.2.1 hC.2.2.2.2.2.2.1 (hC.2.2.2.2.2.2.2.2.1 _ hl) hd (kk hM p e R s m args below meth c H locs cells slots ls hC hB hS hH hL)
end KH
