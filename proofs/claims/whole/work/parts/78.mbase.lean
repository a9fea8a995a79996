/-! the reference: its object and rows; bytes -/
def bB (x : Nat) : Int32 := (nI x).toInt8.toInt32
def lw (x : Int32) : Nat := x.toBitVec.toNat % 256
abbrev YA (N : Nat) (f : Nat → Nat) : kE := .inl (1, N, .inl (fun j => bB (f j)))
abbrev ZA (N : Nat) (f : Nat → Bool) : kE := .inl (3, N, .inl (fun j => bI (f j)))
abbrev MO (th ta os hs ps rs : Int32) : kE := .inr (11, [.int th, .int ta, .ref 141, .int os, .ref 142, .ref 143, .ref 144, .ref 145, .ref 146, .ref 147, .ref 148, .int hs, .ref 149, .ref 150, .ref 151, .ref 152, .ref 153, .ref 154, .ref 155, .ref 156, .ref 157, .ref 158, .ref 159, .ref 160, .ref 161, .ref 162, .ref 163, .ref 164, .ref 165, .ref 166, .ref 167, .ref 168, .ref 169, .ref 170, .ref 171, .ref 172, .ref 173, .ref 174, .ref 175, .ref 176, .ref 177, .ref 178, .int ps, .ref 179, .int rs, .ref 180, .ref 181, .ref 182, .ref 183])
theorem lw_lt (x : Int32) : lw x < 256 := Nat.mod_lt _ (by decide)
theorem bB_bv (x : Nat) : (bB x).toBitVec = (BitVec.ofNat 8 x).signExtend 32 := by
  show ((BitVec.ofNat 32 x).signExtend 8).signExtend 32 = _
  congr 1
  rw [BitVec.signExtend_eq_setWidth_of_le _ (by decide)]
  apply BitVec.eq_of_toNat_eq
  simp only [BitVec.toNat_setWidth, BitVec.toNat_ofNat]
  omega
theorem bB_mod (x : Nat) : bB x = bB (x % 256) := by
  apply Int32.toBitVec_inj.mp
  rw [bB_bv, bB_bv]
  congr 1
  apply BitVec.eq_of_toNat_eq
  simp only [BitVec.toNat_ofNat]
  omega
theorem bB_any (x : Int32) : x.toInt8.toInt32 = bB (lw x) := by
  unfold lw
  rw [← bB_mod]
  unfold bB
  rw [← nI_self]
theorem bB_c1 : ∀ x, x < 256 → lw (bB x) = x ∧ bB x &&& 255 = nI x := by decide +kernel
theorem bB_c2 : ∀ x, x < 256 → ∀ k, k < 8 → (bB x >>> (nI k &&& 31)) &&& 1 = nI (x / 2 ^ k % 2) := by decide +kernel
theorem bB_c3 : ∀ x, x < 256 → bB x <<< (nI 24 &&& 31) = nI (x * 2 ^ 24) := by decide +kernel
theorem lw_B (x : Nat) : lw (bB x) = x % 256 := by rw [bB_mod, (bB_c1 _ (Nat.mod_lt _ (by decide))).1]
theorem lw_N (x : Nat) : lw (nI x) = x % 256 := by
  unfold lw
  rw [nI_tn]
  exact Nat.mod_mod_of_dvd _ (by decide)
theorem lw_8 (x : Int32) : lw x.toInt8.toInt32 = lw x := by rw [bB_any, lw_B]; exact Nat.mod_mod _ _
theorem lw_xor (x y : Int32) : lw (x ^^^ y) = lw x ^^^ lw y := by
  unfold lw
  show (x.toBitVec ^^^ y.toBitVec).toNat % _ = _
  rw [BitVec.toNat_xor]
  exact Nat.xor_mod_two_pow (n := 8)
theorem lw_or (x y : Int32) : lw (x ||| y) = lw x ||| lw y := by
  unfold lw
  show (x.toBitVec ||| y.toBitVec).toNat % _ = _
  rw [BitVec.toNat_or]
  exact Nat.or_mod_two_pow (n := 8)
theorem bB_inj {a b : Nat} (ha : a < 256) (hb : b < 256) : bB a = bB b ↔ a = b :=
  ⟨fun h => by have := congrArg lw h; rw [lw_B, lw_B] at this; omega, fun h => by rw [h]⟩
theorem bB_z {a : Nat} (ha : a < 256) : bB a = 0 ↔ a = 0 := bB_inj (b := 0) ha (by decide)
/-- a stretch of a row is written over -/
def ovw (o : Nat → Nat) (a n : Nat) (g : Nat → Nat) : Nat → Nat := fun j => if a ≤ j ∧ j < a + n then g (j - a) else o j
theorem ovw_0 {o g : Nat → Nat} {a : Nat} : ovw o a 0 g = o := by
  funext j
  unfold ovw
  rw [if_neg (by omega)]
theorem ovw_s {o g : Nat → Nat} {a i : Nat} : updN (ovw o a i g) (a + i) (g i) = ovw o a (i + 1) g := by
  funext j
  simp only [ovw, updN]
  by_cases h : j = a + i
  · rw [if_pos h, if_pos (by omega), h]
    congr 1
    omega
  · rw [if_neg h]
    by_cases h2 : a ≤ j ∧ j < a + i
    · rw [if_pos h2, if_pos (by omega)]
    · rw [if_neg h2, if_neg (by omega)]
theorem ovw_s' {o g : Nat → Nat} {a i x : Nat} (h : x = g i) : updN (ovw o a i g) (a + i) x = ovw o a (i + 1) g := by rw [h, ovw_s]
theorem ovw_in {o g : Nat → Nat} {a n k : Nat} (h : k < n) : ovw o a n g (a + k) = g k := by
  unfold ovw
  rw [if_pos (by omega)]
  congr 1
  omega
theorem ovw_at {o g : Nat → Nat} {a n j : Nat} (h1 : a ≤ j) (h2 : j < a + n) : ovw o a n g j = g (j - a) := if_pos ⟨h1, h2⟩
theorem ovw_out {o g : Nat → Nat} {a n j : Nat} (h : j < a ∨ a + n ≤ j) : ovw o a n g j = o j := if_neg (by omega)
theorem ovw_lt {o g : Nat → Nat} {a n c : Nat} (h1 : ∀ j, o j < c) (h2 : ∀ j, j < n → g j < c) : ∀ j, ovw o a n g j < c := fun j => by
  unfold ovw
  split
  · exact h2 _ (by omega)
  · exact h1 j
theorem ovw_congr {o g g' : Nat → Nat} {a n : Nat} (h : ∀ j, j < n → g j = g' j) : ovw o a n g = ovw o a n g' := by
  funext j
  unfold ovw
  split
  · exact h _ (by omega)
  · rfl
section KM
variable {K : kK} {bc bs : Nat} {M : kM} {pc n t : Nat} {lc : kLo} {st : List Value} {G : kG} {Q : kO → kG → Prop}
theorem V_baldB {a N j : Nat} {f : Nat → Nat} {i : Int32} (h : kf M pc = some (.baload, n, t)) (ha : G.1 a = some (YA N f)) (hi : i = nI j) (hj : j < N) (hN : N < 2 ^ 31) (kk : V K bc bs M n lc (.int (bB (f j)) :: st) G Q) : V K bc bs M pc lc (.int i :: .ref a :: st) G Q := V_baldJ h ha hi hj hN kk
theorem V_bastM {a N j : Nat} {f : Nat → Nat} {i x : Int32} (h : kf M pc = some (.bastore, n, t)) (ha : G.1 a = some (YA N f)) (hi : i = nI j) (hj : j < N) (hN : N < 2 ^ 31) (kk : V K bc bs M n lc st (hup G a (YA N (updN f j (lw x)))) Q) : V K bc bs M pc lc (.int x :: .int i :: .ref a :: st) G Q := by
  refine V_bastJ h ha hi hj hN ?_
  rw [show upd (fun j => bB (f j)) j x.toInt8.toInt32 = fun k => bB (updN f j (lw x) k) from ?_]
  · exact kk
  · funext k
    by_cases e : k = j
    · subst e; rw [pk_us, updN_eq, bB_any]
    · rw [pk_un e, updN_ne e]
theorem V_bastN {a N j x : Nat} {f : Nat → Nat} {i : Int32} (h : kf M pc = some (.bastore, n, t)) (ha : G.1 a = some (YA N f)) (hi : i = nI j) (hj : j < N) (hN : N < 2 ^ 31) (kk : V K bc bs M n lc st (hup G a (YA N (updN f j (x % 256)))) Q) : V K bc bs M pc lc (.int (nI x) :: .int i :: .ref a :: st) G Q := by
  refine V_bastM h ha hi hj hN ?_
  rw [lw_N]; exact kk
theorem V_bastB {a N j x : Nat} {f : Nat → Nat} {i : Int32} (h : kf M pc = some (.bastore, n, t)) (ha : G.1 a = some (YA N f)) (hi : i = nI j) (hj : j < N) (hN : N < 2 ^ 31) (hx : x < 256) (kk : V K bc bs M n lc st (hup G a (YA N (updN f j x))) Q) : V K bc bs M pc lc (.int (bB x) :: .int i :: .ref a :: st) G Q := by
  refine V_bastM h ha hi hj hN ?_
  rw [lw_B, Nat.mod_eq_of_lt hx]; exact kk
theorem V_bandB {x : Nat} (h : kf M pc = some (.iand, n, t)) (hx : x < 256) (kk : V K bc bs M n lc (.int (nI x) :: st) G Q) : V K bc bs M pc lc (.int (nI 255) :: .int (bB x) :: st) G Q := by
  refine V_iand h ?_
  rw [show nI 255 = 255 from rfl, (bB_c1 x hx).2]; exact kk
theorem V_i2bN {x : Nat} (h : kf M pc = some (.i2b, n, t)) (kk : V K bc bs M n lc (.int (bB (x % 256)) :: st) G Q) : V K bc bs M pc lc (.int (nI x) :: st) G Q := by
  refine V_i2b h ?_
  rw [bB_any, lw_N]; exact kk
theorem V_zaldZ {a N j : Nat} {f : Nat → Bool} {i : Int32} (h : kf M pc = some (.baload, n, t)) (ha : G.1 a = some (ZA N f)) (hi : i = nI j) (hj : j < N) (hN : N < 2 ^ 31) (kk : V K bc bs M n lc (.int (bI (f j)) :: st) G Q) : V K bc bs M pc lc (.int i :: .ref a :: st) G Q := V_zaldJ h ha hi hj hN kk
theorem V_zastZ {a N j : Nat} {f : Nat → Bool} {i x : Int32} (c : Bool) (h : kf M pc = some (.bastore, n, t)) (ha : G.1 a = some (ZA N f)) (hx : x = bI c) (hi : i = nI j) (hj : j < N) (hN : N < 2 ^ 31) (kk : V K bc bs M n lc st (hup G a (ZA N (up f j c))) Q) : V K bc bs M pc lc (.int x :: .int i :: .ref a :: st) G Q := by
  refine V_zastJ h ha hi hj hN ?_
  rw [show upd (fun j => bI (f j)) j (x &&& 1) = fun k => bI (up f j c k) from ?_]
  · exact kk
  · funext k
    subst hx
    by_cases e : k = j
    · subst e; rw [pk_us, up_eq]; cases c <;> rfl
    · rw [pk_un e, up_ne e]
theorem V_pf_th {idx : Nat} {x th ta os hs ps rs : Int32} (h : kf M pc = some (.putfield idx, n, t)) (hf : kFt (mcn M) idx = some (11, 0)) (hcn : kcn (mcn M) = (my M).cls) (ha : G.1 140 = some (MO th ta os hs ps rs)) (kk : V K bc bs M n lc st (hup G 140 (MO x ta os hs ps rs)) Q) : V K bc bs M pc lc (.int x :: .ref 140 :: st) G Q :=
  V_putf h hf hcn rfl ha (Nat.le_of_ble_eq_true rfl) ⟨rfl, rfl⟩ kk
theorem V_pf_ta {idx : Nat} {x th ta os hs ps rs : Int32} (h : kf M pc = some (.putfield idx, n, t)) (hf : kFt (mcn M) idx = some (11, 1)) (hcn : kcn (mcn M) = (my M).cls) (ha : G.1 140 = some (MO th ta os hs ps rs)) (kk : V K bc bs M n lc st (hup G 140 (MO th x os hs ps rs)) Q) : V K bc bs M pc lc (.int x :: .ref 140 :: st) G Q :=
  V_putf h hf hcn rfl ha (Nat.le_of_ble_eq_true rfl) ⟨rfl, rfl⟩ kk
theorem V_pf_os {idx : Nat} {x th ta os hs ps rs : Int32} (h : kf M pc = some (.putfield idx, n, t)) (hf : kFt (mcn M) idx = some (11, 3)) (hcn : kcn (mcn M) = (my M).cls) (ha : G.1 140 = some (MO th ta os hs ps rs)) (kk : V K bc bs M n lc st (hup G 140 (MO th ta x hs ps rs)) Q) : V K bc bs M pc lc (.int x :: .ref 140 :: st) G Q :=
  V_putf h hf hcn rfl ha (Nat.le_of_ble_eq_true rfl) ⟨rfl, rfl⟩ kk
theorem V_pf_hs {idx : Nat} {x th ta os hs ps rs : Int32} (h : kf M pc = some (.putfield idx, n, t)) (hf : kFt (mcn M) idx = some (11, 11)) (hcn : kcn (mcn M) = (my M).cls) (ha : G.1 140 = some (MO th ta os hs ps rs)) (kk : V K bc bs M n lc st (hup G 140 (MO th ta os x ps rs)) Q) : V K bc bs M pc lc (.int x :: .ref 140 :: st) G Q :=
  V_putf h hf hcn rfl ha (Nat.le_of_ble_eq_true rfl) ⟨rfl, rfl⟩ kk
theorem V_pf_ps {idx : Nat} {x th ta os hs ps rs : Int32} (h : kf M pc = some (.putfield idx, n, t)) (hf : kFt (mcn M) idx = some (11, 42)) (hcn : kcn (mcn M) = (my M).cls) (ha : G.1 140 = some (MO th ta os hs ps rs)) (kk : V K bc bs M n lc st (hup G 140 (MO th ta os hs x rs)) Q) : V K bc bs M pc lc (.int x :: .ref 140 :: st) G Q :=
  V_putf h hf hcn rfl ha (Nat.le_of_ble_eq_true rfl) ⟨rfl, rfl⟩ kk
theorem V_pf_rs {idx : Nat} {x th ta os hs ps rs : Int32} (h : kf M pc = some (.putfield idx, n, t)) (hf : kFt (mcn M) idx = some (11, 44)) (hcn : kcn (mcn M) = (my M).cls) (ha : G.1 140 = some (MO th ta os hs ps rs)) (kk : V K bc bs M n lc st (hup G 140 (MO th ta os hs ps x)) Q) : V K bc bs M pc lc (.int x :: .ref 140 :: st) G Q :=
  V_putf h hf hcn rfl ha (Nat.le_of_ble_eq_true rfl) ⟨rfl, rfl⟩ kk
end KM
