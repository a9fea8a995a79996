/-! the rows of ints and longs that are natural numbers -/
section KN
variable {K : kK} {bc bs : Nat} {M : kM} {pc n t : Nat} {lc : kLo} {st : List Value} {G : kG} {Q : kO → kG → Prop}
theorem V_iaddN {x y : Nat} (h : kf M pc = some (.iadd, n, t)) (kk : V K bc bs M n lc (.int (nI (x + y)) :: st) G Q) : V K bc bs M pc lc (.int (nI y) :: .int (nI x) :: st) G Q := by
  refine V_iadd h ?_
  rw [nI_add]; exact kk
theorem V_imulN {x y : Nat} (h : kf M pc = some (.imul, n, t)) (kk : V K bc bs M n lc (.int (nI (x * y)) :: st) G Q) : V K bc bs M pc lc (.int (nI y) :: .int (nI x) :: st) G Q := by
  refine V_imul h ?_
  rw [pk_mul]; exact kk
theorem V_isubN {x y : Nat} (h : kf M pc = some (.isub, n, t)) (hle : y ≤ x) (kk : V K bc bs M n lc (.int (nI (x - y)) :: st) G Q) : V K bc bs M pc lc (.int (nI y) :: .int (nI x) :: st) G Q := by
  refine V_isub h ?_
  rw [pk_sub hle]; exact kk
theorem V_idivN {x y : Nat} (h : kf M pc = some (.idiv, n, t)) (hx : x < 2 ^ 31) (h0 : 0 < y) (hy : y < 2 ^ 31) (kk : V K bc bs M n lc (.int (nI (x / y)) :: st) G Q) : V K bc bs M pc lc (.int (nI y) :: .int (nI x) :: st) G Q := by
  refine V_idiv h (nI_ne0 h0 hy) ?_
  rw [pk_div hx h0 hy]; exact kk
theorem V_iremN {x y : Nat} (h : kf M pc = some (.irem, n, t)) (hx : x < 2 ^ 31) (h0 : 0 < y) (hy : y < 2 ^ 31) (kk : V K bc bs M n lc (.int (nI (x % y)) :: st) G Q) : V K bc bs M pc lc (.int (nI y) :: .int (nI x) :: st) G Q := by
  refine V_irem h (nI_ne0 h0 hy) ?_
  rw [pk_rem hx h0 hy]; exact kk
theorem nI_mod (m : Nat) : nI m = nI (m % 2 ^ 32) := Int32.toBitVec_inj.mp (by
  show BitVec.ofNat 32 m = BitVec.ofNat 32 _
  apply BitVec.eq_of_toNat_eq
  rw [BitVec.toNat_ofNat, BitVec.toNat_ofNat, Nat.mod_mod])
theorem nI_tn (m : Nat) : (nI m).toBitVec.toNat = m % 2 ^ 32 := by
  show (BitVec.ofNat 32 m).toNat = _
  rw [BitVec.toNat_ofNat]
theorem nI_self (x : Int32) : x = nI x.toBitVec.toNat := Int32.toBitVec_inj.mp (by show _ = BitVec.ofNat 32 _; simp)
theorem nI_inj32 {a b : Nat} (h : a % 2 ^ 32 = b % 2 ^ 32) : nI a = nI b := by rw [nI_mod a, nI_mod b, h]
theorem amt32 : ∀ k, k < 32 → ((nI k &&& 31).toBitVec.smod 32).toNat = k := by decide +kernel
theorem amt32u : ∀ k, k < 32 → (((nI k).toUInt32 &&& Int32.toUInt32 31).toBitVec % 32).toNat = k := by decide +kernel
theorem nI_shl (m : Nat) {k : Nat} (hk : k < 32) : nI m <<< (nI k &&& 31) = nI (m * 2 ^ k) := by
  rw [nI_self (nI m <<< (nI k &&& 31)), pk_shl _ _ k (amt32 k hk), nI_tn]
  apply nI_inj32
  rw [Nat.mod_mod, Nat.mod_mul_mod]
theorem V_ishlN {x k : Nat} (h : kf M pc = some (.ishl, n, t)) (hk : k < 32) (kk : V K bc bs M n lc (.int (nI (x * 2 ^ k)) :: st) G Q) : V K bc bs M pc lc (.int (nI k) :: .int (nI x) :: st) G Q := by
  refine V_ishl h ?_
  rw [nI_shl x hk]; exact kk
theorem V_ishrN {x k : Nat} (h : kf M pc = some (.ishr, n, t)) (hx : x < 2 ^ 31) (hk : k < 32) (kk : V K bc bs M n lc (.int (nI (x / 2 ^ k)) :: st) G Q) : V K bc bs M pc lc (.int (nI k) :: .int (nI x) :: st) G Q := by
  refine V_ishr h ?_
  rw [pk_shrN hx _ k (amt32 k hk)]; exact kk
theorem V_iushrN {x k : Nat} (h : kf M pc = some (.iushr, n, t)) (hx : x < 2 ^ 32) (hk : k < 32) (kk : V K bc bs M n lc (.int (nI (x / 2 ^ k)) :: st) G Q) : V K bc bs M pc lc (.int (nI k) :: .int (nI x) :: st) G Q := by
  refine V_iushr h ?_
  rw [pk_ushrN hx _ k (amt32u k hk)]; exact kk
theorem nI_mask (x k : Nat) (hk : k ≤ 32) : nI x &&& nI (2 ^ k - 1) = nI (x % 2 ^ k) := by
  have hp : 2 ^ k ≤ 2 ^ 32 := Nat.pow_le_pow_right (by decide) hk
  have hp0 : 0 < 2 ^ k := Nat.two_pow_pos k
  rw [pk_and (nI x) k (by rw [nI_tn]; exact Nat.mod_eq_of_lt (by omega)), nI_tn]
  congr 1
  exact Nat.mod_mod_of_dvd _ (Nat.pow_dvd_pow 2 hk)
theorem V_iandN {x m : Nat} (k : Nat) (h : kf M pc = some (.iand, n, t)) (hm : 2 ^ k - 1 = m) (hk : k ≤ 32) (kk : V K bc bs M n lc (.int (nI (x % 2 ^ k)) :: st) G Q) : V K bc bs M pc lc (.int (nI m) :: .int (nI x) :: st) G Q := by
  subst hm
  refine V_iand h ?_
  rw [nI_mask x k hk]; exact kk
theorem nI_or {a b k : Nat} (ha : a < 2 ^ k) (hk : k < 32) : nI (b * 2 ^ k) ||| nI a = nI (b * 2 ^ k + a) := by
  have hp : 2 ^ 32 = 2 ^ k * 2 ^ (32 - k) := wb_pw (by omega)
  have hlt : 2 ^ k < 2 ^ 32 := wb_lt2 hk
  rw [nI_mod (b * 2 ^ k), Nat.mul_comm b, hp, Nat.mul_mod_mul_left]
  apply Int32.toBitVec_inj.mp
  show BitVec.ofNat 32 _ ||| BitVec.ofNat 32 _ = BitVec.ofNat 32 _
  apply BitVec.eq_of_toNat_eq
  have h2 : b % 2 ^ (32 - k) < 2 ^ (32 - k) := Nat.mod_lt _ (Nat.two_pow_pos _)
  have h3 : 2 ^ k * (b % 2 ^ (32 - k)) + a < 2 ^ 32 := by
    rw [hp]
    calc 2 ^ k * (b % 2 ^ (32 - k)) + a < 2 ^ k * (b % 2 ^ (32 - k)) + 2 ^ k := by omega
      _ = 2 ^ k * (b % 2 ^ (32 - k) + 1) := by rw [Nat.mul_add, Nat.mul_one]
      _ ≤ 2 ^ k * 2 ^ (32 - k) := Nat.mul_le_mul_left _ h2
  rw [BitVec.toNat_or, BitVec.toNat_ofNat, BitVec.toNat_ofNat, BitVec.toNat_ofNat, Nat.mod_eq_of_lt (a := a) (by omega), Nat.mod_eq_of_lt (a := 2 ^ k * (b % 2 ^ (32 - k))) (by omega), ← Nat.two_pow_add_eq_or_of_lt ha]
  conv => rhs; rw [Nat.add_mod, hp, Nat.mul_mod_mul_left, ← hp, ← Nat.add_mod_mod]
  rw [Nat.mod_mod, Nat.mod_eq_of_lt (a := a) (by omega), Nat.mod_eq_of_lt h3]
theorem V_iorN {x y : Nat} (k : Nat) (h : kf M pc = some (.ior, n, t)) (hy : y < 2 ^ k) (hk : k < 32) (kk : V K bc bs M n lc (.int (nI (x * 2 ^ k + y)) :: st) G Q) : V K bc bs M pc lc (.int (nI y) :: .int (nI (x * 2 ^ k)) :: st) G Q := by
  refine V_ior h ?_
  rw [nI_or hy hk]; exact kk
theorem V_iorM {x y : Nat} (k : Nat) (h : kf M pc = some (.ior, n, t)) (hy : y < 2 ^ k) (hk : k < 32) (kk : V K bc bs M n lc (.int (nI (y + x * 2 ^ k)) :: st) G Q) : V K bc bs M pc lc (.int (nI (x * 2 ^ k)) :: .int (nI y) :: st) G Q := by
  refine V_ior h ?_
  rw [Int32.or_comm, nI_or hy hk, Nat.add_comm]; exact kk
theorem V_iincN {j x : Nat} {z : Int} {d : Nat} (h : kf M pc = some (.iinc j z, n, t)) (hx : lc j = some (.int (nI x))) (hz : Int32.ofInt z = nI d) (hj : j < mxl M) (kk : V K bc bs M n (ls1 lc j (.int (nI (x + d)))) st G Q) : V K bc bs M pc lc st G Q :=
  V_iinc h hx (by rw [hz, nI_add]) hj kk
theorem V_icmp_eqN {x y : Nat} {o : Int} (h : kf M pc = some (.if_icmp .eq o, n, t)) (hx : x < 2 ^ 31) (hy : y < 2 ^ 31) (k : x = y → V K bc bs M t lc st G Q) (k2 : ¬ x = y → V K bc bs M n lc st G Q) : V K bc bs M pc lc (.int (nI y) :: .int (nI x) :: st) G Q :=
  V_icmp_eq h (fun q => k ((nI_eq hx hy).mp q)) (fun q => k2 (fun e => q ((nI_eq hx hy).mpr e)))
theorem V_icmp_neN {x y : Nat} {o : Int} (h : kf M pc = some (.if_icmp .ne o, n, t)) (hx : x < 2 ^ 31) (hy : y < 2 ^ 31) (k : ¬ x = y → V K bc bs M t lc st G Q) (k2 : x = y → V K bc bs M n lc st G Q) : V K bc bs M pc lc (.int (nI y) :: .int (nI x) :: st) G Q :=
  V_icmp_ne h (fun q => k (fun e => q ((nI_eq hx hy).mpr e))) (fun q => k2 ((nI_eq hx hy).mp q))
theorem V_icmp_ltN {x y : Nat} {o : Int} (h : kf M pc = some (.if_icmp .lt o, n, t)) (hx : x < 2 ^ 31) (hy : y < 2 ^ 31) (k : x < y → V K bc bs M t lc st G Q) (k2 : ¬ x < y → V K bc bs M n lc st G Q) : V K bc bs M pc lc (.int (nI y) :: .int (nI x) :: st) G Q :=
  V_icmp_lt h (fun q => k ((nI_ltI hx hy).mp q)) (fun q => k2 (fun e => q ((nI_ltI hx hy).mpr e)))
theorem V_icmp_geN {x y : Nat} {o : Int} (h : kf M pc = some (.if_icmp .ge o, n, t)) (hx : x < 2 ^ 31) (hy : y < 2 ^ 31) (k : y ≤ x → V K bc bs M t lc st G Q) (k2 : ¬ y ≤ x → V K bc bs M n lc st G Q) : V K bc bs M pc lc (.int (nI y) :: .int (nI x) :: st) G Q :=
  V_icmp_ge h (fun q => k ((nI_leI hy hx).mp q)) (fun q => k2 (fun e => q ((nI_leI hy hx).mpr e)))
theorem V_icmp_gtN {x y : Nat} {o : Int} (h : kf M pc = some (.if_icmp .gt o, n, t)) (hx : x < 2 ^ 31) (hy : y < 2 ^ 31) (k : y < x → V K bc bs M t lc st G Q) (k2 : ¬ y < x → V K bc bs M n lc st G Q) : V K bc bs M pc lc (.int (nI y) :: .int (nI x) :: st) G Q :=
  V_icmp_gt h (fun q => k ((nI_ltI hy hx).mp q)) (fun q => k2 (fun e => q ((nI_ltI hy hx).mpr e)))
theorem V_icmp_leN {x y : Nat} {o : Int} (h : kf M pc = some (.if_icmp .le o, n, t)) (hx : x < 2 ^ 31) (hy : y < 2 ^ 31) (k : x ≤ y → V K bc bs M t lc st G Q) (k2 : ¬ x ≤ y → V K bc bs M n lc st G Q) : V K bc bs M pc lc (.int (nI y) :: .int (nI x) :: st) G Q :=
  V_icmp_le h (fun q => k ((nI_leI hx hy).mp q)) (fun q => k2 (fun e => q ((nI_leI hx hy).mpr e)))
theorem V_if_eqN {x : Nat} {o : Int} (h : kf M pc = some (.ifCond .eq o, n, t)) (hx : x < 2 ^ 31) (k : x = 0 → V K bc bs M t lc st G Q) (k2 : ¬ x = 0 → V K bc bs M n lc st G Q) : V K bc bs M pc lc (.int (nI x) :: st) G Q :=
  V_if_eq h (fun q => k ((nI_eq (b := 0) hx (by decide)).mp q)) (fun q => k2 (fun e => q ((nI_eq (b := 0) hx (by decide)).mpr e)))
theorem V_if_neN {x : Nat} {o : Int} (h : kf M pc = some (.ifCond .ne o, n, t)) (hx : x < 2 ^ 31) (k : ¬ x = 0 → V K bc bs M t lc st G Q) (k2 : x = 0 → V K bc bs M n lc st G Q) : V K bc bs M pc lc (.int (nI x) :: st) G Q :=
  V_if_ne h (fun q => k (fun e => q ((nI_eq (b := 0) hx (by decide)).mpr e))) (fun q => k2 ((nI_eq (b := 0) hx (by decide)).mp q))
theorem V_if_ltN {x : Nat} {o : Int} (h : kf M pc = some (.ifCond .lt o, n, t)) (hx : x < 2 ^ 31) (k2 : V K bc bs M n lc st G Q) : V K bc bs M pc lc (.int (nI x) :: st) G Q :=
  V_if_lt h (fun q => absurd q (nI_pos hx)) (fun _ => k2)
theorem V_if_geN {x : Nat} {o : Int} (h : kf M pc = some (.ifCond .ge o, n, t)) (hx : x < 2 ^ 31) (k : V K bc bs M t lc st G Q) : V K bc bs M pc lc (.int (nI x) :: st) G Q :=
  V_if_ge h (fun _ => k) (fun q => absurd (nI_pos' hx) q)
theorem V_if_gtN {x : Nat} {o : Int} (h : kf M pc = some (.ifCond .gt o, n, t)) (hx : x < 2 ^ 31) (k : 0 < x → V K bc bs M t lc st G Q) (k2 : x = 0 → V K bc bs M n lc st G Q) : V K bc bs M pc lc (.int (nI x) :: st) G Q :=
  V_if_gt h (fun q => k ((nI_ltI (a := 0) (by decide) hx).mp q)) (fun q => k2 (Nat.eq_zero_of_not_pos (fun e => q ((nI_ltI (a := 0) (by decide) hx).mpr e))))
theorem V_if_leN {x : Nat} {o : Int} (h : kf M pc = some (.ifCond .le o, n, t)) (hx : x < 2 ^ 31) (k : x = 0 → V K bc bs M t lc st G Q) (k2 : 0 < x → V K bc bs M n lc st G Q) : V K bc bs M pc lc (.int (nI x) :: st) G Q :=
  V_if_le h (fun q => k (Nat.le_zero.mp ((nI_leI (b := 0) hx (by decide)).mp q))) (fun q => k2 (Nat.pos_of_ne_zero (fun e => q ((nI_leI (b := 0) hx (by decide)).mpr (Nat.le_of_eq e)))))
theorem V_i2lN {x : Nat} (h : kf M pc = some (.i2l, n, t)) (hx : x < 2 ^ 31) (kk : V K bc bs M n lc (.long (lN x) :: st) G Q) : V K bc bs M pc lc (.int (nI x) :: st) G Q := by
  refine V_i2l h ?_
  rw [nI_l hx]; exact kk
theorem V_l2iN {x : Nat} (h : kf M pc = some (.l2i, n, t)) (kk : V K bc bs M n lc (.int (nI x) :: st) G Q) : V K bc bs M pc lc (.long (lN x) :: st) G Q := by
  refine V_l2i h ?_
  rw [lN_i]; exact kk
theorem V_lshlN {x k : Nat} (h : kf M pc = some (.lshl, n, t)) (hk : k < 64) (kk : V K bc bs M n lc (.long (lN (x * 2 ^ k)) :: st) G Q) : V K bc bs M pc lc (.int (nI k) :: .long (lN x) :: st) G Q := by
  refine V_lshl h ?_
  rw [wb_shl x hk]; exact kk
theorem V_lushrN {x k : Nat} (h : kf M pc = some (.lushr, n, t)) (hx : x < 2 ^ 64) (hk : k < 64) (kk : V K bc bs M n lc (.long (lN (x / 2 ^ k)) :: st) G Q) : V K bc bs M pc lc (.int (nI k) :: .long (lN x) :: st) G Q := by
  refine V_lushr h ?_
  rw [wb_shr hx hk]; exact kk
theorem V_lshrN' {x k : Nat} (h : kf M pc = some (.lshr, n, t)) (hx : x < 2 ^ 62) (hk : k < 64) (kk : V K bc bs M n lc (.long (lN (x / 2 ^ k)) :: st) G Q) : V K bc bs M pc lc (.int (nI k) :: .long (lN x) :: st) G Q := by
  refine V_lshr h ?_
  rw [pf_shr (d := k) (by rw [wb_c k hk, wb_tb, wb_sm k hk, BitVec.toNat_ofNat]; exact Nat.mod_eq_of_lt (by omega)) hx]; exact kk
/-! lists of bytes -/
def lst (f : Nat → Nat) (n : Nat) : List Nat := (List.range n).map f
theorem lst_len (f : Nat → Nat) (n : Nat) : (lst f n).length = n := by simp [lst]
theorem lst_0 (f : Nat → Nat) : lst f 0 = [] := rfl
theorem lst_s (f : Nat → Nat) (n : Nat) : lst f (n + 1) = lst f n ++ [f n] := by simp [lst, List.range_succ]
theorem lst_congr {f g : Nat → Nat} {n : Nat} (h : ∀ j, j < n → f j = g j) : lst f n = lst g n := by
  unfold lst
  exact List.map_congr_left (fun j hj => h j (List.mem_range.mp hj))
theorem lst_app (f : Nat → Nat) (n m : Nat) : lst f (n + m) = lst f n ++ lst (fun j => f (n + j)) m := by
  induction m with
  | zero => simp [lst_0]
  | succ m ih => rw [← Nat.add_assoc, lst_s, ih, lst_s, List.append_assoc]
theorem lst_inj {f g : Nat → Nat} {n : Nat} (h : lst f n = lst g n) : ∀ j, j < n → f j = g j := by
  intro j hj
  have := congrArg (fun l => l[j]?) h
  simp [lst, hj] at this
  exact this
theorem lst_get {f : Nat → Nat} {n j : Nat} (h : j < n) : (lst f n).getD j 0 = f j := by simp [lst, h]
theorem lst_cpy {f g : Nat → Nat} {s n c : Nat} : lst (va_cpy g f s n c) (n + c) = lst f n ++ lst (fun j => g (s + j)) c := by
  rw [lst_app]
  congr 1
  · exact lst_congr (fun j hj => pk_cpy_out (Or.inl hj))
  · exact lst_congr (fun j hj => by rw [pk_cpy_in (by omega) (by omega)]; congr 1; omega)
theorem lst_upd {f : Nat → Nat} {n x : Nat} : lst (updN f n x) (n + 1) = lst f n ++ [x] := by
  rw [lst_s, updN_eq]
  congr 1
  exact lst_congr (fun j hj => updN_ne (by omega))
theorem cpyN (f g : Nat → Nat) (s d n : Nat) : va_cpy (fun j => nI (f j)) (fun j => nI (g j)) s d n = fun j => nI (va_cpy f g s d n j) := by
  funext j
  unfold va_cpy
  split <;> rfl
end KN
