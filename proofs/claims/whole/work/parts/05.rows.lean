section KR
variable {K : kK} {bc bs bc' bs' : Nat} {M M' : kM} {pc n t : Nat} {lc : kLo} {st : List Value} {G : kG} {Q Q' : kO → kG → Prop}

theorem V_iadd {x y : Int32} (h : kf M pc = some (.iadd, n, t))  (k : V K bc bs M n lc (.int (x + y) :: st) G Q) : V K bc bs M pc lc (.int y :: .int x :: st) G Q := by
  intro hM p e R s m args below meth c H locs cells slots ls hC hB hS hH hL
  obtain ⟨hd, hn, -⟩ := hM.dec h rfl
  subst hn
  exact lv_iadd hC.1 hC.2.1 hd (k hM p e R s m args below meth c H locs cells slots ls hC hB hS hH hL)
theorem V_isub {x y : Int32} (h : kf M pc = some (.isub, n, t))  (k : V K bc bs M n lc (.int (x - y) :: st) G Q) : V K bc bs M pc lc (.int y :: .int x :: st) G Q := by
  intro hM p e R s m args below meth c H locs cells slots ls hC hB hS hH hL
  obtain ⟨hd, hn, -⟩ := hM.dec h rfl
  subst hn
  exact lv_isub hC.1 hC.2.1 hd (k hM p e R s m args below meth c H locs cells slots ls hC hB hS hH hL)
theorem V_imul {x y : Int32} (h : kf M pc = some (.imul, n, t))  (k : V K bc bs M n lc (.int (x * y) :: st) G Q) : V K bc bs M pc lc (.int y :: .int x :: st) G Q := by
  intro hM p e R s m args below meth c H locs cells slots ls hC hB hS hH hL
  obtain ⟨hd, hn, -⟩ := hM.dec h rfl
  subst hn
  exact lv_imul hC.1 hC.2.1 hd (k hM p e R s m args below meth c H locs cells slots ls hC hB hS hH hL)
theorem V_iand {x y : Int32} (h : kf M pc = some (.iand, n, t))  (k : V K bc bs M n lc (.int (x &&& y) :: st) G Q) : V K bc bs M pc lc (.int y :: .int x :: st) G Q := by
  intro hM p e R s m args below meth c H locs cells slots ls hC hB hS hH hL
  obtain ⟨hd, hn, -⟩ := hM.dec h rfl
  subst hn
  exact lv_iand hC.1 hC.2.1 hd (k hM p e R s m args below meth c H locs cells slots ls hC hB hS hH hL)
theorem V_ior {x y : Int32} (h : kf M pc = some (.ior, n, t))  (k : V K bc bs M n lc (.int (x ||| y) :: st) G Q) : V K bc bs M pc lc (.int y :: .int x :: st) G Q := by
  intro hM p e R s m args below meth c H locs cells slots ls hC hB hS hH hL
  obtain ⟨hd, hn, -⟩ := hM.dec h rfl
  subst hn
  exact lv_ior hC.1 hC.2.1 hd (k hM p e R s m args below meth c H locs cells slots ls hC hB hS hH hL)
theorem V_ixor {x y : Int32} (h : kf M pc = some (.ixor, n, t))  (k : V K bc bs M n lc (.int (x ^^^ y) :: st) G Q) : V K bc bs M pc lc (.int y :: .int x :: st) G Q := by
  intro hM p e R s m args below meth c H locs cells slots ls hC hB hS hH hL
  obtain ⟨hd, hn, -⟩ := hM.dec h rfl
  subst hn
  exact lv_ixor hC.1 hC.2.1 hd (k hM p e R s m args below meth c H locs cells slots ls hC hB hS hH hL)
theorem V_ladd {x y : Int64} (h : kf M pc = some (.ladd, n, t))  (k : V K bc bs M n lc (.long (x + y) :: st) G Q) : V K bc bs M pc lc (.long y :: .long x :: st) G Q := by
  intro hM p e R s m args below meth c H locs cells slots ls hC hB hS hH hL
  obtain ⟨hd, hn, -⟩ := hM.dec h rfl
  subst hn
  exact lv_ladd hC.1 hC.2.1 hd (k hM p e R s m args below meth c H locs cells slots ls hC hB hS hH hL)
theorem V_lsub {x y : Int64} (h : kf M pc = some (.lsub, n, t))  (k : V K bc bs M n lc (.long (x - y) :: st) G Q) : V K bc bs M pc lc (.long y :: .long x :: st) G Q := by
  intro hM p e R s m args below meth c H locs cells slots ls hC hB hS hH hL
  obtain ⟨hd, hn, -⟩ := hM.dec h rfl
  subst hn
  exact lv_lsub hC.1 hC.2.1 hd (k hM p e R s m args below meth c H locs cells slots ls hC hB hS hH hL)
theorem V_lmul {x y : Int64} (h : kf M pc = some (.lmul, n, t))  (k : V K bc bs M n lc (.long (x * y) :: st) G Q) : V K bc bs M pc lc (.long y :: .long x :: st) G Q := by
  intro hM p e R s m args below meth c H locs cells slots ls hC hB hS hH hL
  obtain ⟨hd, hn, -⟩ := hM.dec h rfl
  subst hn
  exact lv_lmul hC.1 hC.2.1 hd (k hM p e R s m args below meth c H locs cells slots ls hC hB hS hH hL)
theorem V_land {x y : Int64} (h : kf M pc = some (.land, n, t))  (k : V K bc bs M n lc (.long (x &&& y) :: st) G Q) : V K bc bs M pc lc (.long y :: .long x :: st) G Q := by
  intro hM p e R s m args below meth c H locs cells slots ls hC hB hS hH hL
  obtain ⟨hd, hn, -⟩ := hM.dec h rfl
  subst hn
  exact lv_land hC.1 hC.2.1 hd (k hM p e R s m args below meth c H locs cells slots ls hC hB hS hH hL)
theorem V_lor {x y : Int64} (h : kf M pc = some (.lor, n, t))  (k : V K bc bs M n lc (.long (x ||| y) :: st) G Q) : V K bc bs M pc lc (.long y :: .long x :: st) G Q := by
  intro hM p e R s m args below meth c H locs cells slots ls hC hB hS hH hL
  obtain ⟨hd, hn, -⟩ := hM.dec h rfl
  subst hn
  exact lv_lor hC.1 hC.2.1 hd (k hM p e R s m args below meth c H locs cells slots ls hC hB hS hH hL)
theorem V_lxor {x y : Int64} (h : kf M pc = some (.lxor, n, t))  (k : V K bc bs M n lc (.long (x ^^^ y) :: st) G Q) : V K bc bs M pc lc (.long y :: .long x :: st) G Q := by
  intro hM p e R s m args below meth c H locs cells slots ls hC hB hS hH hL
  obtain ⟨hd, hn, -⟩ := hM.dec h rfl
  subst hn
  exact lv_lxor hC.1 hC.2.1 hd (k hM p e R s m args below meth c H locs cells slots ls hC hB hS hH hL)
theorem V_ishl {x y : Int32} (h : kf M pc = some (.ishl, n, t))  (k : V K bc bs M n lc (.int (x <<< (y &&& 31)) :: st) G Q) : V K bc bs M pc lc (.int y :: .int x :: st) G Q := by
  intro hM p e R s m args below meth c H locs cells slots ls hC hB hS hH hL
  obtain ⟨hd, hn, -⟩ := hM.dec h rfl
  subst hn
  exact lv_ishl hC.1 hC.2.1 hd (k hM p e R s m args below meth c H locs cells slots ls hC hB hS hH hL)
theorem V_ishr {x y : Int32} (h : kf M pc = some (.ishr, n, t))  (k : V K bc bs M n lc (.int (x >>> (y &&& 31)) :: st) G Q) : V K bc bs M pc lc (.int y :: .int x :: st) G Q := by
  intro hM p e R s m args below meth c H locs cells slots ls hC hB hS hH hL
  obtain ⟨hd, hn, -⟩ := hM.dec h rfl
  subst hn
  exact lv_ishr hC.1 hC.2.1 hd (k hM p e R s m args below meth c H locs cells slots ls hC hB hS hH hL)
theorem V_iushr {x y : Int32} (h : kf M pc = some (.iushr, n, t))  (k : V K bc bs M n lc (.int ((x.toUInt32 >>> (y.toUInt32 &&& Int32.toUInt32 31)).toInt32) :: st) G Q) : V K bc bs M pc lc (.int y :: .int x :: st) G Q := by
  intro hM p e R s m args below meth c H locs cells slots ls hC hB hS hH hL
  obtain ⟨hd, hn, -⟩ := hM.dec h rfl
  subst hn
  exact lv_iushr hC.1 hC.2.1 hd rfl (k hM p e R s m args below meth c H locs cells slots ls hC hB hS hH hL)
theorem V_lushr {x : Int64} {y : Int32} (h : kf M pc = some (.lushr, n, t))  (k : V K bc bs M n lc (.long ((x.toUInt64 >>> (y.toInt64.toUInt64 &&& Int64.toUInt64 63)).toInt64) :: st) G Q) : V K bc bs M pc lc (.int y :: .long x :: st) G Q := by
  intro hM p e R s m args below meth c H locs cells slots ls hC hB hS hH hL
  obtain ⟨hd, hn, -⟩ := hM.dec h rfl
  subst hn
  exact lv_lushr hC.1 hC.2.1 hd rfl (k hM p e R s m args below meth c H locs cells slots ls hC hB hS hH hL)
theorem V_lshl {x : Int64} {y : Int32} (h : kf M pc = some (.lshl, n, t))  (k : V K bc bs M n lc (.long (x <<< (y.toInt64 &&& 63)) :: st) G Q) : V K bc bs M pc lc (.int y :: .long x :: st) G Q := by
  intro hM p e R s m args below meth c H locs cells slots ls hC hB hS hH hL
  obtain ⟨hd, hn, -⟩ := hM.dec h rfl
  subst hn
  exact lv_lshl hC.1 hC.2.1 hd rfl (k hM p e R s m args below meth c H locs cells slots ls hC hB hS hH hL)
theorem V_lshr {x : Int64} {y : Int32} (h : kf M pc = some (.lshr, n, t))  (k : V K bc bs M n lc (.long (x >>> (y.toInt64 &&& 63)) :: st) G Q) : V K bc bs M pc lc (.int y :: .long x :: st) G Q := by
  intro hM p e R s m args below meth c H locs cells slots ls hC hB hS hH hL
  obtain ⟨hd, hn, -⟩ := hM.dec h rfl
  subst hn
  exact lv_lshr hC.1 hC.2.1 hd rfl (k hM p e R s m args below meth c H locs cells slots ls hC hB hS hH hL)
theorem V_i2l {x : Int32} (h : kf M pc = some (.i2l, n, t))  (k : V K bc bs M n lc (.long x.toInt64 :: st) G Q) : V K bc bs M pc lc (.int x :: st) G Q := by
  intro hM p e R s m args below meth c H locs cells slots ls hC hB hS hH hL
  obtain ⟨hd, hn, -⟩ := hM.dec h rfl
  subst hn
  exact lv_i2l hC.1 hC.2.1 hd rfl (k hM p e R s m args below meth c H locs cells slots ls hC hB hS hH hL)
theorem V_l2i {x : Int64} (h : kf M pc = some (.l2i, n, t))  (k : V K bc bs M n lc (.int x.toInt32 :: st) G Q) : V K bc bs M pc lc (.long x :: st) G Q := by
  intro hM p e R s m args below meth c H locs cells slots ls hC hB hS hH hL
  obtain ⟨hd, hn, -⟩ := hM.dec h rfl
  subst hn
  exact lv_l2i hC.1 hC.2.1 hd rfl (k hM p e R s m args below meth c H locs cells slots ls hC hB hS hH hL)
theorem V_i2b {x : Int32} (h : kf M pc = some (.i2b, n, t))  (k : V K bc bs M n lc (.int x.toInt8.toInt32 :: st) G Q) : V K bc bs M pc lc (.int x :: st) G Q := by
  intro hM p e R s m args below meth c H locs cells slots ls hC hB hS hH hL
  obtain ⟨hd, hn, -⟩ := hM.dec h rfl
  subst hn
  exact lv_i2b hC.1 hC.2.1 hd rfl (k hM p e R s m args below meth c H locs cells slots ls hC hB hS hH hL)
theorem V_idiv {x y : Int32} (h : kf M pc = some (.idiv, n, t)) (hne : ¬ y = 0) (k : V K bc bs M n lc (.int (x / y) :: st) G Q) : V K bc bs M pc lc (.int y :: .int x :: st) G Q := by
  intro hM p e R s m args below meth c H locs cells slots ls hC hB hS hH hL
  obtain ⟨hd, hn, -⟩ := hM.dec h rfl
  subst hn
  exact lv_idiv hC.1 hC.2.1 hd hne (k hM p e R s m args below meth c H locs cells slots ls hC hB hS hH hL)
theorem V_irem {x y : Int32} (h : kf M pc = some (.irem, n, t)) (hne : ¬ y = 0) (k : V K bc bs M n lc (.int (x - x / y * y) :: st) G Q) : V K bc bs M pc lc (.int y :: .int x :: st) G Q := by
  intro hM p e R s m args below meth c H locs cells slots ls hC hB hS hH hL
  obtain ⟨hd, hn, -⟩ := hM.dec h rfl
  subst hn
  exact lv_irem hC.1 hC.2.1 hd hne (k hM p e R s m args below meth c H locs cells slots ls hC hB hS hH hL)
theorem V_ldiv {x y : Int64} (h : kf M pc = some (.ldiv, n, t)) (hne : ¬ y = 0) (k : V K bc bs M n lc (.long (x / y) :: st) G Q) : V K bc bs M pc lc (.long y :: .long x :: st) G Q := by
  intro hM p e R s m args below meth c H locs cells slots ls hC hB hS hH hL
  obtain ⟨hd, hn, -⟩ := hM.dec h rfl
  subst hn
  exact lv_ldiv hC.1 hC.2.1 hd hne (k hM p e R s m args below meth c H locs cells slots ls hC hB hS hH hL)
theorem V_lrem {x y : Int64} (h : kf M pc = some (.lrem, n, t)) (hne : ¬ y = 0) (k : V K bc bs M n lc (.long (x - x / y * y) :: st) G Q) : V K bc bs M pc lc (.long y :: .long x :: st) G Q := by
  intro hM p e R s m args below meth c H locs cells slots ls hC hB hS hH hL
  obtain ⟨hd, hn, -⟩ := hM.dec h rfl
  subst hn
  exact lv_lrem hC.1 hC.2.1 hd hne (k hM p e R s m args below meth c H locs cells slots ls hC hB hS hH hL)
theorem V_lcmp {x y : Int64} (h : kf M pc = some (.lcmp, n, t))  (k : V K bc bs M n lc (.int (lg_cmp x y) :: st) G Q) : V K bc bs M pc lc (.long y :: .long x :: st) G Q := by
  intro hM p e R s m args below meth c H locs cells slots ls hC hB hS hH hL
  obtain ⟨hd, hn, -⟩ := hM.dec h rfl
  subst hn
  exact W.lcmp hC.1 hC.2.1 hd (k hM p e R s m args below meth c H locs cells slots ls hC hB hS hH hL)
theorem V_iconst {z : Int} {v : Int32} (h : kf M pc = some (.iconst z, n, t)) (hv : Int32.ofInt z = v) (k : V K bc bs M n lc (.int v :: st) G Q) : V K bc bs M pc lc (st) G Q := by
  intro hM p e R s m args below meth c H locs cells slots ls hC hB hS hH hL
  obtain ⟨hd, hn, -⟩ := hM.dec h rfl
  subst hn
  exact lv_iconst hC.1 hC.2.1 hd hv (k hM p e R s m args below meth c H locs cells slots ls hC hB hS hH hL)
theorem V_bipush {z : Int} {v : Int32} (h : kf M pc = some (.bipush z, n, t)) (hv : (Int8.ofInt z).toInt32 = v) (k : V K bc bs M n lc (.int v :: st) G Q) : V K bc bs M pc lc (st) G Q := by
  intro hM p e R s m args below meth c H locs cells slots ls hC hB hS hH hL
  obtain ⟨hd, hn, -⟩ := hM.dec h rfl
  subst hn
  exact lv_bipush hC.1 hC.2.1 hd hv (k hM p e R s m args below meth c H locs cells slots ls hC hB hS hH hL)
theorem V_sipush {z : Int} {v : Int32} (h : kf M pc = some (.sipush z, n, t)) (hv : (Int16.ofInt z).toInt32 = v) (k : V K bc bs M n lc (.int v :: st) G Q) : V K bc bs M pc lc (st) G Q := by
  intro hM p e R s m args below meth c H locs cells slots ls hC hB hS hH hL
  obtain ⟨hd, hn, -⟩ := hM.dec h rfl
  subst hn
  exact lv_sipush hC.1 hC.2.1 hd hv (k hM p e R s m args below meth c H locs cells slots ls hC hB hS hH hL)
theorem V_lconst {z : Fin 2} {v : Int64} (h : kf M pc = some (.lconst z, n, t)) (hv : Int64.ofNat (z : Nat) = v) (k : V K bc bs M n lc (.long v :: st) G Q) : V K bc bs M pc lc (st) G Q := by
  intro hM p e R s m args below meth c H locs cells slots ls hC hB hS hH hL
  obtain ⟨hd, hn, -⟩ := hM.dec h rfl
  subst hn
  exact lv_lconst hC.1 hC.2.1 hd hv (k hM p e R s m args below meth c H locs cells slots ls hC hB hS hH hL)
theorem V_dup {v : Value} (h : kf M pc = some (.dup, n, t)) (hv : v.category = 1) (k : V K bc bs M n lc (v :: v :: st) G Q) : V K bc bs M pc lc (v :: st) G Q := by
  intro hM p e R s m args below meth c H locs cells slots ls hC hB hS hH hL
  obtain ⟨hd, hn, -⟩ := hM.dec h rfl
  subst hn
  exact lv_dup hC.1 hC.2.1 hd (by rw [ksh_cat]; exact hv) (k hM p e R s m args below meth c H locs cells slots ls hC hB hS hH hL)
theorem V_pop {v : Value} (h : kf M pc = some (.pop, n, t)) (hv : v.category = 1) (k : V K bc bs M n lc (st) G Q) : V K bc bs M pc lc (v :: st) G Q := by
  intro hM p e R s m args below meth c H locs cells slots ls hC hB hS hH hL
  obtain ⟨hd, hn, -⟩ := hM.dec h rfl
  subst hn
  exact lv_pop hC.1 hC.2.1 hd (by rw [ksh_cat]; exact hv) (k hM p e R s m args below meth c H locs cells slots ls hC hB hS hH hL)
theorem V_dup2 {v w : Value} (h : kf M pc = some (.dup2, n, t)) (hv : v.category = 1) (hw : w.category = 1) (k : V K bc bs M n lc (v :: w :: v :: w :: st) G Q) : V K bc bs M pc lc (v :: w :: st) G Q := by
  intro hM p e R s m args below meth c H locs cells slots ls hC hB hS hH hL
  obtain ⟨hd, hn, -⟩ := hM.dec h rfl
  subst hn
  exact lv_dup2_11 hC.1 hC.2.1 hd (by rw [ksh_cat]; exact hv) (by rw [ksh_cat]; exact hw) (k hM p e R s m args below meth c H locs cells slots ls hC hB hS hH hL)
theorem V_iload_n {j : Fin 4} {x : Int32} (h : kf M pc = some (.iload_n j, n, t)) (hx : lc (j : Nat) = some (.int x)) (k : V K bc bs M n lc (.int x :: st) G Q) : V K bc bs M pc lc (st) G Q := by
  intro hM p e R s m args below meth c H locs cells slots ls hC hB hS hH hL
  obtain ⟨hd, hn, -⟩ := hM.dec h rfl
  subst hn
  exact lv_iload_n hC.1 hC.2.1 hd rfl (hL.2.2 _ _ hx (Or.inl ⟨rfl, by intro q; cases q⟩)) (k hM p e R s m args below meth c H locs cells slots ls hC hB hS hH hL)
theorem V_iload {j : Nat} {x : Int32} (h : kf M pc = some (.iload j, n, t)) (hx : lc j = some (.int x)) (k : V K bc bs M n lc (.int x :: st) G Q) : V K bc bs M pc lc (st) G Q := by
  intro hM p e R s m args below meth c H locs cells slots ls hC hB hS hH hL
  obtain ⟨hd, hn, -⟩ := hM.dec h rfl
  subst hn
  exact lv_iload hC.1 hC.2.1 hd (hL.2.2 _ _ hx (Or.inl ⟨rfl, by intro q; cases q⟩)) (k hM p e R s m args below meth c H locs cells slots ls hC hB hS hH hL)
theorem V_lload_n {j : Fin 4} {x : Int64} (h : kf M pc = some (.lload_n j, n, t)) (hx : lc (j : Nat) = some (.long x)) (hm : lc ((j : Nat) + 1) = some kmk) (k : V K bc bs M n lc (.long x :: st) G Q) : V K bc bs M pc lc (st) G Q := by
  intro hM p e R s m args below meth c H locs cells slots ls hC hB hS hH hL
  obtain ⟨hd, hn, -⟩ := hM.dec h rfl
  subst hn
  exact lv_lload_n hC.1 hC.2.1 hd rfl (hL.2.2 _ _ hx (Or.inr ⟨rfl, hm⟩)) (k hM p e R s m args below meth c H locs cells slots ls hC hB hS hH hL)
theorem V_lload {j : Nat} {x : Int64} (h : kf M pc = some (.lload j, n, t)) (hx : lc j = some (.long x)) (hm : lc (j + 1) = some kmk) (k : V K bc bs M n lc (.long x :: st) G Q) : V K bc bs M pc lc (st) G Q := by
  intro hM p e R s m args below meth c H locs cells slots ls hC hB hS hH hL
  obtain ⟨hd, hn, -⟩ := hM.dec h rfl
  subst hn
  exact lv_lload hC.1 hC.2.1 hd (hL.2.2 _ _ hx (Or.inr ⟨rfl, hm⟩)) (k hM p e R s m args below meth c H locs cells slots ls hC hB hS hH hL)
theorem V_aload_n {j : Fin 4} {x : Nat} (h : kf M pc = some (.aload_n j, n, t)) (hx : lc (j : Nat) = some (.ref x)) (k : V K bc bs M n lc (.ref x :: st) G Q) : V K bc bs M pc lc (st) G Q := by
  intro hM p e R s m args below meth c H locs cells slots ls hC hB hS hH hL
  obtain ⟨hd, hn, -⟩ := hM.dec h rfl
  subst hn
  exact lv_aload_n hC.1 hC.2.1 hd rfl (hL.2.2 _ _ hx (Or.inl ⟨rfl, by intro q; cases q⟩)) (k hM p e R s m args below meth c H locs cells slots ls hC hB hS hH hL)
theorem V_aload {j : Nat} {x : Nat} (h : kf M pc = some (.aload j, n, t)) (hx : lc j = some (.ref x)) (k : V K bc bs M n lc (.ref x :: st) G Q) : V K bc bs M pc lc (st) G Q := by
  intro hM p e R s m args below meth c H locs cells slots ls hC hB hS hH hL
  obtain ⟨hd, hn, -⟩ := hM.dec h rfl
  subst hn
  exact lv_aload hC.1 hC.2.1 hd (hL.2.2 _ _ hx (Or.inl ⟨rfl, by intro q; cases q⟩)) (k hM p e R s m args below meth c H locs cells slots ls hC hB hS hH hL)
theorem kokv_dec (lc : kLo) (i : Nat) (v : Value) : kokv lc i v ∨ ¬ kokv lc i v := Classical.em _
noncomputable def lvL (K : kK) (lc : kLo) (nL : Nat) : List (Nat × Value) := (List.range nL).filterMap (fun j => match lc j with | some v => (@ite _ (kokv lc j v) (Classical.propDecidable _) (some (j, ksh K v)) none) | none => none)
theorem lvL_has {nL : Nat} {ls : Array Slot} (h : kLc K lc nL ls) : lv_has ls nL (lvL K lc nL) := by
  refine ⟨h.1, h.2.1, fun q hq => ?_⟩
  obtain ⟨j, -, hj⟩ := List.mem_filterMap.mp hq
  split at hj
  · rename_i v hv
    by_cases hk : kokv lc j v
    · rw [if_pos hk] at hj
      cases hj
      exact h.2.2 j v hv hk
    · rw [if_neg hk] at hj
      cases hj
  · cases hj
theorem lvL_mem {nL : Nat} {ls : Array Slot} (h : kLc K lc nL ls) {j : Nat} {v : Value} (hv : lc j = some v) (hk : kokv lc j v) : (j, ksh K v) ∈ lvL K lc nL := by
  have h1 := h.2.2 j v hv hk
  have h2 : j < nL := by rw [← h.1]; exact lv_lt h1
  exact List.mem_filterMap.mpr ⟨j, List.mem_range.mpr h2, by rw [hv]; simp only; rw [if_pos hk]⟩
theorem kLc.put1 {nL i : Nat} {ls ls' : Array Slot} {v : Value} (h : kLc K lc nL ls) (hvk : v ≠ kmk) (h' : lv_has ls' nL ((i, ksh K v) :: (lvL K lc nL).filter (fun q => !(q.1 == i) && !(q.1 + 1 == i && q.2.category == 2)))) : kLc K (ls1 lc i v) nL ls' := by
  refine ⟨h'.1, h'.2.1, fun j w hw hok => ?_⟩
  by_cases hj : j = i
  · subst hj
    simp only [ls1, if_pos] at hw
    cases hw
    exact h'.2.2 _ List.mem_cons_self
  · have hw1 : lc j = some w := by simpa [ls1, hj] using hw
    have h1 : (j == i) = false := by simpa using hj
    rcases hok with ⟨hc, hm⟩ | ⟨hc, hm⟩
    · refine h'.2.2 (j, ksh K w) (List.mem_cons_of_mem _ (List.mem_filter.mpr ⟨lvL_mem h hw1 (Or.inl ⟨hc, hm⟩), ?_⟩))
      simp [h1, ksh_cat, hc]
    · by_cases h2 : j + 1 = i
      · simp only [ls1, h2, if_pos] at hm
        exact absurd (Option.some.inj hm) hvk
      · have hm1 : lc (j + 1) = some kmk := by simpa [ls1, h2] using hm
        refine h'.2.2 (j, ksh K w) (List.mem_cons_of_mem _ (List.mem_filter.mpr ⟨lvL_mem h hw1 (Or.inr ⟨hc, hm1⟩), ?_⟩))
        have h3 : (j + 1 == i) = false := by simpa using h2
        simp [h1, h3]
theorem kLc.put2 {nL i : Nat} {ls ls' : Array Slot} {v : Value} (h : kLc K lc nL ls) (hvk : v ≠ kmk) (h' : lv_has ls' nL ((i, ksh K v) :: (lvL K lc nL).filter (fun q => !(q.1 == i) && (!(q.1 == i + 1) && !(q.1 + 1 == i && q.2.category == 2))))) : kLc K (ls2 lc i v) nL ls' := by
  refine ⟨h'.1, h'.2.1, fun j w hw hok => ?_⟩
  by_cases hj : j = i
  · subst hj
    simp only [ls2, if_pos] at hw
    cases hw
    exact h'.2.2 _ List.mem_cons_self
  · by_cases hj2 : j = i + 1
    · subst hj2
      simp only [ls2, if_neg hj, if_pos] at hw
      cases hw
      rcases hok with ⟨hc, hm⟩ | ⟨hc, hm⟩
      · exact absurd rfl hm
      · cases hc
    · have hw1 : lc j = some w := by simpa [ls2, hj, hj2] using hw
      have h1 : (j == i) = false := by simpa using hj
      have h4 : (j == i + 1) = false := by simpa using hj2
      rcases hok with ⟨hc, hm⟩ | ⟨hc, hm⟩
      · refine h'.2.2 (j, ksh K w) (List.mem_cons_of_mem _ (List.mem_filter.mpr ⟨lvL_mem h hw1 (Or.inl ⟨hc, hm⟩), ?_⟩))
        simp [h1, h4, ksh_cat, hc]
      · by_cases h2 : j + 1 = i
        · simp only [ls2, h2, if_pos] at hm
          exact absurd (Option.some.inj hm) hvk
        · have h5 : ¬ j + 1 = i + 1 := by omega
          have hm1 : lc (j + 1) = some kmk := by simpa [ls2, h2, h5, hj] using hm
          refine h'.2.2 (j, ksh K w) (List.mem_cons_of_mem _ (List.mem_filter.mpr ⟨lvL_mem h hw1 (Or.inr ⟨hc, hm1⟩), ?_⟩))
          have h3 : (j + 1 == i) = false := by simpa using h2
          simp [h1, h4, h3]
theorem V_istore_n {j : Fin 4} {x : Int32} (h : kf M pc = some (.istore_n j, n, t)) (hj : (j : Nat) < mxl M) (k : V K bc bs M n (ls1 lc (j : Nat) (.int x)) st G Q) : V K bc bs M pc lc (.int x :: st) G Q := by
  intro hM p e R s m args below meth c H locs cells slots ls hC hB hS hH hL
  obtain ⟨hd, hn, -⟩ := hM.dec h rfl
  subst hn
  exact lv_istore_n hC.1 hC.2.1 hd rfl (lvL_has hL) hj rfl (fun ls' hl' => (k hM p e R s m args below meth c H locs cells slots ls' hC hB hS hH (hL.put1 (v := .int x) (by intro q; cases q) hl')))
theorem V_istore {j : Nat} {x : Int32} (h : kf M pc = some (.istore j, n, t)) (hj : j < mxl M) (k : V K bc bs M n (ls1 lc j (.int x)) st G Q) : V K bc bs M pc lc (.int x :: st) G Q := by
  intro hM p e R s m args below meth c H locs cells slots ls hC hB hS hH hL
  obtain ⟨hd, hn, -⟩ := hM.dec h rfl
  subst hn
  exact lv_istore hC.1 hC.2.1 hd (lvL_has hL) hj rfl (fun ls' hl' => (k hM p e R s m args below meth c H locs cells slots ls' hC hB hS hH (hL.put1 (v := .int x) (by intro q; cases q) hl')))
theorem V_lstore_n {j : Fin 4} {x : Int64} (h : kf M pc = some (.lstore_n j, n, t)) (hj : (j : Nat) + 1 < mxl M) (k : V K bc bs M n (ls2 lc (j : Nat) (.long x)) st G Q) : V K bc bs M pc lc (.long x :: st) G Q := by
  intro hM p e R s m args below meth c H locs cells slots ls hC hB hS hH hL
  obtain ⟨hd, hn, -⟩ := hM.dec h rfl
  subst hn
  exact lv_lstore_n hC.1 hC.2.1 hd rfl (lvL_has hL) hj rfl (fun ls' hl' => (k hM p e R s m args below meth c H locs cells slots ls' hC hB hS hH (hL.put2 (v := .long x) (by intro q; cases q) hl')))
theorem V_lstore {j : Nat} {x : Int64} (h : kf M pc = some (.lstore j, n, t)) (hj : j + 1 < mxl M) (k : V K bc bs M n (ls2 lc j (.long x)) st G Q) : V K bc bs M pc lc (.long x :: st) G Q := by
  intro hM p e R s m args below meth c H locs cells slots ls hC hB hS hH hL
  obtain ⟨hd, hn, -⟩ := hM.dec h rfl
  subst hn
  exact lv_lstore hC.1 hC.2.1 hd (lvL_has hL) hj rfl (fun ls' hl' => (k hM p e R s m args below meth c H locs cells slots ls' hC hB hS hH (hL.put2 (v := .long x) (by intro q; cases q) hl')))
theorem V_astore_n {j : Fin 4} {x : Nat} (h : kf M pc = some (.astore_n j, n, t)) (hj : (j : Nat) < mxl M) (k : V K bc bs M n (ls1 lc (j : Nat) (.ref x)) st G Q) : V K bc bs M pc lc (.ref x :: st) G Q := by
  intro hM p e R s m args below meth c H locs cells slots ls hC hB hS hH hL
  obtain ⟨hd, hn, -⟩ := hM.dec h rfl
  subst hn
  exact lv_astore_n hC.1 hC.2.1 hd rfl (lvL_has hL) hj rfl (fun ls' hl' => (k hM p e R s m args below meth c H locs cells slots ls' hC hB hS hH (hL.put1 (v := .ref x) (by intro q; cases q) hl')))
theorem V_astore {j : Nat} {x : Nat} (h : kf M pc = some (.astore j, n, t)) (hj : j < mxl M) (k : V K bc bs M n (ls1 lc j (.ref x)) st G Q) : V K bc bs M pc lc (.ref x :: st) G Q := by
  intro hM p e R s m args below meth c H locs cells slots ls hC hB hS hH hL
  obtain ⟨hd, hn, -⟩ := hM.dec h rfl
  subst hn
  exact lv_astore hC.1 hC.2.1 hd (lvL_has hL) hj rfl (fun ls' hl' => (k hM p e R s m args below meth c H locs cells slots ls' hC hB hS hH (hL.put1 (v := .ref x) (by intro q; cases q) hl')))
theorem lv_posn {l : List (Nat × Value)} {q : Nat × Value} (h : q ∈ l) : ∃ k : Nat, l[k]? = some q := List.getElem?_of_mem h
theorem V_iinc {j : Nat} {z : Int} {x v : Int32} (h : kf M pc = some (.iinc j z, n, t)) (hx : lc j = some (.int x)) (hv : x + Int32.ofInt z = v) (hj : j < mxl M) (k : V K bc bs M n (ls1 lc j (.int v)) st G Q) : V K bc bs M pc lc st G Q := by
  intro hM p e R s m args below meth c H locs cells slots ls hC hB hS hH hL
  obtain ⟨hd, hn, -⟩ := hM.dec h rfl
  subst hn
  obtain ⟨q, hq⟩ := lv_posn (lvL_mem hL hx (Or.inl ⟨rfl, by intro q; cases q⟩))
  exact lv_iinc hC.1 hC.2.1 hd (lvL_has hL) hq hv hj rfl (fun ls' hl' => (k hM p e R s m args below meth c H locs cells slots ls' hC hB hS hH (hL.put1 (v := .int v) (by intro q; cases q) hl')))
theorem V_if_eq {x : Int32} {o : Int} (h : kf M pc = some (.ifCond .eq o, n, t)) (k : x = 0 → V K bc bs M t lc st G Q) (k2 : ¬ x = 0 → V K bc bs M n lc st G Q) : V K bc bs M pc lc (.int x :: st) G Q := by
  intro hM p e R s m args below meth c H locs cells slots ls hC hB hS hH hL
  obtain ⟨hd, hn, ho⟩ := hM.dec h rfl
  subst hn
  exact lv_if_eq hC.1 hC.2.1 hd (ho _ rfl) (fun q => (k q hM p e R s m args below meth c H locs cells slots ls hC hB hS hH hL)) (fun q => (k2 q hM p e R s m args below meth c H locs cells slots ls hC hB hS hH hL))
theorem V_if_ne {x : Int32} {o : Int} (h : kf M pc = some (.ifCond .ne o, n, t)) (k : ¬ x = 0 → V K bc bs M t lc st G Q) (k2 : x = 0 → V K bc bs M n lc st G Q) : V K bc bs M pc lc (.int x :: st) G Q := by
  intro hM p e R s m args below meth c H locs cells slots ls hC hB hS hH hL
  obtain ⟨hd, hn, ho⟩ := hM.dec h rfl
  subst hn
  exact lv_if_ne hC.1 hC.2.1 hd (ho _ rfl) (fun q => (k q hM p e R s m args below meth c H locs cells slots ls hC hB hS hH hL)) (fun q => (k2 q hM p e R s m args below meth c H locs cells slots ls hC hB hS hH hL))
theorem V_if_lt {x : Int32} {o : Int} (h : kf M pc = some (.ifCond .lt o, n, t)) (k : x < 0 → V K bc bs M t lc st G Q) (k2 : ¬ x < 0 → V K bc bs M n lc st G Q) : V K bc bs M pc lc (.int x :: st) G Q := by
  intro hM p e R s m args below meth c H locs cells slots ls hC hB hS hH hL
  obtain ⟨hd, hn, ho⟩ := hM.dec h rfl
  subst hn
  exact lv_if_lt hC.1 hC.2.1 hd (ho _ rfl) (fun q => (k q hM p e R s m args below meth c H locs cells slots ls hC hB hS hH hL)) (fun q => (k2 q hM p e R s m args below meth c H locs cells slots ls hC hB hS hH hL))
theorem V_if_ge {x : Int32} {o : Int} (h : kf M pc = some (.ifCond .ge o, n, t)) (k : 0 ≤ x → V K bc bs M t lc st G Q) (k2 : ¬ 0 ≤ x → V K bc bs M n lc st G Q) : V K bc bs M pc lc (.int x :: st) G Q := by
  intro hM p e R s m args below meth c H locs cells slots ls hC hB hS hH hL
  obtain ⟨hd, hn, ho⟩ := hM.dec h rfl
  subst hn
  exact lv_if_ge hC.1 hC.2.1 hd (ho _ rfl) (fun q => (k q hM p e R s m args below meth c H locs cells slots ls hC hB hS hH hL)) (fun q => (k2 q hM p e R s m args below meth c H locs cells slots ls hC hB hS hH hL))
theorem V_if_gt {x : Int32} {o : Int} (h : kf M pc = some (.ifCond .gt o, n, t)) (k : 0 < x → V K bc bs M t lc st G Q) (k2 : ¬ 0 < x → V K bc bs M n lc st G Q) : V K bc bs M pc lc (.int x :: st) G Q := by
  intro hM p e R s m args below meth c H locs cells slots ls hC hB hS hH hL
  obtain ⟨hd, hn, ho⟩ := hM.dec h rfl
  subst hn
  exact lv_if_gt hC.1 hC.2.1 hd (ho _ rfl) (fun q => (k q hM p e R s m args below meth c H locs cells slots ls hC hB hS hH hL)) (fun q => (k2 q hM p e R s m args below meth c H locs cells slots ls hC hB hS hH hL))
theorem V_if_le {x : Int32} {o : Int} (h : kf M pc = some (.ifCond .le o, n, t)) (k : x ≤ 0 → V K bc bs M t lc st G Q) (k2 : ¬ x ≤ 0 → V K bc bs M n lc st G Q) : V K bc bs M pc lc (.int x :: st) G Q := by
  intro hM p e R s m args below meth c H locs cells slots ls hC hB hS hH hL
  obtain ⟨hd, hn, ho⟩ := hM.dec h rfl
  subst hn
  exact lv_if_le hC.1 hC.2.1 hd (ho _ rfl) (fun q => (k q hM p e R s m args below meth c H locs cells slots ls hC hB hS hH hL)) (fun q => (k2 q hM p e R s m args below meth c H locs cells slots ls hC hB hS hH hL))
theorem V_icmp_eq {x y : Int32} {o : Int} (h : kf M pc = some (.if_icmp .eq o, n, t)) (k : x = y → V K bc bs M t lc st G Q) (k2 : ¬ x = y → V K bc bs M n lc st G Q) : V K bc bs M pc lc (.int y :: .int x :: st) G Q := by
  intro hM p e R s m args below meth c H locs cells slots ls hC hB hS hH hL
  obtain ⟨hd, hn, ho⟩ := hM.dec h rfl
  subst hn
  exact lv_icmp_eq hC.1 hC.2.1 hd (ho _ rfl) (fun q => (k q hM p e R s m args below meth c H locs cells slots ls hC hB hS hH hL)) (fun q => (k2 q hM p e R s m args below meth c H locs cells slots ls hC hB hS hH hL))
theorem V_icmp_ne {x y : Int32} {o : Int} (h : kf M pc = some (.if_icmp .ne o, n, t)) (k : ¬ x = y → V K bc bs M t lc st G Q) (k2 : x = y → V K bc bs M n lc st G Q) : V K bc bs M pc lc (.int y :: .int x :: st) G Q := by
  intro hM p e R s m args below meth c H locs cells slots ls hC hB hS hH hL
  obtain ⟨hd, hn, ho⟩ := hM.dec h rfl
  subst hn
  exact lv_icmp_ne hC.1 hC.2.1 hd (ho _ rfl) (fun q => (k q hM p e R s m args below meth c H locs cells slots ls hC hB hS hH hL)) (fun q => (k2 q hM p e R s m args below meth c H locs cells slots ls hC hB hS hH hL))
theorem V_icmp_lt {x y : Int32} {o : Int} (h : kf M pc = some (.if_icmp .lt o, n, t)) (k : x < y → V K bc bs M t lc st G Q) (k2 : ¬ x < y → V K bc bs M n lc st G Q) : V K bc bs M pc lc (.int y :: .int x :: st) G Q := by
  intro hM p e R s m args below meth c H locs cells slots ls hC hB hS hH hL
  obtain ⟨hd, hn, ho⟩ := hM.dec h rfl
  subst hn
  exact lv_icmp_lt hC.1 hC.2.1 hd (ho _ rfl) (fun q => (k q hM p e R s m args below meth c H locs cells slots ls hC hB hS hH hL)) (fun q => (k2 q hM p e R s m args below meth c H locs cells slots ls hC hB hS hH hL))
theorem V_icmp_ge {x y : Int32} {o : Int} (h : kf M pc = some (.if_icmp .ge o, n, t)) (k : y ≤ x → V K bc bs M t lc st G Q) (k2 : ¬ y ≤ x → V K bc bs M n lc st G Q) : V K bc bs M pc lc (.int y :: .int x :: st) G Q := by
  intro hM p e R s m args below meth c H locs cells slots ls hC hB hS hH hL
  obtain ⟨hd, hn, ho⟩ := hM.dec h rfl
  subst hn
  exact lv_icmp_ge hC.1 hC.2.1 hd (ho _ rfl) (fun q => (k q hM p e R s m args below meth c H locs cells slots ls hC hB hS hH hL)) (fun q => (k2 q hM p e R s m args below meth c H locs cells slots ls hC hB hS hH hL))
theorem V_icmp_gt {x y : Int32} {o : Int} (h : kf M pc = some (.if_icmp .gt o, n, t)) (k : y < x → V K bc bs M t lc st G Q) (k2 : ¬ y < x → V K bc bs M n lc st G Q) : V K bc bs M pc lc (.int y :: .int x :: st) G Q := by
  intro hM p e R s m args below meth c H locs cells slots ls hC hB hS hH hL
  obtain ⟨hd, hn, ho⟩ := hM.dec h rfl
  subst hn
  exact lv_icmp_gt hC.1 hC.2.1 hd (ho _ rfl) (fun q => (k q hM p e R s m args below meth c H locs cells slots ls hC hB hS hH hL)) (fun q => (k2 q hM p e R s m args below meth c H locs cells slots ls hC hB hS hH hL))
theorem V_icmp_le {x y : Int32} {o : Int} (h : kf M pc = some (.if_icmp .le o, n, t)) (k : x ≤ y → V K bc bs M t lc st G Q) (k2 : ¬ x ≤ y → V K bc bs M n lc st G Q) : V K bc bs M pc lc (.int y :: .int x :: st) G Q := by
  intro hM p e R s m args below meth c H locs cells slots ls hC hB hS hH hL
  obtain ⟨hd, hn, ho⟩ := hM.dec h rfl
  subst hn
  exact lv_icmp_le hC.1 hC.2.1 hd (ho _ rfl) (fun q => (k q hM p e R s m args below meth c H locs cells slots ls hC hB hS hH hL)) (fun q => (k2 q hM p e R s m args below meth c H locs cells slots ls hC hB hS hH hL))
theorem V_goto {o : Int} (h : kf M pc = some (.goto o, n, t)) (k : V K bc bs M t lc st G Q) : V K bc bs M pc lc st G Q := by
  intro hM p e R s m args below meth c H locs cells slots ls hC hB hS hH hL
  obtain ⟨hd, hn, ho⟩ := hM.dec h rfl
  exact lv_goto hC.1 hC.2.1 hd (ho _ rfl) (k hM p e R s m args below meth c H locs cells slots ls hC hB hS hH hL)
theorem V_acmp_ne {x y : Nat} {o : Int} (h : kf M pc = some (.if_acmp .ne o, n, t)) (hx : x < 1000000) (hy : y < 1000000) (k : ¬ x = y → V K bc bs M t lc st G Q) (k2 : x = y → V K bc bs M n lc st G Q) : V K bc bs M pc lc (.ref y :: .ref x :: st) G Q := by
  intro hM p e R s m args below meth c H locs cells slots ls hC hB hS hH hL
  obtain ⟨hd, hn, ho⟩ := hM.dec h rfl
  subst hn
  exact lv_acmp_ne (rx := some (kad K x)) (ry := some (kad K y)) hC.1 hC.2.1 hd (ho _ rfl) (fun q => (k (fun z => q (by rw [z])) hM p e R s m args below meth c H locs cells slots ls hC hB hS hH hL)) (fun q => (k2 (kad_inj hx hy (Option.some.inj q)) hM p e R s m args below meth c H locs cells slots ls hC hB hS hH hL))
theorem V_tableOut {d lo hi : Int} {offs : Array Int} {x : Int32} {g : Nat} (h : kf M pc = some (.tableswitch d lo hi offs, n, t)) (hx : x.toInt < lo ∨ hi < x.toInt) (ht : (pc : Int) + d = (g : Int)) (k : V K bc bs M g lc st G Q) : V K bc bs M pc lc (.int x :: st) G Q := by
  intro hM p e R s m args below meth c H locs cells slots ls hC hB hS hH hL
  exact lv_tableOut hC.1 hC.2.1 (hM.sw h rfl) hx ht (k hM p e R s m args below meth c H locs cells slots ls hC hB hS hH hL)
theorem V_tableIn {d lo hi o : Int} {offs : Array Int} {x : Int32} {g : Nat} (h : kf M pc = some (.tableswitch d lo hi offs, n, t)) (h1 : ¬ x.toInt < lo) (h2 : ¬ hi < x.toInt) (ho : offs[(x.toInt - lo).toNat]? = some o) (ht : (pc : Int) + o = (g : Int)) (k : V K bc bs M g lc st G Q) : V K bc bs M pc lc (.int x :: st) G Q := by
  intro hM p e R s m args below meth c H locs cells slots ls hC hB hS hH hL
  exact lv_tableIn hC.1 hC.2.1 (hM.sw h rfl) h1 h2 ho ht (k hM p e R s m args below meth c H locs cells slots ls hC hB hS hH hL)
theorem V_lookup {d o : Int} {ps : Array (Int × Int)} {x : Int32} {g : Nat} (h : kf M pc = some (.lookupswitch d ps, n, t)) (hp : (ps.toList.zip (ps.toList.drop 1)).all (fun (a, next) => a.1 < next.1) = true) (ho : Op.lookupswitch.offset ps.toList d x.toInt = o) (ht : (pc : Int) + o = (g : Int)) (k : V K bc bs M g lc st G Q) : V K bc bs M pc lc (.int x :: st) G Q := by
  intro hM p e R s m args below meth c H locs cells slots ls hC hB hS hH hL
  exact lv_lookup hC.1 hC.2.1 (hM.sw h rfl) hp ho ht (k hM p e R s m args below meth c H locs cells slots ls hC hB hS hH hL)
theorem V_iret {x : Int32} (h : kf M pc = some (.ireturn, n, t)) (hr : mrt M = some .int) (hq : Q (.inl (some (.int x))) G) : V K bc bs M pc lc [.int x] G Q := by
  intro hM p e R s m args below meth c H locs cells slots ls hC hB hS hH hL
  obtain ⟨hd, hn, -⟩ := hM.dec h rfl
  refine vx_ret (W.widen (k := R.cells) (n := R.slots) (by omega) (by omega) (W.iret hC.1 hC.2.1 (hC.2.2.2.1.trans hr) (fun t ht _ => ⟨some (.int x), G, rfl, hq, by rw [ht]; exact hH, hS.F ht⟩) hS.2.2 hd hC.2.2.2.2.1))
theorem V_zret {x : Int32} (h : kf M pc = some (.ireturn, n, t)) (hr : mrt M = some .boolean) (hx : x = 0 ∨ x = 1) (hq : Q (.inl (some (.int x))) G) : V K bc bs M pc lc [.int x] G Q := by
  intro hM p e R s m args below meth c H locs cells slots ls hC hB hS hH hL
  obtain ⟨hd, hn, -⟩ := hM.dec h rfl
  refine vx_ret (W.widen (k := R.cells) (n := R.slots) (by omega) (by omega) (W.zret hC.1 hC.2.1 (hC.2.2.2.1.trans hr) (by rcases hx with rfl | rfl <;> rfl) (fun t ht _ => ⟨some (.int x), G, rfl, hq, by rw [ht]; exact hH, hS.F ht⟩) hS.2.2 hd hC.2.2.2.2.1))
theorem V_vret (h : kf M pc = some (.return_, n, t)) (hr : mrt M = none) (hq : Q (.inl none) G) : V K bc bs M pc lc [] G Q := by
  intro hM p e R s m args below meth c H locs cells slots ls hC hB hS hH hL
  obtain ⟨hd, hn, -⟩ := hM.dec h rfl
  refine vx_ret (W.widen (k := R.cells) (n := R.slots) (by omega) (by omega) (W.vret hC.1 hC.2.1 (hC.2.2.2.1.trans hr) (fun t ht _ => ⟨none, G, rfl, hq, by rw [ht]; exact hH, hS.F ht⟩) hS.2.2 hd hC.2.2.2.2.1))
theorem V_aret {x : Nat} {ty : FieldType} (h : kf M pc = some (.areturn, n, t)) (hr : mrt M = some ty) (hty : (∃ n, ty = .object n) ∨ ∃ t, ty = .array t) (hq : Q (.inl (some (.ref x))) G) : V K bc bs M pc lc [.ref x] G Q := by
  intro hM p e R s m args below meth c H locs cells slots ls hC hB hS hH hL
  obtain ⟨hd, hn, -⟩ := hM.dec h rfl
  refine vx_ret (W.widen (k := R.cells) (n := R.slots) (by omega) (by omega) (W.aret hC.1 hC.2.1 (hC.2.2.2.1.trans hr) hty (Or.inr ⟨_, rfl⟩) (fun t ht _ => ⟨some (.ref x), G, rfl, hq, by rw [ht]; exact hH, hS.F ht⟩) hS.2.2 hd hC.2.2.2.2.1))
end KR
