/-! a method with an exception table -/
def kCxH (tb : List ExceptionTableEntry) (K : kK) (M : kM) (p : Program) (s : State) (m : MethodId) (args : Array Value) (meth : Method) (c : Code) : Prop :=
  p.tables.exec = Jvm.exec ∧ c.code = mby M ∧ c.maxLocals = mxl M ∧ meth.sig.returnType = mrt M ∧ meth.locks = false ∧ ((my M).name = "<init>" → meth.name = "<init>") ∧ s.vm.findClass (my M).cls = some m.cls ∧ c.exceptionTable.toList = tb ∧ (∀ w ∈ kU, w.before args s = true) ∧ kW K s
def VH (tb : List ExceptionTableEntry) (K : kK) (bc bs : Nat) (M : kM) (pc : Nat) (lc : kLo) (st : List Value) (G : kG) (Q : kO → kG → Prop) : Prop :=
  kDk M → ∀ (p : Program) (e : Env) (R : Room) (s : State) (m : MethodId) (args : Array Value) (below : List Frame) (meth : Method) (c : Code) (H : Heap) (locs : List Loc) (cells slots : Nat) (ls : Array Slot),
    kCxH tb K M p s m args meth c → mfr M ≤ R.frames ∧ mlo M ≤ R.locals ∧ cells + bc ≤ R.cells ∧ slots + bs ≤ R.slots → va_S (kA K) s.heap H locs → kH K G H → kLc K lc (mxl M) ls →
    W p (kl K) e R s m args below meth c H locs cells slots (vx_MQ below (kQc K Q) (kXC K Q) args s R.cells R.slots (kA K)) (F0 m pc ls (st.map (ksh K)))
def CH (K : kK) (mc ms : Nat) (M : kM) (hh : List (Nat × Nat × Nat × Nat)) (As : List Value) (G : kG) (Q : kO → kG → Prop) : Prop :=
  vx_Met (kl K) (my M) (Cond.codeWith (my M) (mby M) (mxl M) (mrt M) hh :: kU) { frames := mfr M, cells := mc, slots := ms, locals := mlo M } (kPc K As G) (kQc K Q) (kXC K Q) mc ms (kA K)
def kOKH (M : kM) (hh : List (Nat × Nat × Nat × Nat)) : Prop := Cond.codeWith (my M) (mby M) (mxl M) (mrt M) hh ∈ kU ∧ (plainName (my M).cls = true ∧ (my M).cls ≠ "java/lang/invoke/MethodHandle" ∧ (my M).cls ≠ "java/lang/invoke/VarHandle") ∧ kchk M = true ∧ Cond.initialized (my M).cls ∈ kU
section KVH
variable {tb : List ExceptionTableEntry} {K : kK} {bc bs bc' bs' mc ms : Nat} {M M' : kM} {pc n t : Nat} {lc : kLo} {st : List Value} {G : kG} {Q Q' : kO → kG → Prop}
theorem VH_i2l {x : Int32} (h : kf M pc = some (.i2l, n, t))  (k : VH tb K bc bs M n lc (.long x.toInt64 :: st) G Q) : VH tb K bc bs M pc lc (.int x :: st) G Q := by
  intro hM p e R s m args below meth c H locs cells slots ls hC hB hS hH hL
  obtain ⟨hd, hn, -⟩ := hM.dec h rfl
  subst hn
  exact lv_i2l hC.1 hC.2.1 hd rfl (k hM p e R s m args below meth c H locs cells slots ls hC hB hS hH hL)
theorem VH_iconst {z : Int} {v : Int32} (h : kf M pc = some (.iconst z, n, t)) (hv : Int32.ofInt z = v) (k : VH tb K bc bs M n lc (.int v :: st) G Q) : VH tb K bc bs M pc lc (st) G Q := by
  intro hM p e R s m args below meth c H locs cells slots ls hC hB hS hH hL
  obtain ⟨hd, hn, -⟩ := hM.dec h rfl
  subst hn
  exact lv_iconst hC.1 hC.2.1 hd hv (k hM p e R s m args below meth c H locs cells slots ls hC hB hS hH hL)
theorem VH_iload_n {j : Fin 4} {x : Int32} (h : kf M pc = some (.iload_n j, n, t)) (hx : lc (j : Nat) = some (.int x)) (k : VH tb K bc bs M n lc (.int x :: st) G Q) : VH tb K bc bs M pc lc (st) G Q := by
  intro hM p e R s m args below meth c H locs cells slots ls hC hB hS hH hL
  obtain ⟨hd, hn, -⟩ := hM.dec h rfl
  subst hn
  exact lv_iload_n hC.1 hC.2.1 hd rfl (hL.2.2 _ _ hx (Or.inl ⟨rfl, by intro q; cases q⟩)) (k hM p e R s m args below meth c H locs cells slots ls hC hB hS hH hL)
theorem VH_iload {j : Nat} {x : Int32} (h : kf M pc = some (.iload j, n, t)) (hx : lc j = some (.int x)) (k : VH tb K bc bs M n lc (.int x :: st) G Q) : VH tb K bc bs M pc lc (st) G Q := by
  intro hM p e R s m args below meth c H locs cells slots ls hC hB hS hH hL
  obtain ⟨hd, hn, -⟩ := hM.dec h rfl
  subst hn
  exact lv_iload hC.1 hC.2.1 hd (hL.2.2 _ _ hx (Or.inl ⟨rfl, by intro q; cases q⟩)) (k hM p e R s m args below meth c H locs cells slots ls hC hB hS hH hL)
theorem VH_lload_n {j : Fin 4} {x : Int64} (h : kf M pc = some (.lload_n j, n, t)) (hx : lc (j : Nat) = some (.long x)) (hm : lc ((j : Nat) + 1) = some kmk) (k : VH tb K bc bs M n lc (.long x :: st) G Q) : VH tb K bc bs M pc lc (st) G Q := by
  intro hM p e R s m args below meth c H locs cells slots ls hC hB hS hH hL
  obtain ⟨hd, hn, -⟩ := hM.dec h rfl
  subst hn
  exact lv_lload_n hC.1 hC.2.1 hd rfl (hL.2.2 _ _ hx (Or.inr ⟨rfl, hm⟩)) (k hM p e R s m args below meth c H locs cells slots ls hC hB hS hH hL)
theorem VH_aload_n {j : Fin 4} {x : Nat} (h : kf M pc = some (.aload_n j, n, t)) (hx : lc (j : Nat) = some (.ref x)) (k : VH tb K bc bs M n lc (.ref x :: st) G Q) : VH tb K bc bs M pc lc (st) G Q := by
  intro hM p e R s m args below meth c H locs cells slots ls hC hB hS hH hL
  obtain ⟨hd, hn, -⟩ := hM.dec h rfl
  subst hn
  exact lv_aload_n hC.1 hC.2.1 hd rfl (hL.2.2 _ _ hx (Or.inl ⟨rfl, by intro q; cases q⟩)) (k hM p e R s m args below meth c H locs cells slots ls hC hB hS hH hL)
theorem VH_aload {j : Nat} {x : Nat} (h : kf M pc = some (.aload j, n, t)) (hx : lc j = some (.ref x)) (k : VH tb K bc bs M n lc (.ref x :: st) G Q) : VH tb K bc bs M pc lc (st) G Q := by
  intro hM p e R s m args below meth c H locs cells slots ls hC hB hS hH hL
  obtain ⟨hd, hn, -⟩ := hM.dec h rfl
  subst hn
  exact lv_aload hC.1 hC.2.1 hd (hL.2.2 _ _ hx (Or.inl ⟨rfl, by intro q; cases q⟩)) (k hM p e R s m args below meth c H locs cells slots ls hC hB hS hH hL)
theorem VH_goto {o : Int} (h : kf M pc = some (.goto o, n, t)) (k : VH tb K bc bs M t lc st G Q) : VH tb K bc bs M pc lc st G Q := by
  intro hM p e R s m args below meth c H locs cells slots ls hC hB hS hH hL
  obtain ⟨hd, hn, ho⟩ := hM.dec h rfl
  exact lv_goto hC.1 hC.2.1 hd (ho _ rfl) (k hM p e R s m args below meth c H locs cells slots ls hC hB hS hH hL)
theorem VH_iret {x : Int32} (h : kf M pc = some (.ireturn, n, t)) (hr : mrt M = some .int) (hq : Q (.inl (some (.int x))) G) : VH tb K bc bs M pc lc [.int x] G Q := by
  intro hM p e R s m args below meth c H locs cells slots ls hC hB hS hH hL
  obtain ⟨hd, hn, -⟩ := hM.dec h rfl
  refine vx_ret (W.widen (k := R.cells) (n := R.slots) (by omega) (by omega) (W.iret hC.1 hC.2.1 (hC.2.2.2.1.trans hr) (fun t ht _ => ⟨some (.int x), G, rfl, hq, by rw [ht]; exact hH, hS.F ht⟩) hS.2.2 hd hC.2.2.2.2.1))
theorem VH_last {a N : Nat} {f : Nat → Int64} {i : Int32} {x : Int64} (h : kf M pc = some (.lastore, n, t)) (ha : G.1 a = some (.inl (2, N, .inr (.inl f)))) (hi : vp_in i N) (kk : VH tb K bc bs M n lc st (hup G a (.inl (2, N, .inr (.inl (vp_updL f i.toNatClampNeg x))))) Q) : VH tb K bc bs M pc lc (.long x :: .int i :: .ref a :: st) G Q := by
  intro hM p e R s m args below meth c H locs cells slots ls hC hB hS hH hL
  obtain ⟨hd, hn, -⟩ := hM.dec h rfl
  subst hn
  have hK : va_K (kD K) vwCl (ktys K) s := hC.2.2.2.2.2.2.2.2.2.2.1
  have hcell : H[kad K a]? = some (vp_cell (ktc K 2) (N, .inr (.inl f))) := (hH.1 a _ ha).2
  refine W.last hC.1 hC.2.1 hcell ((hK.2 2 _ rfl).1 N (fun j => .long (f j))) (fun q => by cases q) (by show ¬ (i < 0 ∨ (arrV _ _ _).slots.size ≤ _); rw [arrV_size]; exact hi) rfl rfl hd fun H1 e1 z oq => ?_
  refine kk hM p e R s m args below meth c H1 _ cells slots ls hC hB (hS.put z oq (show kb K ≤ kad K a by rw [kad_lt (hH.1 a _ ha).1]; omega)) (hH.set ha ?_ z oq) hL
  show H1[kad K a]? = some (vp_cell _ _)
  rw [e1]
  rw [vp_cell_l, vp_cell_l, arrV_store]
  congr 2
  funext q
  by_cases hq : q = i.toNatClampNeg
  · subst hq
    simp [updV, vp_updL]
  · simp [updV, vp_updL, hq]
theorem VH_lastJ {a N j : Nat} {f : Nat → Int64} {i : Int32} {x : Int64} (h : kf M pc = some (.lastore, n, t)) (ha : G.1 a = some (.inl (2, N, .inr (.inl f)))) (hi : i = nI j) (hj : j < N) (hN : N < 2 ^ 31) (kk : VH tb K bc bs M n lc st (hup G a (.inl (2, N, .inr (.inl (vp_updL f j x))))) Q) : VH tb K bc bs M pc lc (.long x :: .int i :: .ref a :: st) G Q := by
  subst hi
  refine VH_last h ha (vp_in_nI hj hN) ?_
  rw [nI_clamp (by omega)]; exact kk
/-- a handler: the object is put away, a number is given -/
def khd (M : kM) (h : Nat) (v : Int32) : Prop := ∃ (i : Instr) (n1 t1 n2 t2 n3 t3 : Nat) (z : Int), kf M h = some (i, n1, t1) ∧ ((∃ j : Fin 4, i = .astore_n j ∧ (j : Nat) < mxl M) ∨ (∃ j : Nat, i = .astore j ∧ j < mxl M)) ∧ kf M n1 = some (.iconst z, n2, t2) ∧ Int32.ofInt z = v ∧ kf M n2 = some (.ireturn, n3, t3) ∧ mrt M = some .int
theorem khd.run {h : Nat} {v : Int32} (hh : khd M h v) (hq : Q (.inl (some (.int v))) G) (hM : kDk M) {p : Program} {e : Env} {R : Room} {s : State} {m : MethodId} {args : Array Value} {below : List Frame} {meth : Method} {c : Code} {H : Heap} {locs : List Loc} {cells slots : Nat} {ls : Array Slot}
    (hC : kCxH tb K M p s m args meth c) (hB : mfr M ≤ R.frames ∧ mlo M ≤ R.locals ∧ cells ≤ R.cells ∧ slots ≤ R.slots) (hS : va_S (kA K) s.heap H locs) (hH : kH K G H) (hL : kLc K lc (mxl M) ls) (q : Addr) :
    W p (kl K) e R s m args below meth c H locs cells slots (vx_MQ below (kQc K Q) (kXC K Q) args s R.cells R.slots (kA K)) (F0 m h ls [.ref q]) := by
  obtain ⟨i, n1, t1, n2, t2, n3, t3, z, h1, h2, h3, h4, h5, h6⟩ := hh
  have hk : ∀ ls' : Array Slot, ls'.size = mxl M → lv_wf ls' → W p (kl K) e R s m args below meth c H locs cells slots (vx_MQ below (kQc K Q) (kXC K Q) args s R.cells R.slots (kA K)) (F0 m n1 ls' []) := fun ls' a b =>
    VH_iconst (tb := tb) (bc := 0) (bs := 0) (lc := fun _ => none) (st := []) h3 h4 (VH_iret h5 h6 hq) hM p e R s m args below meth c H locs cells slots ls' hC hB hS hH ⟨a, b, fun _ _ z => nomatch z⟩
  rcases h2 with ⟨j, rfl, hj⟩ | ⟨j, rfl, hj⟩
  · obtain ⟨hd, hn, -⟩ := hM.dec h1 rfl
    subst hn
    exact lv_astore_n hC.1 hC.2.1 hd rfl (lvL_has hL) hj rfl (fun ls' hl' => hk ls' hl'.1 hl'.2.1)
  · obtain ⟨hd, hn, -⟩ := hM.dec h1 rfl
    subst hn
    exact lv_astore hC.1 hC.2.1 hd (lvL_has hL) hj rfl (fun ls' hl' => hk ls' hl'.1 hl'.2.1)
/-- a thrown E at pc is taken by the table, and v is given -/
def ktk (M : kM) (tb : List ExceptionTableEntry) (pc : Nat) (E : String) (v : Int32) : Prop := ∃ (pre : List ExceptionTableEntry) (x : ExceptionTableEntry) (suf : List ExceptionTableEntry), tb = pre ++ x :: suf ∧ (∀ z ∈ pre, covers z pc = true ∧ z.catchType ≠ 0 ∧ ∃ nm : String, Cond.classLink (my M).cls z.catchType nm ∈ kU ∧ nm ∈ kX4 ∧ E ≠ nm) ∧ covers x pc = true ∧ x.catchType ≠ 0 ∧ Cond.classLink (my M).cls x.catchType E ∈ kU ∧ E ∈ kX4 ∧ khd M x.handlerPc v
theorem VH_back {p : Program} {e : Env} {R : Room} {s : State} {m : MethodId} {args : Array Value} {below : List Frame} {meth : Method} {c : Code} {H : Heap} {locs : List Loc} {cells slots : Nat} {ls : Array Slot} {st0 : List Value} {a : Array Value}
    (hr : vx_Run p (kl K) e R s m args below meth c H locs cells slots mc ms (F0 m pc ls st0) (st.map (ksh K)) (kQc K Q' a) (kXC K Q') (kA K))
    (hM : kDk M) (hC : kCxH tb K M p s m args meth c) (hB : mfr M ≤ R.frames ∧ mlo M ≤ R.locals ∧ cells + bc ≤ R.cells ∧ slots + bs ≤ R.slots) (hS : va_S (kA K) s.heap H locs) (hL : kLc K lc (mxl M) ls) (hb : mc + bc' ≤ bc ∧ ms + bs' ≤ bs)
    (kk : ∀ r G', Q' (.inl r) G' → VH tb K bc' bs' M (pc + 3) lc (r.toList ++ st) G' Q) (kx : ∀ E G', Q' (.inr E) G' → ∃ v, ktk M tb pc E v ∧ Q (.inl (some (.int v))) G') :
    W p (kl K) e R s m args below meth c H locs cells slots (vx_MQ below (kQc K Q) (kXC K Q) args s R.cells R.slots (kA K)) (F0 m pc ls st0) := by
  intro T hT X
  rcases hr T hT X with ⟨v, st₀, t, T', L, h0, X', hL9, e1, e2, ⟨r, G', hv, hq, hH', hF⟩, stp⟩ | ⟨q, st₀, t, T', L, E, ce, h0, X', hL9, e1, e2, ⟨G', hq, hH', hF⟩, hce, hcv, hcl, stp⟩
  · obtain ⟨k1, k2, k3⟩ := vx_keep h0 e1 hS (A1 := kA K) (fun _ _ z => z) (fun _ z => z) hL9 hF
    have hv' : v = r.map (ksh K) := by cases hv; rfl
    subst hv'
    have hst : (Option.map (ksh K) r).toList ++ st.map (ksh K) = (r.toList ++ st).map (ksh K) := by cases r <;> simp
    obtain ⟨t2, a1, b1⟩ := kk r G' hq hM p e R s m args below meth c T'.heap (locs ++ L) (cells + mc) (slots + ms) ls hC ⟨hB.1, hB.2.1, by omega, by omega⟩ k3 (by rw [e1]; exact hH') hL T' rfl X'
    refine ⟨t2, stp t2 ?_, b1⟩
    rw [hst]
    exact a1
  · obtain ⟨k1, k2, k3⟩ := vx_keep h0 e1 hS (A1 := kA K) (fun _ _ z => z) (fun _ z => z) hL9 hF
    obtain ⟨v, ⟨pre, x, suf, g1, g2, g3, g4, g5, g6, g7⟩, hqv⟩ := kx E G' hq
    have hts := hC.2.2.2.2.2.2.2.2.1
    have hwd : kW K s := hC.2.2.2.2.2.2.2.2.2
    have hN : kNn s := hwd.2.2.2.2.2.2
    obtain ⟨t2, a1, b1⟩ := kc_catch (p := p) (l := kl K) (e := e) (R := R) (s := s) (m := m) (args := args) (below := below) (meth := meth) (c := c) (H := T'.heap) (locs := locs ++ L) (cells := cells + mc) (slots := slots + ms) (ls := ls) (rest := st.map (ksh K)) (pc := pc) (E := E) (ce := ce) (q := q) hC.2.2.2.2.2.2.1 pre x suf (hC.2.2.2.2.2.2.2.1.trans g1)
      (fun z hz => by obtain ⟨a1, a2, nm, a3, a4, a5⟩ := g2 z hz; exact ⟨a1, a2, nm, hts _ a3, hN.2.2.2.2 E g6 nm a4 a5⟩) g3 g4 (hts _ g5) (va_Nw.use rfl (hN.2.2.2.1 E g6)) (by rw [e1]; exact hce) hcv hcl
      (g7.run hqv hM hC ⟨hB.1, hB.2.1, by omega, by omega⟩ k3 (by rw [e1]; exact hH') hL q) T' rfl X'
    exact ⟨t2, stp.trans a1, b1⟩
theorem VH_callV {idx np b ci : Nat} {As : List Value} {fs : List Value} (h : kf M pc = some (.invokevirtual idx, n, t)) (hw : kCw (my M).cls idx M' np) (hi : Cond.instanceMethod (my M') ∈ kU ∧ Cond.selects (my M').cls (my M') (my M') ∈ kU) (hb : G.1 b = some (.inr (ci, fs))) (hcl : (vwCl[ci]?).map (fun q => q.1) = some (my M').cls) (hnp : As.length = np) (hst : (st.map fun v => v.category).sum ≤ 8) (hR : mfr M' + 1 ≤ mfr M ∧ 8 + (mxl M' + 11) + mlo M' ≤ mlo M) (hbu : mc + bc' ≤ bc ∧ ms + bs' ≤ bs)
    (hc : C K mc ms M' (.ref b :: As) G Q') (kk : ∀ r G', Q' (.inl r) G' → VH tb K bc' bs' M n lc (r.toList ++ st) G' Q) (kx : ∀ E G', Q' (.inr E) G' → ∃ v, ktk M tb pc E v ∧ Q (.inl (some (.int v))) G') : VH tb K bc bs M pc lc (As.reverse ++ .ref b :: st) G Q := by
  intro hM p e R s m args below meth c H locs cells slots ls hC hB hS hH hL
  obtain ⟨hd, hn, -⟩ := hM.dec h rfl
  subst hn
  have hts := hC.2.2.2.2.2.2.2.2.1
  have hwd : kW K s := hC.2.2.2.2.2.2.2.2.2
  have hrecv : ∃ cellB : Cell, H[kad K b]? = some cellB ∧ cellB.vm.isStatics = false ∧ s.vm.findClass (my M').cls = some cellB.cls := by
    obtain ⟨r, h1, cell, g1, g2, g3, -⟩ := (hH.1 b _ hb).2
    rw [h1] at hcl
    have e9 : r.1 = (my M').cls := Option.some.inj hcl
    exact ⟨cell, g1, by rw [g3]; rfl, by rw [g2, ← e9]; exact (hwd.2.1.1 ci r h1).2.1⟩
  refine VH_back (vx_runV (As := As.map (ksh K)) (rest := st.map (ksh K)) (C := (my M').cls) (b := kad K b) (n := np) (mc := mc) (ms := ms) (Ts := kU) (Pc := kPc K (.ref b :: As) G) ⟨hC.1, hC.2.1, hC.2.2.1, hC.2.2.2.2.2.2.1, hts⟩ hc ⟨kCB (K := K) hts hw (Nat.le_trans hR.1 hB.1) (Nat.le_trans hR.2 hB.2.1), hts _ hi.1, hts _ hi.2⟩ ⟨kPc_blind _ _ _, hrecv, kPc_at hwd hS hH⟩ rfl (by simpa using hnp) hL.1 (by simp [ksh]) (by rw [ksh_sum]; show 2 * 0 + _ ≤ 8; omega) hd ⟨by omega, by omega⟩) hM hC hB hS hL hbu kk kx
/-- a contract out of its body's walk -/
theorem CH_of {hh : List (Nat × Nat × Nat × Nat)} {As : List Value} (hM : kOKH M hh) (hl : (lg_sl As).length ≤ mxl M) (h : VH (tableOf hh) K mc ms M 0 (kla As) [] G Q) : CH K mc ms M hh As G Q := by
  refine vx_ofWH (cc := mby M) (maxL := mxl M) (ret := mrt M) hM.2.1.1 rfl ?_
  intro p e s m args below meth c s₁ B hml hv
  obtain ⟨rfl, hw, hH⟩ := hv
  have hts := atoms_spec (ws := Cond.codeWith (my M) (mby M) (mxl M) (mrt M) hh :: kU) B.pre
  have htab := vx_table (x := my M) B (hts _ List.mem_cons_self)
  have hown : s.vm.findClass (my M).cls = some m.cls := findClass_of_methodNamed B.named
  have hsl : (lg_sl (As.map (ksh K))).length = (lg_sl As).length := by
    unfold lg_sl
    simp only [List.length_flatMap, List.map_map]
    congr 1
    refine List.map_congr_left (fun v _ => ?_)
    simp only [Function.comp, ksh_cat]
    split <;> rfl
  have hlv := lv_entry (As.map (ksh K)) (n := mxl M) (by rw [hsl]; exact hl)
  rw [lg_entry_eq]
  exact h hM.2.2.1 p e _ s m _ below meth c s.heap [] 0 0 _ ⟨B.exec, B.bytes, hml, B.returns, B.notSynchronized, fun q => (name_of_methodNamed B.named B.method).1.trans q, hown, htab, fun w hw9 => hts w (List.mem_cons_of_mem _ hw9), hw⟩ ⟨Nat.le_refl _, Nat.le_refl _, Nat.le_of_eq (Nat.zero_add _), Nat.le_of_eq (Nat.zero_add _)⟩ va_S.rf hH (kla_ok hlv)
/-- a static call of such a method -/
theorem V_callSH {hh : List (Nat × Nat × Nat × Nat)} {idx np : Nat} {As : List Value} (h : kf M pc = some (.invokestatic idx, n, t)) (hw : Cond.methodLink (my M).cls idx (my M') ∈ kU ∧ kOKH M' hh ∧ (parseMethodDescriptor (my M').desc).map (fun d => d.parameters.length) = some np) (hi : Cond.static (my M') ∈ kU) (hnp : As.length = np) (hst : (st.map fun v => v.category).sum ≤ 8) (hR : mfr M' + 1 ≤ mfr M ∧ 8 + (mxl M' + 11) + mlo M' ≤ mlo M) (hbu : mc + bc' ≤ bc ∧ ms + bs' ≤ bs)
    (hc : CH K mc ms M' hh As G Q') (kk : ∀ r G', Q' (.inl r) G' → V K bc' bs' M n lc (r.toList ++ st) G' Q) (kx : ∀ E G', Q' (.inr E) G' → Q (.inr E) G') : V K bc bs M pc lc (As.reverse ++ st) G Q := by
  intro hM p e R s m args below meth c H locs cells slots ls hC hB hS hH hL
  obtain ⟨hd, hn, -⟩ := hM.dec h rfl
  subst hn
  have hts := hC.2.2.2.2.2.2.2.2.1
  have hwd : kW K s := hC.2.2.2.2.2.2.2.2.2
  obtain ⟨w1, w2, w3⟩ := hw
  refine V_back (vx_runSX (hh := hh) (As := As.map (ksh K)) (rest := st.map (ksh K)) (n := np) (mc := mc) (ms := ms) (Ts := kU) (Pc := kPc K As G) (bytes := mby M') (maxL := mxl M') (ret := mrt M') (own := (my M).cls) (index := idx) ⟨hC.1, hC.2.1, hC.2.2.1, hC.2.2.2.2.2.2.1, hts⟩ hc ⟨⟨rfl, rfl, Nat.le_trans hR.1 hB.1, Nat.le_trans hR.2 hB.2.1, ?_, List.mem_cons_self⟩, hts _ w2.1, hts _ w2.2.2.2, w2.2.1.2, fun sig h => ?_, hts _ w1, hts _ hi⟩ ⟨kPc_blind _ _ _, kPc_at hwd hS hH⟩ rfl (by simpa using hnp) hL.1 (by simp) (by rw [ksh_sum]; show 2 * 0 + _ ≤ 8; omega) hd ⟨by omega, by omega⟩) hM hC hB hS hL hbu kk kx
  · intro w hw a' U hW
    rcases List.mem_cons.mp hw with rfl | hw
    · exact word_at hW (good_of_word (kU_good w2.1)) (hts _ w2.1)
    · exact word_at hW (good_of_word (kU_good hw)) (hts _ hw)
  · rw [h] at w3
    exact (Option.some.inj w3).symm
end KVH
section KFp
variable {G : kG} {T : TB}
theorem RC.fp {S : SG} {G' : kG} (h : RC S G) (e : ∀ j, j < 140 → G'.1 j = G.1 j) : RC S G' := by
  obtain ⟨hT, hE⟩ := h
  obtain ⟨m, b, hi1, hi2⟩ := hT.2.2.2.2.2.2.2.1
  obtain ⟨m2, b2, ho1, ho2⟩ := hT.2.2.2.2.2.2.2.2.1
  exact ⟨hT.up (hT.1.fp (fun j a c => e j (by omega))) (hT.2.1.fp (fun j a c => e j (by omega))) (hT.2.2.1.fp (fun j a c => e j (by omega))) (fun c a d => by obtain ⟨b, hb⟩ := hT.2.2.2.2.2.1 c a d; exact ⟨b, (e c (by omega)).trans hb⟩) ⟨m, b, (e _ (by omega)).trans hi1, (e _ (by omega)).trans hi2⟩ ⟨m2, b2, (e _ (by omega)).trans ho1, (e _ (by omega)).trans ho2⟩ (fun j hj => e j (by omega)), fun k hk => (hE k hk).fp (fun j a c => e j (by unfold EB at c; omega))⟩
theorem RMA.fp {S : SG} {th : Int32} {G' : kG} (h : RMA T S th G) (e : ∀ j, 140 ≤ j → j ≤ 183 → G'.1 j = G.1 j) : RMA T S th G' := by
  obtain ⟨h1, h2, h3, a, b, c, d⟩ := h
  exact ⟨h1.fp (fun j a c => e j (by omega) (by omega)), h2.fp (e _ (by omega) (by omega)), h3.fp (e _ (by omega) (by omega)), a, b, c, (e _ (by omega) (by omega)).trans d⟩
end KFp
