/-! THE CLEAN MACHINE: a heap of numbered cells, locals by a function, a judgement V of one activation, a judgement C of a call. -/
abbrev kE : Type := (Nat × vp_A) ⊕ (Nat × List Value)
abbrev kG : Type := (Nat → Option kE) × Option Nat
abbrev kLo : Type := Nat → Option Value
abbrev kM : Type := Nat × MethodName × ByteArray × Nat × Option FieldType × List (Nat × Instr × Nat × Nat) × Nat × Nat
abbrev kK : Type := Launch × va_G × Nat × (Nat → Nat) × (Nat → Nat) × (Nat → Option (Nat × (Nat → Int32)))
abbrev kO : Type := Option Value ⊕ String
abbrev mcn (M : kM) : Nat := M.1
abbrev my (M : kM) : MethodName := M.2.1
abbrev mby (M : kM) : ByteArray := M.2.2.1
abbrev mxl (M : kM) : Nat := M.2.2.2.1
abbrev mrt (M : kM) : Option FieldType := M.2.2.2.2.1
abbrev mco (M : kM) : List (Nat × Instr × Nat × Nat) := M.2.2.2.2.2.1
abbrev mfr (M : kM) : Nat := M.2.2.2.2.2.2.1
abbrev mlo (M : kM) : Nat := M.2.2.2.2.2.2.2
abbrev kl (K : kK) : Launch := K.1
abbrev kD (K : kK) : va_G := K.2.1
abbrev kb (K : kK) : Nat := K.2.2.1
abbrev ksd (K : kK) : Nat → Nat := K.2.2.2.1
abbrev ktc (K : kK) : Nat → Nat := K.2.2.2.2.1
abbrev kSX (K : kK) : Nat → Option (Nat × (Nat → Int32)) := K.2.2.2.2.2
/-- a cell's address: the cells that the run makes lie one behind the other; from a million on stand rows that were there before -/
def kad (K : kK) (k : Nat) : Nat := if k < 1000000 then kb K + k else ksd K (k - 1000000)
def ksh (K : kK) : Value → Value
  | .ref k => .ref (kad K k)
  | v => v
def kshE (K : kK) : kE → va_E
  | .inl (t, n, .inr (.inr (.inr (.inr f)))) => .inl (ktc K t, n, .inr (.inr (.inr (.inr (fun j => (f j).map (kad K))))))
  | .inl (t, a) => .inl (ktc K t, a)
  | .inr (ci, fs) => .inr (ci, fs.map (ksh K))
def kA (K : kK) : Nat → Prop := fun q => kb K ≤ q
def ktys (K : kK) : List (ClassId × FieldType) := [(ktc K 0, .int), (ktc K 1, .byte), (ktc K 2, .long), (ktc K 3, .boolean), (ktc K 4, .object RX6)]
/-- the static rows that the class reads -/
def kst : Nat → Option (String × String × String)
  | 0 => some (RX11, "NINE", "[I")
  | 1 => some (RX3, "FIRST", "[I")
  | 2 => some (RX3, "ROUND", "[I")
  | 3 => some (RX8, "QUARTERS", "[I")
  | _ => none
def kU : List Cond := lw_tbl.filter goodWord
/-- constructors of nest mates: class, place, method -/
def kNs : List (String × Nat × MethodName) := [("SealedWire", 9, (⟨"SealedWire$Curve", "<init>", "()V"⟩ : MethodName)), ("SealedWire", 18, (⟨"SealedWire$Hasher", "<init>", "()V"⟩ : MethodName)), ("SealedWire", 25, (⟨"SealedWire$Sealer", "<init>", "()V"⟩ : MethodName)), ("SealedWire$Sealer", 11, (⟨"SealedWire$Streamer", "<init>", "()V"⟩ : MethodName)), ("SealedWire$Sealer", 20, (⟨"SealedWire$Tagger", "<init>", "()V"⟩ : MethodName)), ("SealedWire", 32, (⟨"SealedWire$End", "<init>", "()V"⟩ : MethodName)), ("SealedWire$End", 39, (⟨"SealedWire$Keys", "<init>", "()V"⟩ : MethodName)), ("SealedWire$End", 49, (⟨"SealedWire$Exchange", "<init>", "()V"⟩ : MethodName)), ("SealedWire$Exchange", 26, (⟨"SealedWire$Keys", "<init>", "()V"⟩ : MethodName))]
def kX4 : List String := ["java/lang/IllegalArgumentException", "java/lang/IllegalStateException", "java/lang/IndexOutOfBoundsException", "java/util/NoSuchElementException"]
def kDc : List MethodName := [⟨"java/lang/RuntimeException", "<init>", "()V"⟩, ⟨"java/lang/Exception", "<init>", "()V"⟩, ⟨"java/lang/Throwable", "<init>", "()V"⟩]
def kNn (U : State) : Prop := (∀ q ∈ kNs, va_Nw (.methodLinkNest q.1 q.2.1 q.2.2 RX11) U) ∧ va_AO RX6 U ∧ (∀ y ∈ kDc, va_Nw (.declares y) U) ∧ (∀ E ∈ kX4, va_Nw (.castable E E) U) ∧ ∀ E ∈ kX4, ∀ F ∈ kX4, E ≠ F → va_Nc E F U
theorem kNn.warm {s U : State} (hW : s.WarmedH U.vm) (h : kNn s) : kNn U :=
  ⟨fun q hq => va_Nw.warmM hW (h.1 q hq), h.2.1.moved hW.alike, fun y hy => va_Nw.warmD hW (h.2.2.1 y hy), fun E hE => va_Nw.warmC hW (h.2.2.2.1 E hE), fun E hE F hF hne => (h.2.2.2.2 E hE F hF hne).moved hW.alike⟩
def kW (K : kK) (U : State) : Prop :=
  (kl K).stackTraces = false ∧ va_K (kD K) vwCl (ktys K) U ∧ (∀ j L xs, kSX K j = some (L, xs) → ksd K j < kb K ∧ va_X (ksd K j) L xs U U.heap) ∧
  (∀ j C n d, kst j = some (C, n, d) → va_Z C n d (.ref (ksd K j)) (kA K) U U.heap) ∧
  (vx_Zq Bundle.tN "UNASSIGNED_STACK" Bundle.steD (kA K) U U.heap ∧ vx_Zq Bundle.tN "SUPPRESSED_SENTINEL" Bundle.listD (kA K) U U.heap) ∧
  kb K ≤ U.heap.size ∧ kNn U
def kH (K : kK) (G : kG) (H : Heap) : Prop :=
  (∀ k e, G.1 k = some e → k < 1000000 ∧ va_at (kD K) vwCl (kad K k, kshE K e) H) ∧ ∀ nx, G.2 = some nx → H.size = kb K + nx ∧ nx < 900000
/-- what stands behind a value of two words -/
def kmk : Value := .retAddr 0
/-- a local is held: one word, or two words whose second half is still its own -/
def kokv (lc : kLo) (i : Nat) (v : Value) : Prop := (v.category = 1 ∧ v ≠ kmk) ∨ (v.category = 2 ∧ lc (i + 1) = some kmk)
def kLc (K : kK) (lc : kLo) (nL : Nat) (ls : Array Slot) : Prop := ls.size = nL ∧ lv_wf ls ∧ ∀ i v, lc i = some v → kokv lc i v → ls[i]? = some (.val (ksh K v))
def hup (G : kG) (k : Nat) (e : kE) : kG := (fun j => if j = k then some e else G.1 j, G.2)
/-- a value of one word, of two words, is put into the locals -/
def ls1 (lc : kLo) (i : Nat) (v : Value) : kLo := fun j => if j = i then some v else lc j
def ls2 (lc : kLo) (i : Nat) (v : Value) : kLo := fun j => if j = i then some v else if j = i + 1 then some kmk else lc j
def kar : Nat → List Value → List (Nat × Value)
  | _, [] => []
  | i, v :: vs => if v.category = 2 then (i, v) :: (i + 1, kmk) :: kar (i + 2) vs else (i, v) :: kar (i + 1) vs
def kla (As : List Value) : kLo := fun i => ((kar 0 As).find? (fun q => Nat.beq q.1 i)).map (fun q => q.2)
def kf (M : kM) (pc : Nat) : Option (Instr × Nat × Nat) := ((mco M).find? (fun q => Nat.beq q.1 pc)).map (fun q => q.2)
def klen : Instr → Nat
  | .aload _ | .astore _ | .iload _ | .istore _ | .lload _ | .lstore _ | .bipush _ | .ldc _ | .newarray _ => 2
  | .anewarray _ | .getfield _ | .getstatic _ | .goto _ | .if_acmp _ _ | .if_icmp _ _ | .ifCond _ _ | .ifnonnull _ | .ifnull _ | .iinc _ _ | .invokespecial _ | .invokestatic _ | .invokevirtual _ | .ldc2_w _ | .new _ | .putfield _ | .sipush _ => 3
  | _ => 1
def koff : Instr → Option Int
  | .goto o | .if_acmp _ o | .if_icmp _ o | .ifCond _ o => some o
  | _ => none
def kisw : Instr → Bool
  | .lookupswitch _ _ | .tableswitch _ _ _ _ => true
  | _ => false
def kck1 (b : ByteArray) (q : Nat × Instr × Nat × Nat) : Bool :=
  (if kisw q.2.1 then decide (decode b q.1 = .ok (q.2.1, q.2.2.1 - q.1)) else decide (decode b q.1 = .ok (q.2.1, klen q.2.1)) && Nat.beq q.2.2.1 (q.1 + klen q.2.1)) &&
  (match koff q.2.1 with | some o => decide ((q.1 : Int) + o = (q.2.2.2 : Int)) | none => true)
def kchk (M : kM) : Bool := (mco M).all (kck1 (mby M))
def kDk (M : kM) : Prop := kchk M = true
def kOK (M : kM) : Prop := Cond.code (my M) (mby M) (mxl M) (mrt M) ∈ kU ∧ (plainName (my M).cls = true ∧ (my M).cls ≠ "java/lang/invoke/MethodHandle" ∧ (my M).cls ≠ "java/lang/invoke/VarHandle") ∧ kchk M = true ∧ Cond.initialized (my M).cls ∈ kU
theorem kDk.dec {M : kM} (h : kDk M) {pc n t : Nat} {i : Instr} (hf : kf M pc = some (i, n, t)) (hs : kisw i = false) : decode (mby M) pc = .ok (i, klen i) ∧ n = pc + klen i ∧ ∀ o, koff i = some o → (pc : Int) + o = (t : Int) := by
  have hc : kchk M = true := h
  unfold kf at hf
  obtain ⟨q, hq, he⟩ := Option.map_eq_some_iff.mp hf
  have hm := List.mem_of_find?_eq_some hq
  have hp := List.find?_some hq
  have h1 := List.all_eq_true.mp hc q hm
  obtain ⟨q1, q2, q3, q4⟩ := q
  cases he
  have hpc : q1 = pc := Nat.eq_of_beq_eq_true hp
  subst hpc
  simp only [kck1, hs, Bool.false_eq_true, if_false, Bool.and_eq_true, decide_eq_true_eq] at h1
  refine ⟨h1.1.1, Nat.eq_of_beq_eq_true h1.1.2, fun o ho => ?_⟩
  have h2 := h1.2
  rw [ho] at h2
  simpa using h2
theorem kDk.sw {M : kM} (h : kDk M) {pc n t : Nat} {i : Instr} (hf : kf M pc = some (i, n, t)) (hs : kisw i = true) : decode (mby M) pc = .ok (i, n - pc) := by
  have hc : kchk M = true := h
  unfold kf at hf
  obtain ⟨q, hq, he⟩ := Option.map_eq_some_iff.mp hf
  have hm := List.mem_of_find?_eq_some hq
  have hp := List.find?_some hq
  have h1 := List.all_eq_true.mp hc q hm
  obtain ⟨q1, q2, q3, q4⟩ := q
  cases he
  have hpc : q1 = pc := Nat.eq_of_beq_eq_true hp
  subst hpc
  simp only [kck1, hs, if_true, Bool.and_eq_true, decide_eq_true_eq] at h1
  exact h1.1
theorem ksh_cat (K : kK) (v : Value) : (ksh K v).category = v.category := by cases v <;> rfl
theorem ksh_sum (K : kK) (st : List Value) : ((st.map (ksh K)).map fun v => v.category).sum = (st.map fun v => v.category).sum := by
  rw [List.map_map]
  congr 1
  exact List.map_congr_left (fun v _ => ksh_cat K v)
theorem kad_inj {K : kK} {i j : Nat} (hi : i < 1000000) (hj : j < 1000000) (h : kad K i = kad K j) : i = j := by
  simp only [kad, hi, hj, if_true] at h
  omega
theorem kad_lt {K : kK} {i : Nat} (hi : i < 1000000) : kad K i = kb K + i := by simp [kad, hi]
theorem kH.set {K : kK} {G : kG} {H H1 : Heap} {k : Nat} {e0 e : kE} (h : kH K G H) (hk : G.1 k = some e0) (he : va_at (kD K) vwCl (kad K k, kshE K e) H1) (hz : H1.size = H.size) (ho : ∀ q : Nat, q ≠ kad K k → H1[q]? = H[q]?) : kH K (hup G k e) H1 := by
  have hk1 := (h.1 k e0 hk).1
  refine ⟨fun j e' hj => ?_, fun nx hn => ?_⟩
  · simp only [hup] at hj
    by_cases hjk : j = k
    · subst hjk
      rw [if_pos rfl] at hj
      cases hj
      exact ⟨hk1, he⟩
    · rw [if_neg hjk] at hj
      obtain ⟨h1, h2⟩ := h.1 j e' hj
      exact ⟨h1, h2.kept (ho _ (fun q => hjk (kad_inj h1 hk1 q)))⟩
  · rw [hz]; exact h.2 nx hn
theorem kH.push {K : kK} {G : kG} {H H1 : Heap} {nx : Nat} {e : kE} (h : kH K G H) (hn : G.2 = some nx) (hn2 : nx < 899999) (he : va_at (kD K) vwCl (kad K nx, kshE K e) H1) (hz : H1.size = H.size + 1) (ho : ∀ q : Nat, q < H.size → H1[q]? = H[q]?) : kH K (fun j => if j = nx then some e else G.1 j, some (nx + 1)) H1 := by
  refine ⟨fun j e' hj => ?_, fun n2 hn3 => ?_⟩
  · simp only at hj
    by_cases hjk : j = nx
    · subst hjk
      rw [if_pos rfl] at hj
      cases hj
      exact ⟨by omega, he⟩
    · rw [if_neg hjk] at hj
      obtain ⟨h1, h2⟩ := h.1 j e' hj
      exact ⟨h1, h2.kept (ho _ h2.lt)⟩
  · cases hn3
    have := (h.2 nx hn).1
    exact ⟨by omega, by omega⟩
theorem kH.close {K : kK} {G : kG} {H H1 : Heap} (h : kH K G H) (ho : ∀ q : Nat, q < H.size → H1[q]? = H[q]?) : kH K (G.1, none) H1 :=
  ⟨fun j e' hj => ⟨(h.1 j e' hj).1, (h.1 j e' hj).2.kept (ho _ (h.1 j e' hj).2.lt)⟩, fun _ h => nomatch h⟩
/-- what a method's end owes: its answer and the cells, or a thrown class and the cells -/
def kQc (K : kK) (Q : kO → kG → Prop) : Array Value → State → Outcome → State → Prop := fun _ st o t => ∃ (r : Option Value) (G' : kG), o = .returned (r.map (ksh K)) ∧ Q (.inl r) G' ∧ kH K G' t.heap ∧ va_F (kA K) st t
def kXC (K : kK) (Q : kO → kG → Prop) : String → State → State → Prop := fun E st t => ∃ G' : kG, Q (.inr E) G' ∧ kH K G' t.heap ∧ va_F (kA K) st t
def kPc (K : kK) (As : List Value) (G : kG) : Array Value → State → Prop := fun v U => v = (As.map (ksh K)).toArray ∧ kW K U ∧ kH K G U.heap
def kCx (K : kK) (M : kM) (p : Program) (s : State) (m : MethodId) (args : Array Value) (meth : Method) (c : Code) : Prop :=
  p.tables.exec = Jvm.exec ∧ c.code = mby M ∧ c.maxLocals = mxl M ∧ meth.sig.returnType = mrt M ∧ meth.locks = false ∧ ((my M).name = "<init>" → meth.name = "<init>") ∧ s.vm.findClass (my M).cls = some m.cls ∧ (∀ x ∈ c.exceptionTable.toList, False) ∧ (∀ w ∈ kU, w.before args s = true) ∧ kW K s
def V (K : kK) (bc bs : Nat) (M : kM) (pc : Nat) (lc : kLo) (st : List Value) (G : kG) (Q : kO → kG → Prop) : Prop :=
  kDk M → ∀ (p : Program) (e : Env) (R : Room) (s : State) (m : MethodId) (args : Array Value) (below : List Frame) (meth : Method) (c : Code) (H : Heap) (locs : List Loc) (cells slots : Nat) (ls : Array Slot),
    kCx K M p s m args meth c → mfr M ≤ R.frames ∧ mlo M ≤ R.locals ∧ cells + bc ≤ R.cells ∧ slots + bs ≤ R.slots → va_S (kA K) s.heap H locs → kH K G H → kLc K lc (mxl M) ls →
    W p (kl K) e R s m args below meth c H locs cells slots (vx_MQ below (kQc K Q) (kXC K Q) args s R.cells R.slots (kA K)) (F0 m pc ls (st.map (ksh K)))
def C (K : kK) (mc ms : Nat) (M : kM) (As : List Value) (G : kG) (Q : kO → kG → Prop) : Prop :=
  vx_Met (kl K) (my M) (Cond.code (my M) (mby M) (mxl M) (mrt M) :: kU) { frames := mfr M, cells := mc, slots := ms, locals := mlo M } (kPc K As G) (kQc K Q) (kXC K Q) mc ms (kA K)
theorem lv_args_map (K : kK) : ∀ (As : List Value) (k : Nat), lv_args k (As.map (ksh K)) = (lv_args k As).map (fun q => (q.1, ksh K q.2))
  | [], k => rfl
  | v :: vs, k => by
    simp only [List.map_cons, lv_args, ksh_cat]
    rw [lv_args_map K vs]
theorem kar_mem : ∀ (As : List Value) (k : Nat) (q : Nat × Value), q ∈ kar k As → q.2 = kmk ∨ q ∈ lv_args k As
  | [], k, q, h => by cases h
  | v :: vs, k, q, h => by
    unfold kar at h
    unfold lv_args
    by_cases hc : v.category = 2
    · rw [if_pos hc] at h ⊢
      rcases List.mem_cons.mp h with rfl | h
      · exact Or.inr List.mem_cons_self
      · rcases List.mem_cons.mp h with rfl | h
        · exact Or.inl rfl
        · exact (kar_mem vs (k + 2) q h).imp id (List.mem_cons_of_mem _)
    · rw [if_neg hc] at h ⊢
      rcases List.mem_cons.mp h with rfl | h
      · exact Or.inr List.mem_cons_self
      · exact (kar_mem vs (k + 1) q h).imp id (List.mem_cons_of_mem _)
theorem kla_ok {K : kK} {As : List Value} {n : Nat} {ls : Array Slot} (h : lv_has ls n (lv_args 0 (As.map (ksh K)))) : kLc K (kla As) n ls := by
  refine ⟨h.1, h.2.1, fun i v hv hok => ?_⟩
  have hmk : v ≠ kmk := by
    rcases hok with q | q
    · exact q.2
    · intro e; rw [e] at q; cases q.1
  unfold kla at hv
  obtain ⟨q, hq, he⟩ := Option.map_eq_some_iff.mp hv
  have hm := List.mem_of_find?_eq_some hq
  have hp0 := List.find?_some hq
  have hp : q.1 = i := Nat.eq_of_beq_eq_true hp0
  subst hp
  subst he
  rcases kar_mem _ _ _ hm with e | hm
  · exact absurd e hmk
  refine h.2.2 (q.1, ksh K q.2) ?_
  rw [lv_args_map]
  exact List.mem_map.mpr ⟨q, hm, rfl⟩
theorem kW.moved {K : kK} {u U : State} (hW : u.WarmedH U.vm) (hh : kb K ≤ U.heap.size ∧ ∀ q : Nat, q < u.heap.size → ¬ kA K q → U.heap[q]? = u.heap[q]?) (h : kW K u) : kW K U := by
  obtain ⟨h1, h2, h3, h4, ⟨h5, h6⟩, h7, h8⟩ := h
  have hvm := hW.alike
  refine ⟨h1, h2.moved hvm, fun j L xs hj => ⟨(h3 j L xs hj).1, ?_⟩, fun j C n d hj => ?_, ⟨?_, ?_⟩, hh.1, h8.warm hW⟩
  · obtain ⟨q1, q2⟩ := h3 j L xs hj
    refine va_X.moved hvm (q2.kept (hh.2 _ ?_ ?_))
    · omega
    · exact Nat.not_le.mpr q1
  · exact va_Z.moved hvm ((h4 j C n d hj).kept hh.2)
  · exact vx_Zq.moved hvm (h5.kept hh.2)
  · exact vx_Zq.moved hvm (h6.kept hh.2)
theorem kPc_blind (K : kK) (As : List Value) (G : kG) : FrameBlind (kPc K As G) := by
  intro a U g mk h
  obtain ⟨h1, h2, h3⟩ := h
  refine ⟨h1, ?_, h3⟩
  exact kW.moved (u := U) (U := U.calling g mk a) (State.WarmedH.refl U) ⟨h2.2.2.2.2.2.1, fun q _ _ => rfl⟩ h2
theorem kPc_at {K : kK} {As : List Value} {G : kG} {s : State} {H : Heap} {locs : List Loc} (hw : kW K s) (hS : va_S (kA K) s.heap H locs) (hH : kH K G H) : ∀ U : State, U.heap = H → s.WarmedH U.vm → kPc K As G (As.map (ksh K)).toArray U := by
  intro U hU hW
  subst hU
  exact ⟨rfl, hw.moved hW ⟨Nat.le_trans hw.2.2.2.2.2.1 hS.1, hS.2.1⟩, hH⟩
/-- a contract out of its body's walk -/
theorem C_of {K : kK} {mc ms : Nat} {M : kM} {As : List Value} {G : kG} {Q : kO → kG → Prop} (hM : kOK M) (hl : (lg_sl As).length ≤ mxl M) (h : V K mc ms M 0 (kla As) [] G Q) : C K mc ms M As G Q := by
  refine vx_ofW (cc := mby M) (maxL := mxl M) (ret := mrt M) hM.2.1.1 rfl ?_
  intro p e s m args below meth c s₁ B hml htab hv
  obtain ⟨rfl, hw, hH⟩ := hv
  have hts := atoms_spec (ws := Cond.code (my M) (mby M) (mxl M) (mrt M) :: kU) B.pre
  have hown : s.vm.findClass (my M).cls = some m.cls := findClass_of_methodNamed B.named
  have hsl : (lg_sl (As.map (ksh K))).length = (lg_sl As).length := by
    unfold lg_sl
    simp only [List.length_flatMap, List.map_map]
    congr 1
    refine List.map_congr_left (fun v _ => ?_)
    simp only [Function.comp, ksh_cat]
    split <;> rfl
  have hlv := lv_entry (As.map (ksh K)) (n := mxl M) (by rw [hsl]; exact hl)
  rw [lg_entry_eq]
  exact h hM.2.2.1 p e _ s m _ below meth c s.heap [] 0 0 _ ⟨B.exec, B.bytes, hml, B.returns, B.notSynchronized, fun q => (name_of_methodNamed B.named B.method).1.trans q, hown, htab, fun w hw9 => hts w (List.mem_cons_of_mem _ hw9), hw⟩ ⟨Nat.le_refl _, Nat.le_refl _, Nat.le_of_eq (Nat.zero_add _), Nat.le_of_eq (Nat.zero_add _)⟩ va_S.rf hH (kla_ok hlv)
