/-! rows that make cells; calls; throws -/
theorem ksh_def (K : kK) (ty : FieldType) : ksh K (defaultValue ty) = defaultValue ty := by cases ty <;> rfl
theorem kU_good {w : Cond} (h : w ∈ kU) : goodWord w = true := (List.mem_filter.mp h).2
/-- the words of a call -/
def kCw (own : String) (idx : Nat) (M' : kM) (np : Nat) : Prop := Cond.methodLink own idx (my M') ∈ kU ∧ kOK M' ∧ (parseMethodDescriptor (my M').desc).map (fun d => d.parameters.length) = some np
theorem kCB {K : kK} {M' : kM} {R : Room} {s : State} {args : Array Value} {own : String} {idx np mc ms : Nat} (hts : ∀ w ∈ kU, w.before args s = true) (hw : kCw own idx M' np) (hfr : mfr M' + 1 ≤ R.frames) (hlo : 8 + (mxl M' + 11) + mlo M' ≤ R.locals) :
    CallB R s args own idx (my M') (mby M') (mxl M') (mrt M') (Cond.code (my M') (mby M') (mxl M') (mrt M') :: kU) { frames := mfr M', cells := mc, slots := ms, locals := mlo M' } mc ms np := by
  obtain ⟨h1, h2, h3⟩ := hw
  refine ⟨rfl, rfl, hfr, hlo, ?_, List.mem_cons_self, hts _ h2.1, hts _ h2.2.2.2, h2.2.1.2, fun sig h => ?_, hts _ h1⟩
  · intro w hw a' U hW
    rcases List.mem_cons.mp hw with rfl | hw
    · exact word_at hW (good_of_word (kU_good h2.1)) (hts _ h2.1)
    · exact word_at hW (good_of_word (kU_good hw)) (hts _ hw)
  · rw [h] at h3
    exact (Option.some.inj h3).symm
theorem Met_of {l : Launch} {y : MethodName} {ws : List Cond} {rm : Room} {Pc : Array Value → State → Prop} {Qc : Array Value → State → Outcome → State → Prop} {XC : String → State → State → Prop} {mc ms : Nat} {free : Addr → Prop} (h : vx_Met l y ws rm Pc Qc XC mc ms free) (hx : ∀ E s t, ¬ XC E s t) : Met l y ws rm Pc Qc mc ms free := by
  intro p e h1 h2 h3 s m args below h4 h5 h6 h7
  obtain ⟨n, o, g1, g2, g3, g4⟩ := h p e h1 h2 h3 s m args below h4 h5 h6 h7
  refine ⟨n, o, g1, g2, g3, ?_⟩
  rcases g4 with q | ⟨q, -, E, ce, L, hq, -⟩
  · exact q
  · exact absurd hq (hx _ _ _)
section KC
variable {K : kK} {bc bs bc' bs' mc ms : Nat} {M M' : kM} {pc n t : Nat} {lc : kLo} {st : List Value} {G : kG} {Q Q' : kO → kG → Prop}
/-- what comes behind a call -/
theorem V_back {p : Program} {e : Env} {R : Room} {s : State} {m : MethodId} {args : Array Value} {below : List Frame} {meth : Method} {c : Code} {H : Heap} {locs : List Loc} {cells slots : Nat} {ls : Array Slot} {st0 : List Value} {a : Array Value}
    (hr : vx_Run p (kl K) e R s m args below meth c H locs cells slots mc ms (F0 m pc ls st0) (st.map (ksh K)) (kQc K Q' a) (kXC K Q') (kA K))
    (hM : kDk M) (hC : kCx K M p s m args meth c) (hB : mfr M ≤ R.frames ∧ mlo M ≤ R.locals ∧ cells + bc ≤ R.cells ∧ slots + bs ≤ R.slots) (hS : va_S (kA K) s.heap H locs) (hL : kLc K lc (mxl M) ls) (hb : mc + bc' ≤ bc ∧ ms + bs' ≤ bs)
    (kk : ∀ r G', Q' (.inl r) G' → V K bc' bs' M (pc + 3) lc (r.toList ++ st) G' Q) (kx : ∀ E G', Q' (.inr E) G' → Q (.inr E) G') :
    W p (kl K) e R s m args below meth c H locs cells slots (vx_MQ below (kQc K Q) (kXC K Q) args s R.cells R.slots (kA K)) (F0 m pc ls st0) := by
  intro T hT X
  rcases hr T hT X with ⟨v, st₀, t, T', L, h0, X', hL9, e1, e2, ⟨r, G', hv, hq, hH', hF⟩, stp⟩ | ⟨q, st₀, t, T', L, E, ce, h0, X', hL9, e1, e2, ⟨G', hq, hH', hF⟩, hce, hcv, hcl, stp⟩
  · obtain ⟨k1, k2, k3⟩ := vx_keep h0 e1 hS (A1 := kA K) (fun _ _ z => z) (fun _ z => z) hL9 hF
    have hv' : v = r.map (ksh K) := by cases hv; rfl
    subst hv'
    have hst : (Option.map (ksh K) r).toList ++ st.map (ksh K) = (r.toList ++ st).map (ksh K) := by cases r <;> simp
    obtain ⟨t2, a1, b1⟩ := kk r G' hq hM p e R s m args below meth c T'.heap (locs ++ L) (cells + mc) (slots + ms) ls hC ⟨hB.1, hB.2.1, by omega, by omega⟩ k3 (by rw [e1]; exact hH') hL T' rfl X'
    refine ⟨t2, stp t2 ?_, b1⟩
    rw [hst]
    exact a1
  · obtain ⟨k1, k2, k3⟩ := vx_keep h0 e1 hS (A1 := kA K) (fun _ _ z => z) (fun _ z => z) hL9 hF
    obtain ⟨t2, a1, b1⟩ := vx_out (p := p) (l := kl K) (e := e) (R := R) (s := s) (m := m) (args := args) (below := below) (meth := meth) (c := c) (H := T'.heap) (locs := locs ++ L) (cells := cells + mc) (slots := slots + ms) (free := kA K) (ls := ls) (rest := st.map (ksh K)) (Qc := kQc K Q) (XC := kXC K Q) (pc := pc) (E := E) (ce := ce) (q := q) (mc := R.cells) (ms := R.slots)
      (fun x hx => (hC.2.2.2.2.2.2.2.1 x hx).elim) hC.2.2.2.2.1 (by rw [e1]; exact hce) hcv hcl (fun t9 ht9 _ => ⟨G', kx E G' hq, by rw [ht9, e1]; exact hH', k3.F ht9⟩) k3.2.2 (by omega) (by omega) T' rfl X'
    exact ⟨t2, stp.trans a1, b1⟩
theorem V_callV {idx np b ci : Nat} {As : List Value} {fs : List Value} (h : kf M pc = some (.invokevirtual idx, n, t)) (hw : kCw (my M).cls idx M' np) (hi : Cond.instanceMethod (my M') ∈ kU ∧ Cond.selects (my M').cls (my M') (my M') ∈ kU) (hb : G.1 b = some (.inr (ci, fs))) (hcl : (vwCl[ci]?).map (fun q => q.1) = some (my M').cls) (hnp : As.length = np) (hst : (st.map fun v => v.category).sum ≤ 8) (hR : mfr M' + 1 ≤ mfr M ∧ 8 + (mxl M' + 11) + mlo M' ≤ mlo M) (hbu : mc + bc' ≤ bc ∧ ms + bs' ≤ bs)
    (hc : C K mc ms M' (.ref b :: As) G Q') (kk : ∀ r G', Q' (.inl r) G' → V K bc' bs' M n lc (r.toList ++ st) G' Q) (kx : ∀ E G', Q' (.inr E) G' → Q (.inr E) G') : V K bc bs M pc lc (As.reverse ++ .ref b :: st) G Q := by
  intro hM p e R s m args below meth c H locs cells slots ls hC hB hS hH hL
  obtain ⟨hd, hn, -⟩ := hM.dec h rfl
  subst hn
  have hts := hC.2.2.2.2.2.2.2.2.1
  have hwd : kW K s := hC.2.2.2.2.2.2.2.2.2
  have hrecv : ∃ cellB : Cell, H[kad K b]? = some cellB ∧ cellB.vm.isStatics = false ∧ s.vm.findClass (my M').cls = some cellB.cls := by
    obtain ⟨r, h1, cell, g1, g2, g3, -⟩ := (hH.1 b _ hb).2
    rw [h1] at hcl
    have e9 : r.1 = (my M').cls := Option.some.inj hcl
    exact ⟨cell, g1, by rw [g3]; rfl, by rw [g2, ← e9]; exact (hwd.2.1.1 ci r h1).2.1⟩
  refine V_back (vx_runV (As := As.map (ksh K)) (rest := st.map (ksh K)) (C := (my M').cls) (b := kad K b) (n := np) (mc := mc) (ms := ms) (Ts := kU) (Pc := kPc K (.ref b :: As) G) ⟨hC.1, hC.2.1, hC.2.2.1, hC.2.2.2.2.2.2.1, hts⟩ hc ⟨kCB (K := K) hts hw (Nat.le_trans hR.1 hB.1) (Nat.le_trans hR.2 hB.2.1), hts _ hi.1, hts _ hi.2⟩ ⟨kPc_blind _ _ _, hrecv, kPc_at hwd hS hH⟩ rfl (by simpa using hnp) hL.1 (by simp [ksh]) (by rw [ksh_sum]; show 2 * 0 + _ ≤ 8; omega) hd ⟨by omega, by omega⟩) hM hC hB hS hL hbu kk kx
theorem V_callS {idx np : Nat} {As : List Value} (h : kf M pc = some (.invokestatic idx, n, t)) (hw : kCw (my M).cls idx M' np) (hi : Cond.static (my M') ∈ kU) (hnp : As.length = np) (hst : (st.map fun v => v.category).sum ≤ 8) (hR : mfr M' + 1 ≤ mfr M ∧ 8 + (mxl M' + 11) + mlo M' ≤ mlo M) (hbu : mc + bc' ≤ bc ∧ ms + bs' ≤ bs)
    (hc : C K mc ms M' As G Q') (kk : ∀ r G', Q' (.inl r) G' → V K bc' bs' M n lc (r.toList ++ st) G' Q) (kx : ∀ E G', Q' (.inr E) G' → Q (.inr E) G') : V K bc bs M pc lc (As.reverse ++ st) G Q := by
  intro hM p e R s m args below meth c H locs cells slots ls hC hB hS hH hL
  obtain ⟨hd, hn, -⟩ := hM.dec h rfl
  subst hn
  have hts := hC.2.2.2.2.2.2.2.2.1
  have hwd : kW K s := hC.2.2.2.2.2.2.2.2.2
  refine V_back (vx_runS (As := As.map (ksh K)) (rest := st.map (ksh K)) (n := np) (mc := mc) (ms := ms) (Ts := kU) (Pc := kPc K As G) ⟨hC.1, hC.2.1, hC.2.2.1, hC.2.2.2.2.2.2.1, hts⟩ hc ⟨kCB (K := K) hts hw (Nat.le_trans hR.1 hB.1) (Nat.le_trans hR.2 hB.2.1), hts _ hi⟩ ⟨kPc_blind _ _ _, kPc_at hwd hS hH⟩ rfl (by simpa using hnp) hL.1 (by simp) (by rw [ksh_sum]; show 2 * 0 + _ ≤ 8; omega) hd ⟨by omega, by omega⟩) hM hC hB hS hL hbu kk kx
/-- a run that returns, as one that returns or throws -/
theorem run_x {p : Program} {e : Env} {R : Room} {s : State} {m : MethodId} {args : Array Value} {below : List Frame} {meth : Method} {c : Code} {H : Heap} {locs : List Loc} {cells slots : Nat} {g : JFrame} {rest : List Value} {l : Launch} {Qa : State → Outcome → State → Prop} {XC : String → State → State → Prop} {free : Addr → Prop} (h : va_Run p l e R s m args below meth c H locs cells slots mc ms g rest Qa free) : vx_Run p l e R s m args below meth c H locs cells slots mc ms g rest Qa XC free := fun T hT X => Or.inl (h T hT X)
theorem V_callI {idx np b : Nat} {As : List Value} (h : kf M pc = some (.invokespecial idx, n, t)) (hw : kCw (my M).cls idx M' np) (hi : (my M').name = "<init>" ∧ Cond.instanceMethod (my M') ∈ kU ∧ mrt M' = none) (hnp : As.length = np) (hst : (st.map fun v => v.category).sum ≤ 8) (hR : mfr M' + 1 ≤ mfr M ∧ 8 + (mxl M' + 11) + mlo M' ≤ mlo M) (hbu : mc + bc' ≤ bc ∧ ms + bs' ≤ bs)
    (hc : C K mc ms M' (.ref b :: As) G Q') (kx : ∀ E G', ¬ Q' (.inr E) G') (kk : ∀ r G', Q' (.inl r) G' → V K bc' bs' M n lc (r.toList ++ st) G' Q) : V K bc bs M pc lc (As.reverse ++ .ref b :: st) G Q := by
  intro hM p e R s m args below meth c H locs cells slots ls hC hB hS hH hL
  obtain ⟨hd, hn, -⟩ := hM.dec h rfl
  subst hn
  have hts := hC.2.2.2.2.2.2.2.2.1
  have hwd : kW K s := hC.2.2.2.2.2.2.2.2.2
  have hcb := kCB (K := K) (mc := mc) (ms := ms) hts hw (Nat.le_trans hR.1 hB.1) (Nat.le_trans hR.2 hB.2.1)
  have hc' : Met (kl K) (my M') (Cond.code (my M') (mby M') (mxl M') (mrt M') :: kU) { frames := mfr M', cells := mc, slots := ms, locals := mlo M' } (kPc K (.ref b :: As) G) (kQc K Q') mc ms (kA K) := Met_of hc (fun E s t q => by obtain ⟨G', q, -⟩ := q; exact kx E G' q)
  rw [hi.2.2] at hcb hc'
  refine V_back (run_x (XC := kXC K Q') (va_runI (As := As.map (ksh K)) (rest := st.map (ksh K)) (b := kad K b) (n := np) (mc := mc) (ms := ms) (Ts := kU) (Pc := kPc K (.ref b :: As) G) ⟨hC.1, hC.2.1, hC.2.2.1, hC.2.2.2.2.2.2.1, hts⟩ hc' ⟨hcb, hi.1, hts _ hi.2.1⟩ ⟨kPc_blind _ _ _, kPc_at hwd hS hH⟩ rfl (by simpa using hnp) hL.1 (by simp [ksh]) (by rw [ksh_sum]; show 2 * 0 + _ ≤ 8; omega) hd ⟨by omega, by omega⟩)) hM hC hB hS hL hbu kk (fun E G' q => absurd q (kx E G'))
theorem V_callN {idx np b : Nat} {As : List Value} (h : kf M pc = some (.invokespecial idx, n, t)) (hns : ((my M).cls, idx, my M') ∈ kNs) (hOK : kOK M') (hpr : (parseMethodDescriptor (my M').desc).map (fun d => d.parameters.length) = some np) (hi : (my M').name = "<init>" ∧ Cond.instanceMethod (my M') ∈ kU ∧ mrt M' = none) (hnp : As.length = np) (hst : (st.map fun v => v.category).sum ≤ 8) (hR : mfr M' + 1 ≤ mfr M ∧ 8 + (mxl M' + 11) + mlo M' ≤ mlo M) (hbu : mc + bc' ≤ bc ∧ ms + bs' ≤ bs)
    (hc : C K mc ms M' (.ref b :: As) G Q') (kx : ∀ E G', ¬ Q' (.inr E) G') (kk : ∀ r G', Q' (.inl r) G' → V K bc' bs' M n lc (r.toList ++ st) G' Q) : V K bc bs M pc lc (As.reverse ++ .ref b :: st) G Q := by
  intro hM p e R s m args below meth c H locs cells slots ls hC hB hS hH hL
  obtain ⟨hd, hn, -⟩ := hM.dec h rfl
  subst hn
  have hts := hC.2.2.2.2.2.2.2.2.1
  have hwd : kW K s := hC.2.2.2.2.2.2.2.2.2
  have hc' : Met (kl K) (my M') (Cond.code (my M') (mby M') (mxl M') (mrt M') :: kU) { frames := mfr M', cells := mc, slots := ms, locals := mlo M' } (kPc K (.ref b :: As) G) (kQc K Q') mc ms (kA K) := Met_of hc (fun E s t q => by obtain ⟨G', q, -⟩ := q; exact kx E G' q)
  have hcn : va_CN R s args (my M).cls idx (my M') RX11 (mby M') (mxl M') (mrt M') (Cond.code (my M') (mby M') (mxl M') (mrt M') :: kU) { frames := mfr M', cells := mc, slots := ms, locals := mlo M' } mc ms np := by
    refine ⟨⟨rfl, rfl, Nat.le_trans hR.1 hB.1, Nat.le_trans hR.2 hB.2.1, ?_, List.mem_cons_self⟩, hts _ hOK.1, hts _ hOK.2.2.2, hOK.2.1.2, fun sig h => ?_, va_Nw.use rfl (hwd.2.2.2.2.2.2.1 _ hns)⟩
    · intro w hw a' U hW
      rcases List.mem_cons.mp hw with rfl | hw
      · exact word_at hW (good_of_word (kU_good hOK.1)) (hts _ hOK.1)
      · exact word_at hW (good_of_word (kU_good hw)) (hts _ hw)
    · rw [h] at hpr
      exact (Option.some.inj hpr).symm
  rw [hi.2.2] at hcn hc'
  refine V_back (run_x (XC := kXC K Q') (va_runIN (As := As.map (ksh K)) (rest := st.map (ksh K)) (b := kad K b) (n := np) (mc := mc) (ms := ms) (Ts := kU) (Pc := kPc K (.ref b :: As) G) ⟨hC.1, hC.2.1, hC.2.2.1, hC.2.2.2.2.2.2.1, hts⟩ hc' ⟨hcn, hi.1, hts _ hi.2.1⟩ ⟨kPc_blind _ _ _, kPc_at hwd hS hH⟩ rfl (by simpa using hnp) hL.1 (by simp [ksh]) (by rw [ksh_sum]; show 2 * 0 + _ ≤ 8; omega) hd ⟨by omega, by omega⟩)) hM hC hB hS hL hbu kk (fun E G' q => absurd q (kx E G'))
theorem V_objinit {idx b : Nat} (h : kf M pc = some (.invokespecial idx, n, t)) (hw : Cond.methodLink (my M).cls idx Lib.objectInit ∈ kU ∧ Cond.instanceMethod Lib.objectInit ∈ kU ∧ Cond.code Lib.objectInit ⟨#[0xb1]⟩ 1 none ∈ kU) (hfr : 1 ≤ mfr M) (hlo : (st.map fun v => v.category).sum + 12 ≤ mlo M) (kk : V K bc bs M n lc st G Q) : V K bc bs M pc lc (.ref b :: st) G Q := by
  intro hM p e R s m args below meth c H locs cells slots ls hC hB hS hH hL
  obtain ⟨hd, hn, -⟩ := hM.dec h rfl
  subst hn
  have hts := hC.2.2.2.2.2.2.2.2.1
  exact W.objInit hC.1 hC.2.1 hC.2.2.2.2.2.2.1 (hts _ hw.1) (hts _ hw.2.1) (hts _ hw.2.2) rfl (hL.1.trans hC.2.2.1.symm) rfl hd (Nat.le_trans hfr hB.1) (by rw [ksh_sum]; show 2 * 0 + _ + 12 ≤ _; omega) (kk hM p e R s m args below meth c H locs cells slots ls hC hB hS hH hL)
theorem V_new {idx ci N nx : Nat} {C9 : String} {T9 : u_T} {fs : List Value} (h : kf M pc = some (.new idx, n, t)) (hc : vwCl[ci]? = some (C9, T9, N)) (hw : Cond.classLink (my M).cls idx C9 ∈ kU ∧ Cond.instantiable C9 N ∈ kU ∧ Cond.initialized C9 ∈ kU) (hfs : (List.range N).map (fun k => defaultValue (kfty ci k)) = fs) (hnx : G.2 = some nx) (hx : nx < 899999) (hb : bc' + 1 ≤ bc ∧ bs' + N ≤ bs) (kk : V K bc' bs' M n lc (.ref nx :: st) (fun j => if j = nx then some (.inr (ci, fs)) else G.1 j, some (nx + 1)) Q) : V K bc bs M pc lc st G Q := by
  intro hM p e R s m args below meth c H locs cells slots ls hC hB hS hH hL
  obtain ⟨hd, hn, -⟩ := hM.dec h rfl
  subst hn
  have hts := hC.2.2.2.2.2.2.2.2.1
  have hwd : kW K s := hC.2.2.2.2.2.2.2.2.2
  have hKn := hwd.2.1.1 ci _ hc
  obtain ⟨q1, q2, q3⟩ := kcl_ok ci C9 T9 N hc
  have hsz := (hH.2 nx hnx).1
  refine W.newcK hC.1 hC.2.1 hC.2.2.2.2.2.2.1 (hts _ hw.1) (hts _ hw.2.1) (hts _ hw.2.2) rfl hd (by omega) (by omega) hKn.2.1 rfl fun H1 kC hkC e1 z1 o1 => ?_
  have had : kad K nx = H.size := by rw [kad_lt (by omega)]; omega
  have k2 := kk hM p e R s m args below meth c H1 locs (cells + 1) (slots + N) ls hC ⟨hB.1, hB.2.1, by omega, by omega⟩ ⟨Nat.le_trans hS.1 (by omega), fun x h1 h2 => (o1 x (Nat.lt_of_lt_of_le h1 hS.1)).trans (hS.2.1 x h1 h2), hS.2.2⟩ (hH.push hnx hx (by
    rw [had]
    refine ⟨_, hc, (u_born (kfty ci) hts q1 hKn hkC e1 q2).to (fun j hj => ?_)⟩
    subst hfs
    simp [vp_V, hj, ksh_def]) z1 o1) hL
  simp only [List.map_cons, ksh, had] at k2
  exact k2
theorem V_newa {at9 : ArrayType} {ty : FieldType} {tg nx N : Nat} {x : Int32} {a0 : (Nat → Int32) ⊕ (Nat → Int64) ⊕ (Nat → UInt32) ⊕ (Nat → UInt64) ⊕ (Nat → Option Nat)} (h : kf M pc = some (.newarray at9, n, t)) (hty : newarray.typeOf at9 = ty) (htg : (tg = 0 ∧ ty = .int ∧ a0 = .inl (fun _ => 0)) ∨ (tg = 1 ∧ ty = .byte ∧ a0 = .inl (fun _ => 0)) ∨ (tg = 2 ∧ ty = .long ∧ a0 = .inr (.inl (fun _ => 0))) ∨ (tg = 3 ∧ ty = .boolean ∧ a0 = .inl (fun _ => 0))) (hw : Cond.arrayClass ty ∈ kU) (hx0 : ¬ x < 0) (hN : x.toNatClampNeg = N) (hN2 : N < 100000) (hnx : G.2 = some nx) (hx : nx < 899999) (hb : bc' + 1 ≤ bc ∧ bs' + N ≤ bs) (kk : V K bc' bs' M n lc (.ref nx :: st) (fun j => if j = nx then some (.inl (tg, N, a0)) else G.1 j, some (nx + 1)) Q) : V K bc bs M pc lc (.int x :: st) G Q := by
  intro hM p e R s m args below meth c H locs cells slots ls hC hB hS hH hL
  obtain ⟨hd, hn, -⟩ := hM.dec h rfl
  subst hn
  subst hty
  have hts := hC.2.2.2.2.2.2.2.2.1
  have hwd : kW K s := hC.2.2.2.2.2.2.2.2.2
  have hsz := (hH.2 nx hnx).1
  have had : kad K nx = H.size := by rw [kad_lt (by omega)]; omega
  have hcb : N * componentBytes (newarray.typeOf at9) ≤ 536870912 := by
    have : componentBytes (newarray.typeOf at9) ≤ 8 := by cases at9 <;> decide
    exact Nat.le_trans (Nat.mul_le_mul_left N this) (by omega)
  refine va_newaK hC.1 hC.2.1 (hts _ hw) rfl hd rfl hx0 hN hcb (by omega) (by omega) rfl fun H1 cA e1 z1 o1 hAr hNm => ?_
  have k2 := kk hM p e R s m args below meth c H1 locs (cells + 1) (slots + N) ls hC ⟨hB.1, hB.2.1, by omega, by omega⟩ ⟨Nat.le_trans hS.1 (by omega), fun x h1 h2 => (o1 x (Nat.lt_of_lt_of_le h1 hS.1)).trans (hS.2.1 x h1 h2), hS.2.2⟩ (hH.push hnx hx (by
    rw [had]
    rcases htg with ⟨rfl, hty, rfl⟩ | ⟨rfl, hty, rfl⟩ | ⟨rfl, hty, rfl⟩ | ⟨rfl, hty, rfl⟩
    · have h9 := (hwd.2.1.2 0 _ rfl).2
      rw [hty] at hNm e1
      cases Option.some.inj (hNm.symm.trans h9)
      exact e1
    · have h9 := (hwd.2.1.2 1 _ rfl).2
      rw [hty] at hNm e1
      cases Option.some.inj (hNm.symm.trans h9)
      exact e1
    · have h9 := (hwd.2.1.2 2 _ rfl).2
      rw [hty] at hNm e1
      cases Option.some.inj (hNm.symm.trans h9)
      exact e1
    · have h9 := (hwd.2.1.2 3 _ rfl).2
      rw [hty] at hNm e1
      cases Option.some.inj (hNm.symm.trans h9)
      exact e1) z1 o1) hL
  simp only [List.map_cons, ksh, had] at k2
  exact k2
/-- the words of a throw, the link of its constructor apart -/
def kThN : List String := ["java/lang/RuntimeException", "java/lang/Exception"]
def kThA (E : String) : List Cond := (Bundle.ownAtoms0 "" 0 E kThN).take 39
def kThB (E : String) : List Cond := (Bundle.ownAtoms0 "" 0 E kThN).drop 40
theorem kTh_split (own : String) (ic : Nat) (E : String) : Bundle.ownAtoms0 own ic E kThN = kThA E ++ .methodLink own ic (Bundle.init0 E) :: kThB E := rfl
def kThW (w : Cond) : Bool := !(vx_no w) || decide (w ∈ kU) || kDc.any (fun y => decide (w = .declares y)) || kX4.any (fun E => decide (w = .castable E E))
theorem kTh_ok : kX4.all (fun E => (kThA E ++ kThB E).all kThW && (kThA E ++ kThB E).all (fun w => !(vx_no w) || vx_ot w) && Bundle.fit E && decide (Cond.initialized E ∈ kU)) = true := by decide +kernel
theorem V_throw {E : String} {ik ic n0 n3 n4 n7 t0 t3 t4 t7 : Nat} (h0 : kf M pc = some (.new ik, n0, t0)) (h3 : kf M (pc + 3) = some (.dup, n3, t3)) (h4 : kf M (pc + 4) = some (.invokespecial ic, n4, t4)) (h7 : kf M (pc + 7) = some (.athrow, n7, t7)) (hE : E ∈ kX4) (hcl : Cond.classLink (my M).cls ik E ∈ kU) (hml : Cond.methodLink (my M).cls ic (Bundle.init0 E) ∈ kU) (hfr : 6 ≤ mfr M) (hlo : (st.map fun v => v.category).sum + 81 ≤ mlo M) (hb : 1 ≤ bc ∧ 6 ≤ bs) (hq : Q (.inr E) (G.1, none)) : V K bc bs M pc lc st G Q := by
  intro hM p e R s m args below meth c H locs cells slots ls hC hB hS hH hL
  obtain ⟨d0, -, -⟩ := hM.dec h0 rfl
  obtain ⟨d3, -, -⟩ := hM.dec h3 rfl
  obtain ⟨d4, -, -⟩ := hM.dec h4 rfl
  obtain ⟨d7, -, -⟩ := hM.dec h7 rfl
  have hts := hC.2.2.2.2.2.2.2.2.1
  have hwd : kW K s := hC.2.2.2.2.2.2.2.2.2
  have hall := List.all_eq_true.mp kTh_ok E hE
  simp only [Bool.and_eq_true, decide_eq_true_eq] at hall
  obtain ⟨⟨⟨ha1, ha2⟩, ha3⟩, ha4⟩ := hall
  have key : ∀ w ∈ vx_at0 (my M).cls ic E kThN, w.before args s = true ∧ vx_ot w = true := by
    intro w hw
    obtain ⟨hw1, hw2⟩ := List.mem_filter.mp hw
    rw [kTh_split] at hw1
    have hcase : w = .methodLink (my M).cls ic (Bundle.init0 E) ∨ w ∈ kThA E ++ kThB E := by
      rcases List.mem_append.mp hw1 with q | q
      · exact Or.inr (List.mem_append_left _ q)
      · rcases List.mem_cons.mp q with q | q
        · exact Or.inl q
        · exact Or.inr (List.mem_append_right _ q)
    rcases hcase with rfl | hw3
    · exact ⟨hts _ hml, by simp [vx_ot, kU_good hml]⟩
    · have b1 := List.all_eq_true.mp ha1 w hw3
      have b2 := List.all_eq_true.mp ha2 w hw3
      rw [hw2] at b2
      refine ⟨?_, by simpa using b2⟩
      unfold kThW at b1
      rw [hw2] at b1
      simp only [Bool.not_true, Bool.false_or, Bool.or_eq_true, decide_eq_true_eq, List.any_eq_true] at b1
      rcases b1 with (q | ⟨y, hy, rfl⟩) | ⟨F, hF, rfl⟩
      · exact hts _ q
      · exact va_Nw.use rfl (hwd.2.2.2.2.2.2.2.2.1 y hy)
      · exact va_Nw.use rfl (hwd.2.2.2.2.2.2.2.2.2.1 F hF)
  refine vx_throw0 (A := kA K) (names := kThN) (cls := E) (own := (my M).cls) (ik := ik) (ic := ic) (mc := R.cells) (ms := R.slots) hC.1 hC.2.1 hwd.1 hC.2.2.2.2.2.2.1 ha3 (by decide +kernel) (hts _ hcl) (hts _ ha4) (fun w hw => (key w hw).1) (fun w hw => ?_) hwd.2.2.2.2.1.1 hwd.2.2.2.2.1.2 hS (hL.1.trans hC.2.2.1.symm) d0 d3 d4 d7 (fun x hx => (hC.2.2.2.2.2.2.2.1 x hx).elim) (Nat.lt_of_lt_of_le (by show 2 + 3 < 6; omega) (Nat.le_trans hfr hB.1)) (by rw [ksh_sum]; show _ + (13 * (2 + 1) + 42) ≤ _; omega) (by omega) (by omega) hC.2.2.2.2.1 (fun t9 hal hsz hold => ⟨(G.1, none), hq, hH.close hold, ⟨Nat.le_trans hS.1 hsz, fun q q1 q2 => (hold q (Nat.lt_of_lt_of_le q1 hS.1)).trans (hS.2.1 q q1 q2)⟩⟩) hS.2.2 (by omega) (by omega)
  rcases List.mem_cons.mp hw with rfl | hw
  · simp [vx_ot, kU_good hcl]
  · rcases List.mem_cons.mp hw with rfl | hw
    · simp [vx_ot, kU_good ha4]
    · exact (key w hw).2
end KC
