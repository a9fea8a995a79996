/-! System.arraycopy; arrays of references -/
section KY
variable {K : kK} {bc bs bc' bs' mc ms : Nat} {M M' : kM} {pc n t : Nat} {lc : kLo} {st : List Value} {G : kG} {Q Q' : kO → kG → Prop}
theorem W_copyi {p : Program} {e : Env} {R : Room} {s : State} {m : MethodId} {args : Array Value} {below : List Frame} {meth : Method} {c : Code} {H : Heap} {locs : List Loc} {cells slots : Nat} {ls : Array Slot} {idx b n0 n1 : Nat} {a0 : Nat} {scr : Cell} {f g : Nat → Int32} {sp dp z : Int32} (h : kf M pc = some (.invokestatic idx, n, t)) (hw : Cond.methodLink (my M).cls idx arraycopyName ∈ kU ∧ Cond.native arraycopyName ∈ kU ∧ Cond.static arraycopyName ∈ kU ∧ Cond.initialized "java/lang/System" ∈ kU)
    (hs1 : H[a0]? = some scr) (hs2 : s.isArrayOf scr .int) (hs3 : scr.vm ≠ .unknown) (hs4 : scr.slots.size = n0) (hs5 : ∀ j, j < n0 → scr.slots[j]? = some (.int (f j)))
    (hb : G.1 b = some (.inl (0, n1, .inl g))) (h1 : ¬ sp < 0) (h2 : ¬ dp < 0) (h3 : ¬ z < 0) (h4 : sp.toNatClampNeg + z.toNatClampNeg ≤ n0) (h5 : dp.toNatClampNeg + z.toNatClampNeg ≤ n1) (hfr : 1 ≤ mfr M) (hlo : (st.map fun v => v.category).sum + 18 ≤ mlo M)
    (kk : V K bc bs M n lc st (hup G b (.inl (0, n1, .inl (va_cpy f g sp.toNatClampNeg dp.toNatClampNeg z.toNatClampNeg)))) Q)
    (hM : kDk M) (hC : kCx K M p s m args meth c) (hB : mfr M ≤ R.frames ∧ mlo M ≤ R.locals ∧ cells + bc ≤ R.cells ∧ slots + bs ≤ R.slots) (hS : va_S (kA K) s.heap H locs) (hH : kH K G H) (hL : kLc K lc (mxl M) ls) :
    W p (kl K) e R s m args below meth c H locs cells slots (vx_MQ below (kQc K Q) (kXC K Q) args s R.cells R.slots (kA K)) (F0 m pc ls (.int z :: .int dp :: .ref (kad K b) :: .int sp :: .ref a0 :: st.map (ksh K))) := by
  obtain ⟨hd, hn, -⟩ := hM.dec h rfl
  subst hn
  have hts := hC.2.2.2.2.2.2.2.2.1
  have hwd : kW K s := hC.2.2.2.2.2.2.2.2.2
  have nn : ∀ z : Int32, ¬ z < 0 → z.toInt = (z.toNatClampNeg : Int) := by
    intro z hz
    have hz0 : (0 : Int) ≤ z.toInt := by
      have := Int32.not_lt.mp hz
      simpa using Int32.le_iff_toInt_le.mp this
    show z.toInt = ((z.toInt.toNat : Nat) : Int)
    omega
  intro T hT X
  have hc1 : H[kad K b]? = some (vp_cell (ktc K 0) (n1, .inl g)) := (hH.1 b _ hb).2
  obtain ⟨hs6, k0, hk0, cm0, hkk0⟩ := hs2
  obtain ⟨-, k1, hk1, cm1, hkk1⟩ := (hwd.2.1.2 0 _ rfl).1 n1 (fun j => .int (g j))
  obtain ⟨vm', X', step⟩ := X.arraycopy hC.1 hC.2.2.2.2.2.2.1 (hts _ hw.1) (hts _ hw.2.1) (hts _ hw.2.2.1) (hts _ hw.2.2.2) (src := a0) (dst := kad K b) (cs := scr) (cd := vp_cell (ktc K 0) (n1, .inl g)) (srcPos := sp) (destPos := dp) (n := z) (by rw [hT]; exact hs1) (by rw [hT]; exact hc1)
    hs6 (fun _ h => by cases h) hs3 (fun h => by cases h) hk0 hk1 hkk0 hkk1 (by simp [refKind]) h1 h2 h3
    (by rw [nn sp h1, nn z h3]; rw [hs4]; omega)
    (by rw [nn dp h2, nn z h3]; show ¬ _ > ((arrV (ktc K 0) n1 (fun j => .int (g j))).slots.size : Int); rw [arrV_size]; omega)
    (fun vm₁ _ i hi => by
      have e : scr.slots.getD (sp.toNatClampNeg + i) .null = .int (f (sp.toNatClampNeg + i)) := by
        rw [Array.getD_eq_getD_getElem?, hs5 _ (by omega)]
        rfl
      refine ⟨?_, ?_⟩
      · rw [e]
        rfl
      · rw [e]
        exact trivial)
    (g := F0 m pc ls (.int z :: .int dp :: .ref (kad K b) :: .int sp :: .ref a0 :: st.map (ksh K))) rfl (hL.1.trans hC.2.2.1.symm) (rest := st.map (ksh K)) rfl (by rw [hC.2.1]; exact hd) (Nat.le_trans hfr hB.1) (by rw [ksh_sum]; show 2 * 0 + _ + (5 + 2 + 11) ≤ _; omega)
  have e1 : copied scr (vp_cell (ktc K 0) (n1, .inl g)) sp dp z = vp_cell (ktc K 0) (n1, .inl (va_cpy f g sp.toNatClampNeg dp.toNatClampNeg z.toNatClampNeg)) := va_copiedX (fun z => .int z) scr (ktc K 0) f g hs5 h4
  rw [e1] at X' step
  have hl : kad K b < H.size := (Array.getElem?_eq_some_iff.mp hc1).1
  obtain ⟨nc, hnc⟩ : ∃ nc, nc = vp_cell (ktc K 0) (n1, .inl (va_cpy f g sp.toNatClampNeg dp.toNatClampNeg z.toNatClampNeg)) := ⟨_, rfl⟩
  rw [← hnc] at X' step
  have hheap : ((T.setVm vm').setCell (kad K b) nc).heap = H.setIfInBounds (kad K b) nc := by rw [← hT]; rfl
  have oq : ∀ q : Nat, q ≠ kad K b → (H.setIfInBounds (kad K b) nc)[q]? = H[q]? := fun q hq => by simp [Array.getElem?_setIfInBounds, Ne.symm hq]
  have hbA : kA K (kad K b) := show kb K ≤ kad K b by rw [kad_lt (hH.1 b _ hb).1]; omega
  obtain ⟨t9, a1, b1⟩ := kk hM p e R s m args below meth c (H.setIfInBounds (kad K b) nc) _ cells slots ls hC hB ⟨by simp; exact hS.1, fun q g1 g2 => by
      rw [oq q (fun e => g2 (by rw [e]; exact hbA))]
      exact hS.2.1 q g1 g2, fun q hq => by
      rcases List.mem_append.mp hq with h | h
      · exact hS.2.2 q h
      · obtain ⟨z, -, hz⟩ := List.mem_map.mp h
        rw [← hz]
        exact hbA⟩ (hH.set hb (show (H.setIfInBounds (kad K b) nc)[kad K b]? = some _ by simp [Array.getElem?_setIfInBounds, hl, hnc]) (by simp) oq) hL _ hheap X'
  exact ⟨t9, step t9 a1, b1⟩
theorem W_copyl {p : Program} {e : Env} {R : Room} {s : State} {m : MethodId} {args : Array Value} {below : List Frame} {meth : Method} {c : Code} {H : Heap} {locs : List Loc} {cells slots : Nat} {ls : Array Slot} {idx b n0 n1 : Nat} {a0 : Nat} {scr : Cell} {f g : Nat → Int64} {sp dp z : Int32} (h : kf M pc = some (.invokestatic idx, n, t)) (hw : Cond.methodLink (my M).cls idx arraycopyName ∈ kU ∧ Cond.native arraycopyName ∈ kU ∧ Cond.static arraycopyName ∈ kU ∧ Cond.initialized "java/lang/System" ∈ kU)
    (hs1 : H[a0]? = some scr) (hs2 : s.isArrayOf scr .long) (hs3 : scr.vm ≠ .unknown) (hs4 : scr.slots.size = n0) (hs5 : ∀ j, j < n0 → scr.slots[j]? = some (.long (f j)))
    (hb : G.1 b = some (.inl (2, n1, .inr (.inl g)))) (h1 : ¬ sp < 0) (h2 : ¬ dp < 0) (h3 : ¬ z < 0) (h4 : sp.toNatClampNeg + z.toNatClampNeg ≤ n0) (h5 : dp.toNatClampNeg + z.toNatClampNeg ≤ n1) (hfr : 1 ≤ mfr M) (hlo : (st.map fun v => v.category).sum + 18 ≤ mlo M)
    (kk : V K bc bs M n lc st (hup G b (.inl (2, n1, .inr (.inl (va_cpy f g sp.toNatClampNeg dp.toNatClampNeg z.toNatClampNeg))))) Q)
    (hM : kDk M) (hC : kCx K M p s m args meth c) (hB : mfr M ≤ R.frames ∧ mlo M ≤ R.locals ∧ cells + bc ≤ R.cells ∧ slots + bs ≤ R.slots) (hS : va_S (kA K) s.heap H locs) (hH : kH K G H) (hL : kLc K lc (mxl M) ls) :
    W p (kl K) e R s m args below meth c H locs cells slots (vx_MQ below (kQc K Q) (kXC K Q) args s R.cells R.slots (kA K)) (F0 m pc ls (.int z :: .int dp :: .ref (kad K b) :: .int sp :: .ref a0 :: st.map (ksh K))) := by
  obtain ⟨hd, hn, -⟩ := hM.dec h rfl
  subst hn
  have hts := hC.2.2.2.2.2.2.2.2.1
  have hwd : kW K s := hC.2.2.2.2.2.2.2.2.2
  have nn : ∀ z : Int32, ¬ z < 0 → z.toInt = (z.toNatClampNeg : Int) := by
    intro z hz
    have hz0 : (0 : Int) ≤ z.toInt := by
      have := Int32.not_lt.mp hz
      simpa using Int32.le_iff_toInt_le.mp this
    show z.toInt = ((z.toInt.toNat : Nat) : Int)
    omega
  intro T hT X
  have hc1 : H[kad K b]? = some (vp_cell (ktc K 2) (n1, .inr (.inl g))) := (hH.1 b _ hb).2
  obtain ⟨hs6, k0, hk0, cm0, hkk0⟩ := hs2
  obtain ⟨-, k1, hk1, cm1, hkk1⟩ := (hwd.2.1.2 2 _ rfl).1 n1 (fun j => .long (g j))
  obtain ⟨vm', X', step⟩ := X.arraycopy hC.1 hC.2.2.2.2.2.2.1 (hts _ hw.1) (hts _ hw.2.1) (hts _ hw.2.2.1) (hts _ hw.2.2.2) (src := a0) (dst := kad K b) (cs := scr) (cd := vp_cell (ktc K 2) (n1, .inr (.inl g))) (srcPos := sp) (destPos := dp) (n := z) (by rw [hT]; exact hs1) (by rw [hT]; exact hc1)
    hs6 (fun _ h => by cases h) hs3 (fun h => by cases h) hk0 hk1 hkk0 hkk1 (by simp [refKind]) h1 h2 h3
    (by rw [nn sp h1, nn z h3]; rw [hs4]; omega)
    (by rw [nn dp h2, nn z h3]; show ¬ _ > ((arrV (ktc K 2) n1 (fun j => .long (g j))).slots.size : Int); rw [arrV_size]; omega)
    (fun vm₁ _ i hi => by
      have e : scr.slots.getD (sp.toNatClampNeg + i) .null = .long (f (sp.toNatClampNeg + i)) := by
        rw [Array.getD_eq_getD_getElem?, hs5 _ (by omega)]
        rfl
      refine ⟨?_, ?_⟩
      · rw [e]
        rfl
      · rw [e]
        exact trivial)
    (g := F0 m pc ls (.int z :: .int dp :: .ref (kad K b) :: .int sp :: .ref a0 :: st.map (ksh K))) rfl (hL.1.trans hC.2.2.1.symm) (rest := st.map (ksh K)) rfl (by rw [hC.2.1]; exact hd) (Nat.le_trans hfr hB.1) (by rw [ksh_sum]; show 2 * 0 + _ + (5 + 2 + 11) ≤ _; omega)
  have e1 : copied scr (vp_cell (ktc K 2) (n1, .inr (.inl g))) sp dp z = vp_cell (ktc K 2) (n1, .inr (.inl (va_cpy f g sp.toNatClampNeg dp.toNatClampNeg z.toNatClampNeg))) := va_copiedX (fun z => .long z) scr (ktc K 2) f g hs5 h4
  rw [e1] at X' step
  have hl : kad K b < H.size := (Array.getElem?_eq_some_iff.mp hc1).1
  obtain ⟨nc, hnc⟩ : ∃ nc, nc = vp_cell (ktc K 2) (n1, .inr (.inl (va_cpy f g sp.toNatClampNeg dp.toNatClampNeg z.toNatClampNeg))) := ⟨_, rfl⟩
  rw [← hnc] at X' step
  have hheap : ((T.setVm vm').setCell (kad K b) nc).heap = H.setIfInBounds (kad K b) nc := by rw [← hT]; rfl
  have oq : ∀ q : Nat, q ≠ kad K b → (H.setIfInBounds (kad K b) nc)[q]? = H[q]? := fun q hq => by simp [Array.getElem?_setIfInBounds, Ne.symm hq]
  have hbA : kA K (kad K b) := show kb K ≤ kad K b by rw [kad_lt (hH.1 b _ hb).1]; omega
  obtain ⟨t9, a1, b1⟩ := kk hM p e R s m args below meth c (H.setIfInBounds (kad K b) nc) _ cells slots ls hC hB ⟨by simp; exact hS.1, fun q g1 g2 => by
      rw [oq q (fun e => g2 (by rw [e]; exact hbA))]
      exact hS.2.1 q g1 g2, fun q hq => by
      rcases List.mem_append.mp hq with h | h
      · exact hS.2.2 q h
      · obtain ⟨z, -, hz⟩ := List.mem_map.mp h
        rw [← hz]
        exact hbA⟩ (hH.set hb (show (H.setIfInBounds (kad K b) nc)[kad K b]? = some _ by simp [Array.getElem?_setIfInBounds, hl, hnc]) (by simp) oq) hL _ hheap X'
  exact ⟨t9, step t9 a1, b1⟩
theorem V_copyi {idx a b n0 n1 : Nat} {f g : Nat → Int32} {sp dp z : Int32} (h : kf M pc = some (.invokestatic idx, n, t)) (hw : Cond.methodLink (my M).cls idx arraycopyName ∈ kU ∧ Cond.native arraycopyName ∈ kU ∧ Cond.static arraycopyName ∈ kU ∧ Cond.initialized "java/lang/System" ∈ kU) (ha : G.1 a = some (.inl (0, n0, .inl f))) (hb : G.1 b = some (.inl (0, n1, .inl g))) (h1 : ¬ sp < 0) (h2 : ¬ dp < 0) (h3 : ¬ z < 0) (h4 : sp.toNatClampNeg + z.toNatClampNeg ≤ n0) (h5 : dp.toNatClampNeg + z.toNatClampNeg ≤ n1) (hfr : 1 ≤ mfr M) (hlo : (st.map fun v => v.category).sum + 18 ≤ mlo M) (kk : V K bc bs M n lc st (hup G b (.inl (0, n1, .inl (va_cpy f g sp.toNatClampNeg dp.toNatClampNeg z.toNatClampNeg)))) Q) : V K bc bs M pc lc (.int z :: .int dp :: .ref b :: .int sp :: .ref a :: st) G Q := by
  intro hM p e R s m args below meth c H locs cells slots ls hC hB hS hH hL
  have hwd : kW K s := hC.2.2.2.2.2.2.2.2.2
  exact W_copyi h hw (hH.1 a _ ha).2 ((hwd.2.1.2 0 _ rfl).1 n0 (fun j => .int (f j))) (fun q => by cases q) (by show (arrV _ _ _).slots.size = _; rw [arrV_size]) (fun j hj => by show (arrV _ _ _).slots[_]? = _; rw [arrV_read _ _ hj]) hb h1 h2 h3 h4 h5 hfr hlo kk hM hC hB hS hH hL
theorem V_copyl {idx a b n0 n1 : Nat} {f g : Nat → Int64} {sp dp z : Int32} (h : kf M pc = some (.invokestatic idx, n, t)) (hw : Cond.methodLink (my M).cls idx arraycopyName ∈ kU ∧ Cond.native arraycopyName ∈ kU ∧ Cond.static arraycopyName ∈ kU ∧ Cond.initialized "java/lang/System" ∈ kU) (ha : G.1 a = some (.inl (2, n0, .inr (.inl f)))) (hb : G.1 b = some (.inl (2, n1, .inr (.inl g)))) (h1 : ¬ sp < 0) (h2 : ¬ dp < 0) (h3 : ¬ z < 0) (h4 : sp.toNatClampNeg + z.toNatClampNeg ≤ n0) (h5 : dp.toNatClampNeg + z.toNatClampNeg ≤ n1) (hfr : 1 ≤ mfr M) (hlo : (st.map fun v => v.category).sum + 18 ≤ mlo M) (kk : V K bc bs M n lc st (hup G b (.inl (2, n1, .inr (.inl (va_cpy f g sp.toNatClampNeg dp.toNatClampNeg z.toNatClampNeg))))) Q) : V K bc bs M pc lc (.int z :: .int dp :: .ref b :: .int sp :: .ref a :: st) G Q := by
  intro hM p e R s m args below meth c H locs cells slots ls hC hB hS hH hL
  have hwd : kW K s := hC.2.2.2.2.2.2.2.2.2
  exact W_copyl h hw (hH.1 a _ ha).2 ((hwd.2.1.2 2 _ rfl).1 n0 (fun j => .long (f j))) (fun q => by cases q) (by show (arrV _ _ _).slots.size = _; rw [arrV_size]) (fun j hj => by show (arrV _ _ _).slots[_]? = _; rw [arrV_read _ _ hj]) hb h1 h2 h3 h4 h5 hfr hlo kk hM hC hB hS hH hL
theorem V_copys {idx j b n0 n1 : Nat} {f g : Nat → Int32} {sp dp z : Int32} (h : kf M pc = some (.invokestatic idx, n, t)) (hw : Cond.methodLink (my M).cls idx arraycopyName ∈ kU ∧ Cond.native arraycopyName ∈ kU ∧ Cond.static arraycopyName ∈ kU ∧ Cond.initialized "java/lang/System" ∈ kU) (ha : kSX K j = some (n0, f)) (hb : G.1 b = some (.inl (0, n1, .inl g))) (h1 : ¬ sp < 0) (h2 : ¬ dp < 0) (h3 : ¬ z < 0) (h4 : sp.toNatClampNeg + z.toNatClampNeg ≤ n0) (h5 : dp.toNatClampNeg + z.toNatClampNeg ≤ n1) (hfr : 1 ≤ mfr M) (hlo : (st.map fun v => v.category).sum + 18 ≤ mlo M) (kk : V K bc bs M n lc st (hup G b (.inl (0, n1, .inl (va_cpy f g sp.toNatClampNeg dp.toNatClampNeg z.toNatClampNeg)))) Q) : V K bc bs M pc lc (.int z :: .int dp :: .ref b :: .int sp :: .ref (1000000 + j) :: st) G Q := by
  intro hM p e R s m args below meth c H locs cells slots ls hC hB hS hH hL
  have hwd : kW K s := hC.2.2.2.2.2.2.2.2.2
  obtain ⟨x1, scr, hs1, hs2, hs3, hs4, hs5⟩ := hwd.2.2.1 j n0 f ha
  have hq : ksh K (.ref (1000000 + j)) = .ref (ksd K j) := by simp [ksh, kad]; omega
  have hx : ksd K j < s.heap.size := Nat.lt_of_lt_of_le x1 hwd.2.2.2.2.2.1
  simp only [List.map_cons, hq]
  exact W_copyi h hw (by rw [hS.2.1 _ hx (Nat.not_le.mpr x1)]; exact hs1) hs2 hs3 hs4 hs5 hb h1 h2 h3 h4 h5 hfr hlo kk hM hC hB hS hH hL
theorem V_newq {idx nx N : Nat} {x : Int32} (h : kf M pc = some (.anewarray idx, n, t)) (hw : Cond.classLink (my M).cls idx RX6 ∈ kU) (hx0 : ¬ x < 0) (hN : x.toNatClampNeg = N) (hN2 : N < 100000) (hnx : G.2 = some nx) (hx : nx < 899999) (hb : bc' + 1 ≤ bc ∧ bs' + N ≤ bs) (kk : V K bc' bs' M n lc (.ref nx :: st) (fun j => if j = nx then some (.inl (4, N, .inr (.inr (.inr (.inr (fun _ => none)))))) else G.1 j, some (nx + 1)) Q) : V K bc bs M pc lc (.int x :: st) G Q := by
  intro hM p e R s m args below meth c H locs cells slots ls hC hB hS hH hL
  obtain ⟨hd, hn, -⟩ := hM.dec h rfl
  subst hn
  subst hN
  have hts := hC.2.2.2.2.2.2.2.2.1
  have hwd : kW K s := hC.2.2.2.2.2.2.2.2.2
  have hsz := (hH.2 nx hnx).1
  have had : kad K nx = H.size := by rw [kad_lt (by omega)]; omega
  refine W.anew hC.1 hC.2.1 hC.2.2.2.2.2.2.1 (hts _ hw) (va_AO.use hwd.2.2.2.2.2.2.2.1) rfl hd rfl hx0 (by omega) (by omega) (by omega) fun cA kA comp f1 f2 f3 f4 => ?_
  generalize hH1 : H.push ({ cls := cA, slots := Array.replicate x.toNatClampNeg .null, vm := .none } : Cell) = H1
  have z1 : H1.size = H.size + 1 := by rw [← hH1, Array.size_push]
  have e1 : H1[H.size]? = some (arrV cA x.toNatClampNeg (fun _ => .null)) := by rw [← hH1, Array.getElem?_push_size, ← arrV_new]
  have o1 : ∀ q : Nat, q < H.size → H1[q]? = H[q]? := fun q hq => by rw [← hH1, Array.getElem?_push, if_neg (Nat.ne_of_lt hq)]
  have k2 := kk hM p e R s m args below meth c H1 locs (cells + 1) (slots + x.toNatClampNeg) ls hC ⟨hB.1, hB.2.1, by omega, by omega⟩ ⟨Nat.le_trans hS.1 (by omega), fun x h1 h2 => (o1 x (Nat.lt_of_lt_of_le h1 hS.1)).trans (hS.2.1 x h1 h2), hS.2.2⟩ (hH.push hnx hx (by
    rw [had]
    obtain ⟨kA9, comp9, g1, g2, g3, g4⟩ := (hwd.2.1.2 4 _ rfl).2
    cases Option.some.inj (f1.symm.trans g4)
    exact e1) z1 o1) hL
  simp only [List.map_cons, ksh, had] at k2
  exact k2
theorem V_aast {a b N : Nat} {fs : List Value} {f : Nat → Option Nat} {i : Int32} (h : kf M pc = some (.aastore, n, t)) (ha : G.1 a = some (.inl (4, N, .inr (.inr (.inr (.inr f)))))) (hb : G.1 b = some (.inr (5, fs))) (hi : vp_in i N) (kk : V K bc bs M n lc st (hup G a (.inl (4, N, .inr (.inr (.inr (.inr (va_up f i.toNatClampNeg (some b)))))))) Q) : V K bc bs M pc lc (.ref b :: .int i :: .ref a :: st) G Q := by
  intro hM p e R s m args below meth c H locs cells slots ls hC hB hS hH hL
  obtain ⟨hd, hn, -⟩ := hM.dec h rfl
  subst hn
  have hwd : kW K s := hC.2.2.2.2.2.2.2.2.2
  have hlt : i.toNatClampNeg < N := Nat.not_le.mp fun q => hi (Or.inr q)
  have h0 : ¬ i < 0 := fun q => hi (Or.inl q)
  obtain ⟨r', hr', cellV, g1, g2, g3, -⟩ := (hH.1 b _ hb).2
  have hcls := (hwd.2.1.1 5 _ rfl).2
  obtain ⟨kA9, comp, k1, k2, k3, -⟩ := (hwd.2.1.2 4 _ rfl).2
  have hcomp : comp = (kD K).1 5 := Option.some.inj (k3.symm.trans hcls.1)
  subst hcomp
  obtain ⟨kC, hkC, hkC2⟩ := hcls.2
  have has : s.vm.assignable ((kD K).1 5) ((kD K).1 5) = true := by
    simp [Vm.assignable, Vm.assignableAux, hkC, hkC2, Vm.isSubclass, Vm.isSubclassAux]
  have hcell : H[kad K a]? = some (vp_cell (ktc K 4) (N, .inr (.inr (.inr (.inr (fun j => (f j).map (kad K))))))) := (hH.1 a _ ha).2
  refine W.aast hC.1 hC.2.1 hcell (fun q h => by cases h) (fun h => by cases h) k1 k2 rfl hkC ⟨h0, by show _ < (arrV _ _ _).slots.size; rw [arrV_size]; exact hlt⟩ g1 (fun q h => by rw [g3] at h; cases h) (by rw [g2]; exact hkC) (by rw [g2]; exact has) rfl rfl hd fun H1 e1 z oq => ?_
  refine kk hM p e R s m args below meth c H1 _ cells slots ls hC hB (hS.put z oq (show kb K ≤ kad K a by rw [kad_lt (hH.1 a _ ha).1]; omega)) (hH.set ha ?_ z oq) hL
  show H1[kad K a]? = some (vp_cell _ _)
  rw [e1]
  rw [vp_cell_q, vp_cell_q, arrV_store]
  congr 2
  funext q
  by_cases hq : q = i.toNatClampNeg
  · subst hq
    simp [updV, va_up, va_rf]
  · simp [updV, va_up, hq]
end KY
