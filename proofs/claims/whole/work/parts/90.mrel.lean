/-! the reference holds a state -/
section MRel
variable {K : kK} {G : kG} {Q : kO → kG → Prop} {T : TB} {S : SG}
def yM (c N : Nat) (G : kG) : Prop := ∃ f, G.1 c = some (YA N f) ∧ ∀ j, f j < 256
/-- rows that are filled before they are read -/
def scM (T : TB) (G : kG) : Prop := (∃ D, crM D G) ∧ hM T G ∧ mhl [] G ∧ sM G ∧ tM G ∧ yM 179 240 G ∧ yM 180 240 G ∧ yM 181 260 G
def rRow (S : SG) (G : kG) : Prop := ∃ R, G.1 157 = some (YA 640 R) ∧ (∀ j, R j < 256) ∧ ∀ j, j < 32 → (∀ e, e < 2 → R (32 * e + j) = rw9 (S.1 e) 0 j ∧ R (32 * (2 + e) + j) = rw9 (S.1 e) 3 j ∧ R (32 * (4 + e) + j) = rw9 (S.1 e) 2 j) ∧ R (192 + j) = S.2.1 0 j ∧ R (224 + j) = S.2.1 1 j ∧ R (256 + j) = nine j
def rCk (S : SG) (G : kG) : Prop := ∃ c, G.1 158 = some (YA 16 c) ∧ (∀ j, c j < 256) ∧ ∀ e, e < 2 → ∀ j, j < 8 → c (8 * e + j) = rw9 (S.1 e) 1 j
def rIn (S : SG) (G : kG) : Prop := ∃ c, G.1 159 = some (YA 36 c) ∧ (∀ j, c j < 256) ∧ ∀ e, e < 2 → ∀ j, j < 9 → c (18 * e + j) = rw9 (S.1 e) 4 j ∧ c (18 * e + 9 + j) = rw9 (S.1 e) 5 j
def rKy (S : SG) (G : kG) : Prop := ∃ c, G.1 160 = some (YA 256 c) ∧ (∀ j, c j < 256) ∧ ∀ e, e < 2 → ∀ j, j < 32 → c (128 * e + j) = rw9 (S.1 e) 6 j ∧ c (128 * e + 32 + j) = rw9 (S.1 e) 7 j ∧ c (128 * e + 64 + j) = rw9 (S.1 e) 8 j ∧ c (128 * e + 96 + j) = rw9 (S.1 e) 9 j
def rNk (S : SG) (G : kG) : Prop := ∃ c, G.1 161 = some (YA 256 c) ∧ (∀ j, c j < 256) ∧ ∀ e, e < 2 → ∀ j, j < 32 → c (128 * e + 64 + j) = rw9 (S.1 e) 10 j ∧ c (128 * e + 96 + j) = rw9 (S.1 e) 11 j
def rGt (S : SG) (G : kG) : Prop := G.1 174 = some (BA 2 (fun j => (gt (S.1 j)).length)) ∧ ∃ c, G.1 175 = some (YA 4000 c) ∧ (∀ j, c j < 256) ∧ ∀ e, e < 2 → (gt (S.1 e)).length ≤ 2000 ∧ ∀ j, j < (gt (S.1 e)).length → c (2000 * e + j) = gD (gt (S.1 e)) j
def rWi (S : SG) (G : kG) : Prop := G.1 176 = some (BA 2 (fun j => (wi (S.1 j)).length)) ∧ ∃ z w, G.1 177 = some (BA 24 z) ∧ G.1 178 = some (YA 5760 w) ∧ (∀ j, w j < 256) ∧ ∀ e, e < 2 → (wi (S.1 e)).length ≤ 12 ∧ ∀ k, k < (wi (S.1 e)).length → z (12 * e + k) = (pkA S e k).length ∧ (pkA S e k).length ≤ 228 ∧ ∀ j, j < (pkA S e k).length → w (240 * (12 * e + k) + j) = gD (pkA S e k) j
def rFl (S : SG) (G : kG) : Prop := G.1 164 = some (ZA 2 (fun j => !fl (S.1 j) 0)) ∧ G.1 172 = some (ZA 2 (fun j => fl (S.1 j) 1)) ∧ G.1 167 = some (ZA 2 (fun j => fl (S.1 j) 2)) ∧ G.1 168 = some (ZA 2 (fun j => fl (S.1 j) 3)) ∧ G.1 169 = some (ZA 2 (fun j => fl (S.1 j) 4)) ∧ G.1 170 = some (ZA 2 (fun j => fl (S.1 j) 5)) ∧ G.1 162 = some (ZA 2 (fun j => fl (S.1 j) 6)) ∧ G.1 163 = some (ZA 2 (fun j => fl (S.1 j) 7))
def rNm (S : SG) (G : kG) : Prop := G.1 165 = some (BA 2 (fun j => nm (S.1 j) 0)) ∧ G.1 166 = some (BA 2 (fun j => nm (S.1 j) 1)) ∧ G.1 171 = some (BA 2 (fun j => nm (S.1 j) 2)) ∧ G.1 173 = some (IA 2 (fun j => un (S.1 j)))
def RM (T : TB) (S : SG) (G : kG) : Prop := scM T G ∧ rRow S G ∧ rCk S G ∧ rIn S G ∧ rKy S G ∧ rNk S G ∧ rGt S G ∧ rWi S G ∧ rFl S G ∧ rNm S G
theorem pj_up {α : Type} (f : ES → α) {e : Nat} {s : ES} : (fun j => f ((sE S e s).1 j)) = up (fun j => f (S.1 j)) e (f s) := by
  funext j
  unfold sE up
  show f (if j = e then s else S.1 j) = if j = e then f s else f (S.1 j)
  split <;> rfl
theorem pj_same {α : Type} (f : ES → α) {e : Nat} {s : ES} (h : f s = f (S.1 e)) : (fun j => f ((sE S e s).1 j)) = fun j => f (S.1 j) := by
  funext j
  unfold sE up
  show f (if j = e then s else S.1 j) = f (S.1 j)
  split
  · rename_i e2; rw [e2]; exact h
  · rfl
theorem sE_e {e : Nat} {s : ES} : (sE S e s).1 e = s := up_eq
theorem sE_n {e j : Nat} {s : ES} (h : j ≠ e) : (sE S e s).1 j = S.1 j := up_ne h
theorem yM.fp {c N : Nat} {G' : kG} (h : yM c N G) (e : G'.1 c = G.1 c) : yM c N G' := by obtain ⟨f, a, b⟩ := h; exact ⟨f, e.trans a, b⟩
theorem hM.fp {G' : kG} (h : hM T G) (e : ∀ j, 145 ≤ j → j ≤ 151 → G'.1 j = G.1 j) : hM T G' := by
  obtain ⟨⟨a1, a2, a3⟩, ⟨b1, b2, b3⟩, ⟨c1, c2⟩, ⟨d1, d2⟩, e1, e2⟩ := h
  exact ⟨⟨a1, (e _ (by decide) (by decide)).trans a2, a3⟩, ⟨b1, (e _ (by decide) (by decide)).trans b2, b3⟩, ⟨c1, (e _ (by decide) (by decide)).trans c2⟩, ⟨d1, (e _ (by decide) (by decide)).trans d2⟩, e1, (e _ (by decide) (by decide)).trans e2⟩
theorem mhl.fp {l : List Nat} {G' : kG} (h : mhl l G) (e : G'.1 149 = G.1 149) : mhl l G' := by obtain ⟨f, a, b⟩ := h; exact ⟨f, e.trans a, b⟩
theorem mhl.nl {l : List Nat} (h : mhl l G) : mhl [] G := by obtain ⟨f, a, b, c⟩ := h; exact ⟨f, a, b, rfl⟩
theorem sM.fp {G' : kG} (h : sM G) (e : ∀ j, 150 ≤ j → j ≤ 152 → G'.1 j = G.1 j) : sM G' := by
  obtain ⟨⟨a1, a2⟩, ⟨b1, b2⟩, c1, c2, c3⟩ := h
  exact ⟨⟨a1, (e _ (by decide) (by decide)).trans a2⟩, ⟨b1, (e _ (by decide) (by decide)).trans b2⟩, c1, (e _ (by decide) (by decide)).trans c2, c3⟩
theorem tM.fp {G' : kG} (h : tM G) (e : ∀ j, 153 ≤ j → j ≤ 156 → G'.1 j = G.1 j) : tM G' := by
  obtain ⟨⟨a1, a2⟩, ⟨b1, b2⟩, ⟨d1, d2⟩, c1, c2, c3⟩ := h
  exact ⟨⟨a1, (e _ (by decide) (by decide)).trans a2⟩, ⟨b1, (e _ (by decide) (by decide)).trans b2⟩, ⟨d1, (e _ (by decide) (by decide)).trans d2⟩, c1, (e _ (by decide) (by decide)).trans c2, c3⟩
theorem crM.fp {D : Nat → Nat} {G' : kG} (h : crM D G) (e : ∀ j, 143 ≤ j → j ≤ 144 → G'.1 j = G.1 j) : crM D G' := by
  obtain ⟨a, b, c⟩ := h
  exact ⟨(e _ (by decide) (by decide)).trans a, b, (e _ (by decide) (by decide)).trans c⟩
theorem scM.fp {G' : kG} (h : scM T G) (e : ∀ j, (143 ≤ j ∧ j ≤ 156) ∨ (179 ≤ j ∧ j ≤ 181) → G'.1 j = G.1 j) : scM T G' := by
  obtain ⟨⟨D, a⟩, b, c, d, f, g, i, k⟩ := h
  exact ⟨⟨D, a.fp (fun j _ _ => e j (by omega))⟩, b.fp (fun j _ _ => e j (by omega)), c.fp (e _ (by omega)), d.fp (fun j _ _ => e j (by omega)), f.fp (fun j _ _ => e j (by omega)), g.fp (e _ (by omega)), i.fp (e _ (by omega)), k.fp (e _ (by omega))⟩
theorem rRow.fp {G' : kG} (h : rRow S G) (e : G'.1 157 = G.1 157) : rRow S G' := by obtain ⟨f, a, b⟩ := h; exact ⟨f, e.trans a, b⟩
theorem rCk.fp {G' : kG} (h : rCk S G) (e : G'.1 158 = G.1 158) : rCk S G' := by obtain ⟨f, a, b⟩ := h; exact ⟨f, e.trans a, b⟩
theorem rIn.fp {G' : kG} (h : rIn S G) (e : G'.1 159 = G.1 159) : rIn S G' := by obtain ⟨f, a, b⟩ := h; exact ⟨f, e.trans a, b⟩
theorem rKy.fp {G' : kG} (h : rKy S G) (e : G'.1 160 = G.1 160) : rKy S G' := by obtain ⟨f, a, b⟩ := h; exact ⟨f, e.trans a, b⟩
theorem rNk.fp {G' : kG} (h : rNk S G) (e : G'.1 161 = G.1 161) : rNk S G' := by obtain ⟨f, a, b⟩ := h; exact ⟨f, e.trans a, b⟩
theorem rGt.fp {G' : kG} (h : rGt S G) (e : ∀ j, 174 ≤ j → j ≤ 175 → G'.1 j = G.1 j) : rGt S G' := by obtain ⟨a, f, b, c⟩ := h; exact ⟨(e _ (by decide) (by decide)).trans a, f, (e _ (by decide) (by decide)).trans b, c⟩
theorem rWi.fp {G' : kG} (h : rWi S G) (e : ∀ j, 176 ≤ j → j ≤ 178 → G'.1 j = G.1 j) : rWi S G' := by obtain ⟨a, z, w, b, c, d⟩ := h; exact ⟨(e _ (by decide) (by decide)).trans a, z, w, (e _ (by decide) (by decide)).trans b, (e _ (by decide) (by decide)).trans c, d⟩
theorem rFl.fp {G' : kG} (h : rFl S G) (e : ∀ j, 162 ≤ j → j ≤ 172 → G'.1 j = G.1 j) : rFl S G' := by
  obtain ⟨a, b, c, d, f, g, i, k⟩ := h
  exact ⟨(e _ (by decide) (by decide)).trans a, (e _ (by decide) (by decide)).trans b, (e _ (by decide) (by decide)).trans c, (e _ (by decide) (by decide)).trans d, (e _ (by decide) (by decide)).trans f, (e _ (by decide) (by decide)).trans g, (e _ (by decide) (by decide)).trans i, (e _ (by decide) (by decide)).trans k⟩
theorem rNm.fp {G' : kG} (h : rNm S G) (e : ∀ j, 165 ≤ j → j ≤ 173 → G'.1 j = G.1 j) : rNm S G' := by
  obtain ⟨a, b, c, d⟩ := h
  exact ⟨(e _ (by decide) (by decide)).trans a, (e _ (by decide) (by decide)).trans b, (e _ (by decide) (by decide)).trans c, (e _ (by decide) (by decide)).trans d⟩
/-- scratch may change -/
theorem RM.sc {G' : kG} (h : RM T S G) (hs : scM T G') (e : ∀ j, 157 ≤ j → j ≤ 178 → G'.1 j = G.1 j) : RM T S G' := by
  obtain ⟨_, a, b, c, d, f, g, i, k, m⟩ := h
  exact ⟨hs, a.fp (e _ (by decide) (by decide)), b.fp (e _ (by decide) (by decide)), c.fp (e _ (by decide) (by decide)), d.fp (e _ (by decide) (by decide)), f.fp (e _ (by decide) (by decide)), g.fp (fun j p q => e j (by omega) (by omega)), i.fp (fun j p q => e j (by omega) (by omega)), k.fp (fun j p q => e j (by omega) (by omega)), m.fp (fun j p q => e j (by omega) (by omega))⟩
theorem RM.fp {G' : kG} (h : RM T S G) (e : ∀ j, 143 ≤ j → j ≤ 181 → G'.1 j = G.1 j) : RM T S G' := h.sc (h.1.fp (fun j hj => e j (by omega) (by omega))) (fun j a b => e j (by omega) (by omega))
theorem RM.ob {x : kE} (h : RM T S G) : RM T S (hup G 140 x) := h.fp (fun j a b => hup_ne (by omega))
/-- what the groups read of a state -/
theorem rRow.st {S' : SG} (h : rRow S G) (e : ∀ j, j < 2 → rw9 (S'.1 j) 0 = rw9 (S.1 j) 0 ∧ rw9 (S'.1 j) 3 = rw9 (S.1 j) 3 ∧ rw9 (S'.1 j) 2 = rw9 (S.1 j) 2) (e2 : S'.2.1 = S.2.1) : rRow S' G := by
  obtain ⟨R, a, b, c⟩ := h
  refine ⟨R, a, b, fun j hj => ⟨fun i hi => ?_, ?_⟩⟩
  · rw [(e i hi).1, (e i hi).2.1, (e i hi).2.2]; exact (c j hj).1 i hi
  · rw [e2]; exact (c j hj).2
theorem rCk.st {S' : SG} (h : rCk S G) (e : ∀ j, j < 2 → rw9 (S'.1 j) 1 = rw9 (S.1 j) 1) : rCk S' G := by
  obtain ⟨R, a, b, c⟩ := h
  exact ⟨R, a, b, fun i hi j hj => by rw [e i hi]; exact c i hi j hj⟩
theorem rIn.st {S' : SG} (h : rIn S G) (e : ∀ j, j < 2 → rw9 (S'.1 j) 4 = rw9 (S.1 j) 4 ∧ rw9 (S'.1 j) 5 = rw9 (S.1 j) 5) : rIn S' G := by
  obtain ⟨R, a, b, c⟩ := h
  exact ⟨R, a, b, fun i hi j hj => by rw [(e i hi).1, (e i hi).2]; exact c i hi j hj⟩
theorem rKy.st {S' : SG} (h : rKy S G) (e : ∀ j, j < 2 → rw9 (S'.1 j) 6 = rw9 (S.1 j) 6 ∧ rw9 (S'.1 j) 7 = rw9 (S.1 j) 7 ∧ rw9 (S'.1 j) 8 = rw9 (S.1 j) 8 ∧ rw9 (S'.1 j) 9 = rw9 (S.1 j) 9) : rKy S' G := by
  obtain ⟨R, a, b, c⟩ := h
  exact ⟨R, a, b, fun i hi j hj => by rw [(e i hi).1, (e i hi).2.1, (e i hi).2.2.1, (e i hi).2.2.2]; exact c i hi j hj⟩
theorem rNk.st {S' : SG} (h : rNk S G) (e : ∀ j, j < 2 → rw9 (S'.1 j) 10 = rw9 (S.1 j) 10 ∧ rw9 (S'.1 j) 11 = rw9 (S.1 j) 11) : rNk S' G := by
  obtain ⟨R, a, b, c⟩ := h
  exact ⟨R, a, b, fun i hi j hj => by rw [(e i hi).1, (e i hi).2]; exact c i hi j hj⟩
theorem rGt.st {S' : SG} (h : rGt S G) (e : ∀ j, gt (S'.1 j) = gt (S.1 j)) : rGt S' G := by
  obtain ⟨a, R, b, c, d⟩ := h
  refine ⟨?_, R, b, c, fun i hi => by rw [e i]; exact d i hi⟩
  rw [a, show (fun j => (gt (S'.1 j)).length) = fun j => (gt (S.1 j)).length from funext (fun j => by rw [e j])]
theorem rWi.st {S' : SG} (h : rWi S G) (e : ∀ j, wi (S'.1 j) = wi (S.1 j)) : rWi S' G := by
  obtain ⟨a, z, w, b, c, d, f⟩ := h
  refine ⟨?_, z, w, b, c, d, fun i hi => ?_⟩
  · rw [a, show (fun j => (wi (S'.1 j)).length) = fun j => (wi (S.1 j)).length from funext (fun j => by rw [e j])]
  · unfold pkA
    rw [e i]
    exact f i hi
theorem rFl.st {S' : SG} (h : rFl S G) (e : ∀ j k, k < 8 → fl (S'.1 j) k = fl (S.1 j) k) : rFl S' G := by
  have ee : ∀ k, k < 8 → (fun j => fl (S'.1 j) k) = fun j => fl (S.1 j) k := fun k hk => funext (fun j => e j k hk)
  have e0 : (fun j => !fl (S'.1 j) 0) = fun j => !fl (S.1 j) 0 := funext (fun j => by rw [e j 0 (by decide)])
  unfold rFl
  rw [e0, ee 1 (by decide), ee 2 (by decide), ee 3 (by decide), ee 4 (by decide), ee 5 (by decide), ee 6 (by decide), ee 7 (by decide)]
  exact h
theorem rNm.st {S' : SG} (h : rNm S G) (e : ∀ j, nm (S'.1 j) = nm (S.1 j) ∧ un (S'.1 j) = un (S.1 j)) : rNm S' G := by
  have ee : ∀ k, (fun j => nm (S'.1 j) k) = fun j => nm (S.1 j) k := fun k => funext (fun j => by rw [(e j).1])
  have e0 : (fun j => un (S'.1 j)) = fun j => un (S.1 j) := funext (fun j => (e j).2)
  unfold rNm
  rw [e0, ee 0, ee 1, ee 2]
  exact h
/-- a state with the same rows and numbers, other flags -/
theorem sfl_fl {s : ES} {k : Nat} {b : Bool} {j : Nat} : fl (sfl s k b) j = if j = k then b else fl s j := rfl
theorem sE_rw {e : Nat} {s : ES} (h : rw9 s = rw9 (S.1 e)) (j : Nat) : rw9 ((sE S e s).1 j) = rw9 (S.1 j) := congrFun (pj_same (S := S) (fun s => rw9 s) h) j
theorem sE_gt {e : Nat} {s : ES} (h : gt s = gt (S.1 e)) (j : Nat) : gt ((sE S e s).1 j) = gt (S.1 j) := congrFun (pj_same (S := S) (fun s => gt s) h) j
theorem sE_wi {e : Nat} {s : ES} (h : wi s = wi (S.1 e)) (j : Nat) : wi ((sE S e s).1 j) = wi (S.1 j) := congrFun (pj_same (S := S) (fun s => wi s) h) j
theorem sE_fl {e : Nat} {s : ES} (h : fl s = fl (S.1 e)) (j : Nat) : fl ((sE S e s).1 j) = fl (S.1 j) := congrFun (pj_same (S := S) (fun s => fl s) h) j
theorem sE_nm {e : Nat} {s : ES} (h : nm s = nm (S.1 e)) (j : Nat) : nm ((sE S e s).1 j) = nm (S.1 j) := congrFun (pj_same (S := S) (fun s => nm s) h) j
theorem sE_un {e : Nat} {s : ES} (h : un s = un (S.1 e)) (j : Nat) : un ((sE S e s).1 j) = un (S.1 j) := congrFun (pj_same (S := S) (fun s => un s) h) j
theorem RM.f0 {e : Nat} {b : Bool} (h : RM T S G) : RM T (sE S e (sfl (S.1 e) 0 b)) (hup G 164 (ZA 2 (up (fun j => !fl (S.1 j) 0) e (!b)))) := by
  obtain ⟨h1, h2, h3, h4, h5, h6, h7, h8, ⟨a0, a1, a2, a3, a4, a5, a6, a7⟩, h10⟩ := h
  have er := sE_rw (S := S) (e := e) (s := sfl (S.1 e) 0 b) rfl
  refine ⟨h1.fp (fun j hj => hup_ne (by omega)), (h2.fp (hup_ne (by decide))).st (fun j _ => by rw [er j]; exact ⟨rfl, rfl, rfl⟩) rfl, (h3.fp (hup_ne (by decide))).st (fun j _ => by rw [er j]), (h4.fp (hup_ne (by decide))).st (fun j _ => by rw [er j]; exact ⟨rfl, rfl⟩), (h5.fp (hup_ne (by decide))).st (fun j _ => by rw [er j]; exact ⟨rfl, rfl, rfl, rfl⟩), (h6.fp (hup_ne (by decide))).st (fun j _ => by rw [er j]; exact ⟨rfl, rfl⟩), (h7.fp (fun j _ _ => hup_ne (by omega))).st (sE_gt (S := S) (e := e) (s := sfl (S.1 e) 0 b) rfl), (h8.fp (fun j _ _ => hup_ne (by omega))).st (sE_wi (S := S) (e := e) (s := sfl (S.1 e) 0 b) rfl), ⟨by rw [hup_eq]; exact congrArg (fun f => some (ZA 2 f)) (pj_up (S := S) (fun s => !fl s 0) (e := e) (s := sfl (S.1 e) 0 b)).symm, by rw [hup_ne (by decide), pj_same (S := S) (fun s => fl s 1) (e := e) (s := sfl (S.1 e) 0 b) rfl]; exact a1, by rw [hup_ne (by decide), pj_same (S := S) (fun s => fl s 2) (e := e) (s := sfl (S.1 e) 0 b) rfl]; exact a2, by rw [hup_ne (by decide), pj_same (S := S) (fun s => fl s 3) (e := e) (s := sfl (S.1 e) 0 b) rfl]; exact a3, by rw [hup_ne (by decide), pj_same (S := S) (fun s => fl s 4) (e := e) (s := sfl (S.1 e) 0 b) rfl]; exact a4, by rw [hup_ne (by decide), pj_same (S := S) (fun s => fl s 5) (e := e) (s := sfl (S.1 e) 0 b) rfl]; exact a5, by rw [hup_ne (by decide), pj_same (S := S) (fun s => fl s 6) (e := e) (s := sfl (S.1 e) 0 b) rfl]; exact a6, by rw [hup_ne (by decide), pj_same (S := S) (fun s => fl s 7) (e := e) (s := sfl (S.1 e) 0 b) rfl]; exact a7⟩, ?_⟩
  obtain ⟨n0, n1, n2, n3⟩ := h10
  refine rNm.st (S := S) ⟨(hup_ne (by decide)).trans n0, (hup_ne (by decide)).trans n1, (hup_ne (by decide)).trans n2, (hup_ne (by decide)).trans n3⟩ (fun j => ⟨sE_nm (S := S) (e := e) (s := sfl (S.1 e) 0 b) rfl j, sE_un (S := S) (e := e) (s := sfl (S.1 e) 0 b) rfl j⟩)
theorem RM.f1 {e : Nat} {b : Bool} (h : RM T S G) : RM T (sE S e (sfl (S.1 e) 1 b)) (hup G 172 (ZA 2 (up (fun j => fl (S.1 j) 1) e b))) := by
  obtain ⟨h1, h2, h3, h4, h5, h6, h7, h8, ⟨a0, a1, a2, a3, a4, a5, a6, a7⟩, h10⟩ := h
  have er := sE_rw (S := S) (e := e) (s := sfl (S.1 e) 1 b) rfl
  refine ⟨h1.fp (fun j hj => hup_ne (by omega)), (h2.fp (hup_ne (by decide))).st (fun j _ => by rw [er j]; exact ⟨rfl, rfl, rfl⟩) rfl, (h3.fp (hup_ne (by decide))).st (fun j _ => by rw [er j]), (h4.fp (hup_ne (by decide))).st (fun j _ => by rw [er j]; exact ⟨rfl, rfl⟩), (h5.fp (hup_ne (by decide))).st (fun j _ => by rw [er j]; exact ⟨rfl, rfl, rfl, rfl⟩), (h6.fp (hup_ne (by decide))).st (fun j _ => by rw [er j]; exact ⟨rfl, rfl⟩), (h7.fp (fun j _ _ => hup_ne (by omega))).st (sE_gt (S := S) (e := e) (s := sfl (S.1 e) 1 b) rfl), (h8.fp (fun j _ _ => hup_ne (by omega))).st (sE_wi (S := S) (e := e) (s := sfl (S.1 e) 1 b) rfl), ⟨by rw [hup_ne (by decide), pj_same (S := S) (fun s => !fl s 0) (e := e) (s := sfl (S.1 e) 1 b) rfl]; exact a0, by rw [hup_eq]; exact congrArg (fun f => some (ZA 2 f)) (pj_up (S := S) (fun s => fl s 1) (e := e) (s := sfl (S.1 e) 1 b)).symm, by rw [hup_ne (by decide), pj_same (S := S) (fun s => fl s 2) (e := e) (s := sfl (S.1 e) 1 b) rfl]; exact a2, by rw [hup_ne (by decide), pj_same (S := S) (fun s => fl s 3) (e := e) (s := sfl (S.1 e) 1 b) rfl]; exact a3, by rw [hup_ne (by decide), pj_same (S := S) (fun s => fl s 4) (e := e) (s := sfl (S.1 e) 1 b) rfl]; exact a4, by rw [hup_ne (by decide), pj_same (S := S) (fun s => fl s 5) (e := e) (s := sfl (S.1 e) 1 b) rfl]; exact a5, by rw [hup_ne (by decide), pj_same (S := S) (fun s => fl s 6) (e := e) (s := sfl (S.1 e) 1 b) rfl]; exact a6, by rw [hup_ne (by decide), pj_same (S := S) (fun s => fl s 7) (e := e) (s := sfl (S.1 e) 1 b) rfl]; exact a7⟩, ?_⟩
  obtain ⟨n0, n1, n2, n3⟩ := h10
  refine rNm.st (S := S) ⟨(hup_ne (by decide)).trans n0, (hup_ne (by decide)).trans n1, (hup_ne (by decide)).trans n2, (hup_ne (by decide)).trans n3⟩ (fun j => ⟨sE_nm (S := S) (e := e) (s := sfl (S.1 e) 1 b) rfl j, sE_un (S := S) (e := e) (s := sfl (S.1 e) 1 b) rfl j⟩)
theorem RM.f2 {e : Nat} {b : Bool} (h : RM T S G) : RM T (sE S e (sfl (S.1 e) 2 b)) (hup G 167 (ZA 2 (up (fun j => fl (S.1 j) 2) e b))) := by
  obtain ⟨h1, h2, h3, h4, h5, h6, h7, h8, ⟨a0, a1, a2, a3, a4, a5, a6, a7⟩, h10⟩ := h
  have er := sE_rw (S := S) (e := e) (s := sfl (S.1 e) 2 b) rfl
  refine ⟨h1.fp (fun j hj => hup_ne (by omega)), (h2.fp (hup_ne (by decide))).st (fun j _ => by rw [er j]; exact ⟨rfl, rfl, rfl⟩) rfl, (h3.fp (hup_ne (by decide))).st (fun j _ => by rw [er j]), (h4.fp (hup_ne (by decide))).st (fun j _ => by rw [er j]; exact ⟨rfl, rfl⟩), (h5.fp (hup_ne (by decide))).st (fun j _ => by rw [er j]; exact ⟨rfl, rfl, rfl, rfl⟩), (h6.fp (hup_ne (by decide))).st (fun j _ => by rw [er j]; exact ⟨rfl, rfl⟩), (h7.fp (fun j _ _ => hup_ne (by omega))).st (sE_gt (S := S) (e := e) (s := sfl (S.1 e) 2 b) rfl), (h8.fp (fun j _ _ => hup_ne (by omega))).st (sE_wi (S := S) (e := e) (s := sfl (S.1 e) 2 b) rfl), ⟨by rw [hup_ne (by decide), pj_same (S := S) (fun s => !fl s 0) (e := e) (s := sfl (S.1 e) 2 b) rfl]; exact a0, by rw [hup_ne (by decide), pj_same (S := S) (fun s => fl s 1) (e := e) (s := sfl (S.1 e) 2 b) rfl]; exact a1, by rw [hup_eq]; exact congrArg (fun f => some (ZA 2 f)) (pj_up (S := S) (fun s => fl s 2) (e := e) (s := sfl (S.1 e) 2 b)).symm, by rw [hup_ne (by decide), pj_same (S := S) (fun s => fl s 3) (e := e) (s := sfl (S.1 e) 2 b) rfl]; exact a3, by rw [hup_ne (by decide), pj_same (S := S) (fun s => fl s 4) (e := e) (s := sfl (S.1 e) 2 b) rfl]; exact a4, by rw [hup_ne (by decide), pj_same (S := S) (fun s => fl s 5) (e := e) (s := sfl (S.1 e) 2 b) rfl]; exact a5, by rw [hup_ne (by decide), pj_same (S := S) (fun s => fl s 6) (e := e) (s := sfl (S.1 e) 2 b) rfl]; exact a6, by rw [hup_ne (by decide), pj_same (S := S) (fun s => fl s 7) (e := e) (s := sfl (S.1 e) 2 b) rfl]; exact a7⟩, ?_⟩
  obtain ⟨n0, n1, n2, n3⟩ := h10
  refine rNm.st (S := S) ⟨(hup_ne (by decide)).trans n0, (hup_ne (by decide)).trans n1, (hup_ne (by decide)).trans n2, (hup_ne (by decide)).trans n3⟩ (fun j => ⟨sE_nm (S := S) (e := e) (s := sfl (S.1 e) 2 b) rfl j, sE_un (S := S) (e := e) (s := sfl (S.1 e) 2 b) rfl j⟩)
theorem RM.f3 {e : Nat} {b : Bool} (h : RM T S G) : RM T (sE S e (sfl (S.1 e) 3 b)) (hup G 168 (ZA 2 (up (fun j => fl (S.1 j) 3) e b))) := by
  obtain ⟨h1, h2, h3, h4, h5, h6, h7, h8, ⟨a0, a1, a2, a3, a4, a5, a6, a7⟩, h10⟩ := h
  have er := sE_rw (S := S) (e := e) (s := sfl (S.1 e) 3 b) rfl
  refine ⟨h1.fp (fun j hj => hup_ne (by omega)), (h2.fp (hup_ne (by decide))).st (fun j _ => by rw [er j]; exact ⟨rfl, rfl, rfl⟩) rfl, (h3.fp (hup_ne (by decide))).st (fun j _ => by rw [er j]), (h4.fp (hup_ne (by decide))).st (fun j _ => by rw [er j]; exact ⟨rfl, rfl⟩), (h5.fp (hup_ne (by decide))).st (fun j _ => by rw [er j]; exact ⟨rfl, rfl, rfl, rfl⟩), (h6.fp (hup_ne (by decide))).st (fun j _ => by rw [er j]; exact ⟨rfl, rfl⟩), (h7.fp (fun j _ _ => hup_ne (by omega))).st (sE_gt (S := S) (e := e) (s := sfl (S.1 e) 3 b) rfl), (h8.fp (fun j _ _ => hup_ne (by omega))).st (sE_wi (S := S) (e := e) (s := sfl (S.1 e) 3 b) rfl), ⟨by rw [hup_ne (by decide), pj_same (S := S) (fun s => !fl s 0) (e := e) (s := sfl (S.1 e) 3 b) rfl]; exact a0, by rw [hup_ne (by decide), pj_same (S := S) (fun s => fl s 1) (e := e) (s := sfl (S.1 e) 3 b) rfl]; exact a1, by rw [hup_ne (by decide), pj_same (S := S) (fun s => fl s 2) (e := e) (s := sfl (S.1 e) 3 b) rfl]; exact a2, by rw [hup_eq]; exact congrArg (fun f => some (ZA 2 f)) (pj_up (S := S) (fun s => fl s 3) (e := e) (s := sfl (S.1 e) 3 b)).symm, by rw [hup_ne (by decide), pj_same (S := S) (fun s => fl s 4) (e := e) (s := sfl (S.1 e) 3 b) rfl]; exact a4, by rw [hup_ne (by decide), pj_same (S := S) (fun s => fl s 5) (e := e) (s := sfl (S.1 e) 3 b) rfl]; exact a5, by rw [hup_ne (by decide), pj_same (S := S) (fun s => fl s 6) (e := e) (s := sfl (S.1 e) 3 b) rfl]; exact a6, by rw [hup_ne (by decide), pj_same (S := S) (fun s => fl s 7) (e := e) (s := sfl (S.1 e) 3 b) rfl]; exact a7⟩, ?_⟩
  obtain ⟨n0, n1, n2, n3⟩ := h10
  refine rNm.st (S := S) ⟨(hup_ne (by decide)).trans n0, (hup_ne (by decide)).trans n1, (hup_ne (by decide)).trans n2, (hup_ne (by decide)).trans n3⟩ (fun j => ⟨sE_nm (S := S) (e := e) (s := sfl (S.1 e) 3 b) rfl j, sE_un (S := S) (e := e) (s := sfl (S.1 e) 3 b) rfl j⟩)
theorem RM.f4 {e : Nat} {b : Bool} (h : RM T S G) : RM T (sE S e (sfl (S.1 e) 4 b)) (hup G 169 (ZA 2 (up (fun j => fl (S.1 j) 4) e b))) := by
  obtain ⟨h1, h2, h3, h4, h5, h6, h7, h8, ⟨a0, a1, a2, a3, a4, a5, a6, a7⟩, h10⟩ := h
  have er := sE_rw (S := S) (e := e) (s := sfl (S.1 e) 4 b) rfl
  refine ⟨h1.fp (fun j hj => hup_ne (by omega)), (h2.fp (hup_ne (by decide))).st (fun j _ => by rw [er j]; exact ⟨rfl, rfl, rfl⟩) rfl, (h3.fp (hup_ne (by decide))).st (fun j _ => by rw [er j]), (h4.fp (hup_ne (by decide))).st (fun j _ => by rw [er j]; exact ⟨rfl, rfl⟩), (h5.fp (hup_ne (by decide))).st (fun j _ => by rw [er j]; exact ⟨rfl, rfl, rfl, rfl⟩), (h6.fp (hup_ne (by decide))).st (fun j _ => by rw [er j]; exact ⟨rfl, rfl⟩), (h7.fp (fun j _ _ => hup_ne (by omega))).st (sE_gt (S := S) (e := e) (s := sfl (S.1 e) 4 b) rfl), (h8.fp (fun j _ _ => hup_ne (by omega))).st (sE_wi (S := S) (e := e) (s := sfl (S.1 e) 4 b) rfl), ⟨by rw [hup_ne (by decide), pj_same (S := S) (fun s => !fl s 0) (e := e) (s := sfl (S.1 e) 4 b) rfl]; exact a0, by rw [hup_ne (by decide), pj_same (S := S) (fun s => fl s 1) (e := e) (s := sfl (S.1 e) 4 b) rfl]; exact a1, by rw [hup_ne (by decide), pj_same (S := S) (fun s => fl s 2) (e := e) (s := sfl (S.1 e) 4 b) rfl]; exact a2, by rw [hup_ne (by decide), pj_same (S := S) (fun s => fl s 3) (e := e) (s := sfl (S.1 e) 4 b) rfl]; exact a3, by rw [hup_eq]; exact congrArg (fun f => some (ZA 2 f)) (pj_up (S := S) (fun s => fl s 4) (e := e) (s := sfl (S.1 e) 4 b)).symm, by rw [hup_ne (by decide), pj_same (S := S) (fun s => fl s 5) (e := e) (s := sfl (S.1 e) 4 b) rfl]; exact a5, by rw [hup_ne (by decide), pj_same (S := S) (fun s => fl s 6) (e := e) (s := sfl (S.1 e) 4 b) rfl]; exact a6, by rw [hup_ne (by decide), pj_same (S := S) (fun s => fl s 7) (e := e) (s := sfl (S.1 e) 4 b) rfl]; exact a7⟩, ?_⟩
  obtain ⟨n0, n1, n2, n3⟩ := h10
  refine rNm.st (S := S) ⟨(hup_ne (by decide)).trans n0, (hup_ne (by decide)).trans n1, (hup_ne (by decide)).trans n2, (hup_ne (by decide)).trans n3⟩ (fun j => ⟨sE_nm (S := S) (e := e) (s := sfl (S.1 e) 4 b) rfl j, sE_un (S := S) (e := e) (s := sfl (S.1 e) 4 b) rfl j⟩)
theorem RM.f5 {e : Nat} {b : Bool} (h : RM T S G) : RM T (sE S e (sfl (S.1 e) 5 b)) (hup G 170 (ZA 2 (up (fun j => fl (S.1 j) 5) e b))) := by
  obtain ⟨h1, h2, h3, h4, h5, h6, h7, h8, ⟨a0, a1, a2, a3, a4, a5, a6, a7⟩, h10⟩ := h
  have er := sE_rw (S := S) (e := e) (s := sfl (S.1 e) 5 b) rfl
  refine ⟨h1.fp (fun j hj => hup_ne (by omega)), (h2.fp (hup_ne (by decide))).st (fun j _ => by rw [er j]; exact ⟨rfl, rfl, rfl⟩) rfl, (h3.fp (hup_ne (by decide))).st (fun j _ => by rw [er j]), (h4.fp (hup_ne (by decide))).st (fun j _ => by rw [er j]; exact ⟨rfl, rfl⟩), (h5.fp (hup_ne (by decide))).st (fun j _ => by rw [er j]; exact ⟨rfl, rfl, rfl, rfl⟩), (h6.fp (hup_ne (by decide))).st (fun j _ => by rw [er j]; exact ⟨rfl, rfl⟩), (h7.fp (fun j _ _ => hup_ne (by omega))).st (sE_gt (S := S) (e := e) (s := sfl (S.1 e) 5 b) rfl), (h8.fp (fun j _ _ => hup_ne (by omega))).st (sE_wi (S := S) (e := e) (s := sfl (S.1 e) 5 b) rfl), ⟨by rw [hup_ne (by decide), pj_same (S := S) (fun s => !fl s 0) (e := e) (s := sfl (S.1 e) 5 b) rfl]; exact a0, by rw [hup_ne (by decide), pj_same (S := S) (fun s => fl s 1) (e := e) (s := sfl (S.1 e) 5 b) rfl]; exact a1, by rw [hup_ne (by decide), pj_same (S := S) (fun s => fl s 2) (e := e) (s := sfl (S.1 e) 5 b) rfl]; exact a2, by rw [hup_ne (by decide), pj_same (S := S) (fun s => fl s 3) (e := e) (s := sfl (S.1 e) 5 b) rfl]; exact a3, by rw [hup_ne (by decide), pj_same (S := S) (fun s => fl s 4) (e := e) (s := sfl (S.1 e) 5 b) rfl]; exact a4, by rw [hup_eq]; exact congrArg (fun f => some (ZA 2 f)) (pj_up (S := S) (fun s => fl s 5) (e := e) (s := sfl (S.1 e) 5 b)).symm, by rw [hup_ne (by decide), pj_same (S := S) (fun s => fl s 6) (e := e) (s := sfl (S.1 e) 5 b) rfl]; exact a6, by rw [hup_ne (by decide), pj_same (S := S) (fun s => fl s 7) (e := e) (s := sfl (S.1 e) 5 b) rfl]; exact a7⟩, ?_⟩
  obtain ⟨n0, n1, n2, n3⟩ := h10
  refine rNm.st (S := S) ⟨(hup_ne (by decide)).trans n0, (hup_ne (by decide)).trans n1, (hup_ne (by decide)).trans n2, (hup_ne (by decide)).trans n3⟩ (fun j => ⟨sE_nm (S := S) (e := e) (s := sfl (S.1 e) 5 b) rfl j, sE_un (S := S) (e := e) (s := sfl (S.1 e) 5 b) rfl j⟩)
theorem RM.f6 {e : Nat} {b : Bool} (h : RM T S G) : RM T (sE S e (sfl (S.1 e) 6 b)) (hup G 162 (ZA 2 (up (fun j => fl (S.1 j) 6) e b))) := by
  obtain ⟨h1, h2, h3, h4, h5, h6, h7, h8, ⟨a0, a1, a2, a3, a4, a5, a6, a7⟩, h10⟩ := h
  have er := sE_rw (S := S) (e := e) (s := sfl (S.1 e) 6 b) rfl
  refine ⟨h1.fp (fun j hj => hup_ne (by omega)), (h2.fp (hup_ne (by decide))).st (fun j _ => by rw [er j]; exact ⟨rfl, rfl, rfl⟩) rfl, (h3.fp (hup_ne (by decide))).st (fun j _ => by rw [er j]), (h4.fp (hup_ne (by decide))).st (fun j _ => by rw [er j]; exact ⟨rfl, rfl⟩), (h5.fp (hup_ne (by decide))).st (fun j _ => by rw [er j]; exact ⟨rfl, rfl, rfl, rfl⟩), (h6.fp (hup_ne (by decide))).st (fun j _ => by rw [er j]; exact ⟨rfl, rfl⟩), (h7.fp (fun j _ _ => hup_ne (by omega))).st (sE_gt (S := S) (e := e) (s := sfl (S.1 e) 6 b) rfl), (h8.fp (fun j _ _ => hup_ne (by omega))).st (sE_wi (S := S) (e := e) (s := sfl (S.1 e) 6 b) rfl), ⟨by rw [hup_ne (by decide), pj_same (S := S) (fun s => !fl s 0) (e := e) (s := sfl (S.1 e) 6 b) rfl]; exact a0, by rw [hup_ne (by decide), pj_same (S := S) (fun s => fl s 1) (e := e) (s := sfl (S.1 e) 6 b) rfl]; exact a1, by rw [hup_ne (by decide), pj_same (S := S) (fun s => fl s 2) (e := e) (s := sfl (S.1 e) 6 b) rfl]; exact a2, by rw [hup_ne (by decide), pj_same (S := S) (fun s => fl s 3) (e := e) (s := sfl (S.1 e) 6 b) rfl]; exact a3, by rw [hup_ne (by decide), pj_same (S := S) (fun s => fl s 4) (e := e) (s := sfl (S.1 e) 6 b) rfl]; exact a4, by rw [hup_ne (by decide), pj_same (S := S) (fun s => fl s 5) (e := e) (s := sfl (S.1 e) 6 b) rfl]; exact a5, by rw [hup_eq]; exact congrArg (fun f => some (ZA 2 f)) (pj_up (S := S) (fun s => fl s 6) (e := e) (s := sfl (S.1 e) 6 b)).symm, by rw [hup_ne (by decide), pj_same (S := S) (fun s => fl s 7) (e := e) (s := sfl (S.1 e) 6 b) rfl]; exact a7⟩, ?_⟩
  obtain ⟨n0, n1, n2, n3⟩ := h10
  refine rNm.st (S := S) ⟨(hup_ne (by decide)).trans n0, (hup_ne (by decide)).trans n1, (hup_ne (by decide)).trans n2, (hup_ne (by decide)).trans n3⟩ (fun j => ⟨sE_nm (S := S) (e := e) (s := sfl (S.1 e) 6 b) rfl j, sE_un (S := S) (e := e) (s := sfl (S.1 e) 6 b) rfl j⟩)
theorem RM.f7 {e : Nat} {b : Bool} (h : RM T S G) : RM T (sE S e (sfl (S.1 e) 7 b)) (hup G 163 (ZA 2 (up (fun j => fl (S.1 j) 7) e b))) := by
  obtain ⟨h1, h2, h3, h4, h5, h6, h7, h8, ⟨a0, a1, a2, a3, a4, a5, a6, a7⟩, h10⟩ := h
  have er := sE_rw (S := S) (e := e) (s := sfl (S.1 e) 7 b) rfl
  refine ⟨h1.fp (fun j hj => hup_ne (by omega)), (h2.fp (hup_ne (by decide))).st (fun j _ => by rw [er j]; exact ⟨rfl, rfl, rfl⟩) rfl, (h3.fp (hup_ne (by decide))).st (fun j _ => by rw [er j]), (h4.fp (hup_ne (by decide))).st (fun j _ => by rw [er j]; exact ⟨rfl, rfl⟩), (h5.fp (hup_ne (by decide))).st (fun j _ => by rw [er j]; exact ⟨rfl, rfl, rfl, rfl⟩), (h6.fp (hup_ne (by decide))).st (fun j _ => by rw [er j]; exact ⟨rfl, rfl⟩), (h7.fp (fun j _ _ => hup_ne (by omega))).st (sE_gt (S := S) (e := e) (s := sfl (S.1 e) 7 b) rfl), (h8.fp (fun j _ _ => hup_ne (by omega))).st (sE_wi (S := S) (e := e) (s := sfl (S.1 e) 7 b) rfl), ⟨by rw [hup_ne (by decide), pj_same (S := S) (fun s => !fl s 0) (e := e) (s := sfl (S.1 e) 7 b) rfl]; exact a0, by rw [hup_ne (by decide), pj_same (S := S) (fun s => fl s 1) (e := e) (s := sfl (S.1 e) 7 b) rfl]; exact a1, by rw [hup_ne (by decide), pj_same (S := S) (fun s => fl s 2) (e := e) (s := sfl (S.1 e) 7 b) rfl]; exact a2, by rw [hup_ne (by decide), pj_same (S := S) (fun s => fl s 3) (e := e) (s := sfl (S.1 e) 7 b) rfl]; exact a3, by rw [hup_ne (by decide), pj_same (S := S) (fun s => fl s 4) (e := e) (s := sfl (S.1 e) 7 b) rfl]; exact a4, by rw [hup_ne (by decide), pj_same (S := S) (fun s => fl s 5) (e := e) (s := sfl (S.1 e) 7 b) rfl]; exact a5, by rw [hup_ne (by decide), pj_same (S := S) (fun s => fl s 6) (e := e) (s := sfl (S.1 e) 7 b) rfl]; exact a6, by rw [hup_eq]; exact congrArg (fun f => some (ZA 2 f)) (pj_up (S := S) (fun s => fl s 7) (e := e) (s := sfl (S.1 e) 7 b)).symm⟩, ?_⟩
  obtain ⟨n0, n1, n2, n3⟩ := h10
  refine rNm.st (S := S) ⟨(hup_ne (by decide)).trans n0, (hup_ne (by decide)).trans n1, (hup_ne (by decide)).trans n2, (hup_ne (by decide)).trans n3⟩ (fun j => ⟨sE_nm (S := S) (e := e) (s := sfl (S.1 e) 7 b) rfl j, sE_un (S := S) (e := e) (s := sfl (S.1 e) 7 b) rfl j⟩)
theorem RM.n0 {e n : Nat} (h : RM T S G) : RM T (sE S e (snm (S.1 e) 0 n)) (hup G 165 (BA 2 (updN (fun j => nm (S.1 j) 0) e n))) := by
  obtain ⟨h1, h2, h3, h4, h5, h6, h7, h8, ⟨a0, a1, a2, a3, a4, a5, a6, a7⟩, n0, n1, n2, n3⟩ := h
  have er := sE_rw (S := S) (e := e) (s := snm (S.1 e) 0 n) rfl
  refine ⟨h1.fp (fun j hj => hup_ne (by omega)), (h2.fp (hup_ne (by decide))).st (fun j _ => by rw [er j]; exact ⟨rfl, rfl, rfl⟩) rfl, (h3.fp (hup_ne (by decide))).st (fun j _ => by rw [er j]), (h4.fp (hup_ne (by decide))).st (fun j _ => by rw [er j]; exact ⟨rfl, rfl⟩), (h5.fp (hup_ne (by decide))).st (fun j _ => by rw [er j]; exact ⟨rfl, rfl, rfl, rfl⟩), (h6.fp (hup_ne (by decide))).st (fun j _ => by rw [er j]; exact ⟨rfl, rfl⟩), (h7.fp (fun j _ _ => hup_ne (by omega))).st (sE_gt (S := S) (e := e) (s := snm (S.1 e) 0 n) rfl), (h8.fp (fun j _ _ => hup_ne (by omega))).st (sE_wi (S := S) (e := e) (s := snm (S.1 e) 0 n) rfl), ?_, by rw [hup_eq]; exact congrArg (fun f => some (BA 2 f)) (pj_up (S := S) (fun s => nm s 0) (e := e) (s := snm (S.1 e) 0 n)).symm, by rw [hup_ne (by decide), pj_same (S := S) (fun s => nm s 1) (e := e) (s := snm (S.1 e) 0 n) rfl]; exact n1, by rw [hup_ne (by decide), pj_same (S := S) (fun s => nm s 2) (e := e) (s := snm (S.1 e) 0 n) rfl]; exact n2, by rw [hup_ne (by decide), pj_same (S := S) (fun s => un s) (e := e) (s := snm (S.1 e) 0 n) rfl]; exact n3⟩
  exact rFl.st (S := S) ⟨(hup_ne (by decide)).trans a0, (hup_ne (by decide)).trans a1, (hup_ne (by decide)).trans a2, (hup_ne (by decide)).trans a3, (hup_ne (by decide)).trans a4, (hup_ne (by decide)).trans a5, (hup_ne (by decide)).trans a6, (hup_ne (by decide)).trans a7⟩ (fun j k _ => by rw [sE_fl (S := S) (e := e) (s := snm (S.1 e) 0 n) rfl j])
theorem RM.n1 {e n : Nat} (h : RM T S G) : RM T (sE S e (snm (S.1 e) 1 n)) (hup G 166 (BA 2 (updN (fun j => nm (S.1 j) 1) e n))) := by
  obtain ⟨h1, h2, h3, h4, h5, h6, h7, h8, ⟨a0, a1, a2, a3, a4, a5, a6, a7⟩, n0, n1, n2, n3⟩ := h
  have er := sE_rw (S := S) (e := e) (s := snm (S.1 e) 1 n) rfl
  refine ⟨h1.fp (fun j hj => hup_ne (by omega)), (h2.fp (hup_ne (by decide))).st (fun j _ => by rw [er j]; exact ⟨rfl, rfl, rfl⟩) rfl, (h3.fp (hup_ne (by decide))).st (fun j _ => by rw [er j]), (h4.fp (hup_ne (by decide))).st (fun j _ => by rw [er j]; exact ⟨rfl, rfl⟩), (h5.fp (hup_ne (by decide))).st (fun j _ => by rw [er j]; exact ⟨rfl, rfl, rfl, rfl⟩), (h6.fp (hup_ne (by decide))).st (fun j _ => by rw [er j]; exact ⟨rfl, rfl⟩), (h7.fp (fun j _ _ => hup_ne (by omega))).st (sE_gt (S := S) (e := e) (s := snm (S.1 e) 1 n) rfl), (h8.fp (fun j _ _ => hup_ne (by omega))).st (sE_wi (S := S) (e := e) (s := snm (S.1 e) 1 n) rfl), ?_, by rw [hup_ne (by decide), pj_same (S := S) (fun s => nm s 0) (e := e) (s := snm (S.1 e) 1 n) rfl]; exact n0, by rw [hup_eq]; exact congrArg (fun f => some (BA 2 f)) (pj_up (S := S) (fun s => nm s 1) (e := e) (s := snm (S.1 e) 1 n)).symm, by rw [hup_ne (by decide), pj_same (S := S) (fun s => nm s 2) (e := e) (s := snm (S.1 e) 1 n) rfl]; exact n2, by rw [hup_ne (by decide), pj_same (S := S) (fun s => un s) (e := e) (s := snm (S.1 e) 1 n) rfl]; exact n3⟩
  exact rFl.st (S := S) ⟨(hup_ne (by decide)).trans a0, (hup_ne (by decide)).trans a1, (hup_ne (by decide)).trans a2, (hup_ne (by decide)).trans a3, (hup_ne (by decide)).trans a4, (hup_ne (by decide)).trans a5, (hup_ne (by decide)).trans a6, (hup_ne (by decide)).trans a7⟩ (fun j k _ => by rw [sE_fl (S := S) (e := e) (s := snm (S.1 e) 1 n) rfl j])
theorem RM.n2 {e n : Nat} (h : RM T S G) : RM T (sE S e (snm (S.1 e) 2 n)) (hup G 171 (BA 2 (updN (fun j => nm (S.1 j) 2) e n))) := by
  obtain ⟨h1, h2, h3, h4, h5, h6, h7, h8, ⟨a0, a1, a2, a3, a4, a5, a6, a7⟩, n0, n1, n2, n3⟩ := h
  have er := sE_rw (S := S) (e := e) (s := snm (S.1 e) 2 n) rfl
  refine ⟨h1.fp (fun j hj => hup_ne (by omega)), (h2.fp (hup_ne (by decide))).st (fun j _ => by rw [er j]; exact ⟨rfl, rfl, rfl⟩) rfl, (h3.fp (hup_ne (by decide))).st (fun j _ => by rw [er j]), (h4.fp (hup_ne (by decide))).st (fun j _ => by rw [er j]; exact ⟨rfl, rfl⟩), (h5.fp (hup_ne (by decide))).st (fun j _ => by rw [er j]; exact ⟨rfl, rfl, rfl, rfl⟩), (h6.fp (hup_ne (by decide))).st (fun j _ => by rw [er j]; exact ⟨rfl, rfl⟩), (h7.fp (fun j _ _ => hup_ne (by omega))).st (sE_gt (S := S) (e := e) (s := snm (S.1 e) 2 n) rfl), (h8.fp (fun j _ _ => hup_ne (by omega))).st (sE_wi (S := S) (e := e) (s := snm (S.1 e) 2 n) rfl), ?_, by rw [hup_ne (by decide), pj_same (S := S) (fun s => nm s 0) (e := e) (s := snm (S.1 e) 2 n) rfl]; exact n0, by rw [hup_ne (by decide), pj_same (S := S) (fun s => nm s 1) (e := e) (s := snm (S.1 e) 2 n) rfl]; exact n1, by rw [hup_eq]; exact congrArg (fun f => some (BA 2 f)) (pj_up (S := S) (fun s => nm s 2) (e := e) (s := snm (S.1 e) 2 n)).symm, by rw [hup_ne (by decide), pj_same (S := S) (fun s => un s) (e := e) (s := snm (S.1 e) 2 n) rfl]; exact n3⟩
  exact rFl.st (S := S) ⟨(hup_ne (by decide)).trans a0, (hup_ne (by decide)).trans a1, (hup_ne (by decide)).trans a2, (hup_ne (by decide)).trans a3, (hup_ne (by decide)).trans a4, (hup_ne (by decide)).trans a5, (hup_ne (by decide)).trans a6, (hup_ne (by decide)).trans a7⟩ (fun j k _ => by rw [sE_fl (S := S) (e := e) (s := snm (S.1 e) 2 n) rfl j])
theorem RM.u {e : Nat} {x : Int32} (h : RM T S G) : RM T (sE S e (sun (S.1 e) x)) (hup G 173 (IA 2 (upd (fun j => un (S.1 j)) e x))) := by
  obtain ⟨h1, h2, h3, h4, h5, h6, h7, h8, ⟨a0, a1, a2, a3, a4, a5, a6, a7⟩, n0, n1, n2, n3⟩ := h
  have er := sE_rw (S := S) (e := e) (s := sun (S.1 e) x) rfl
  refine ⟨h1.fp (fun j hj => hup_ne (by omega)), (h2.fp (hup_ne (by decide))).st (fun j _ => by rw [er j]; exact ⟨rfl, rfl, rfl⟩) rfl, (h3.fp (hup_ne (by decide))).st (fun j _ => by rw [er j]), (h4.fp (hup_ne (by decide))).st (fun j _ => by rw [er j]; exact ⟨rfl, rfl⟩), (h5.fp (hup_ne (by decide))).st (fun j _ => by rw [er j]; exact ⟨rfl, rfl, rfl, rfl⟩), (h6.fp (hup_ne (by decide))).st (fun j _ => by rw [er j]; exact ⟨rfl, rfl⟩), (h7.fp (fun j _ _ => hup_ne (by omega))).st (sE_gt (S := S) (e := e) (s := sun (S.1 e) x) rfl), (h8.fp (fun j _ _ => hup_ne (by omega))).st (sE_wi (S := S) (e := e) (s := sun (S.1 e) x) rfl), ?_, by rw [hup_ne (by decide), pj_same (S := S) (fun s => nm s 0) (e := e) (s := sun (S.1 e) x) rfl]; exact n0, by rw [hup_ne (by decide), pj_same (S := S) (fun s => nm s 1) (e := e) (s := sun (S.1 e) x) rfl]; exact n1, by rw [hup_ne (by decide), pj_same (S := S) (fun s => nm s 2) (e := e) (s := sun (S.1 e) x) rfl]; exact n2, by rw [hup_eq]; exact congrArg (fun f => some (IA 2 f)) (pj_up (S := S) (fun s => un s) (e := e) (s := sun (S.1 e) x)).symm⟩
  exact rFl.st (S := S) ⟨(hup_ne (by decide)).trans a0, (hup_ne (by decide)).trans a1, (hup_ne (by decide)).trans a2, (hup_ne (by decide)).trans a3, (hup_ne (by decide)).trans a4, (hup_ne (by decide)).trans a5, (hup_ne (by decide)).trans a6, (hup_ne (by decide)).trans a7⟩ (fun j k _ => by rw [sE_fl (S := S) (e := e) (s := sun (S.1 e) x) rfl j])
theorem RM.f8 {e : Nat} {b : Bool} (h : RM T S G) : RM T (sE S e (sfl (S.1 e) 8 b)) G := by
  obtain ⟨h1, h2, h3, h4, h5, h6, h7, h8, h9, h10⟩ := h
  have er := sE_rw (S := S) (e := e) (s := sfl (S.1 e) 8 b) rfl
  refine ⟨h1, h2.st (fun j _ => by rw [er j]; exact ⟨rfl, rfl, rfl⟩) rfl, h3.st (fun j _ => by rw [er j]), h4.st (fun j _ => by rw [er j]; exact ⟨rfl, rfl⟩), h5.st (fun j _ => by rw [er j]; exact ⟨rfl, rfl, rfl, rfl⟩), h6.st (fun j _ => by rw [er j]; exact ⟨rfl, rfl⟩), h7.st (sE_gt (S := S) (e := e) (s := sfl (S.1 e) 8 b) rfl), h8.st (sE_wi (S := S) (e := e) (s := sfl (S.1 e) 8 b) rfl), h9.st (fun j k hk => congrFun (pj_same (S := S) (fun s => fl s k) (by show (if k = 8 then b else fl (S.1 e) k) = _; rw [if_neg (by omega)])) j), h10.st (fun j => ⟨sE_nm (S := S) (e := e) (s := sfl (S.1 e) 8 b) rfl j, sE_un (S := S) (e := e) (s := sfl (S.1 e) 8 b) rfl j⟩)⟩
/-- a state that differs from another in rows alone -/
def rwo (S S' : SG) : Prop := (∀ j, fl (S'.1 j) = fl (S.1 j) ∧ nm (S'.1 j) = nm (S.1 j) ∧ un (S'.1 j) = un (S.1 j) ∧ gt (S'.1 j) = gt (S.1 j) ∧ wi (S'.1 j) = wi (S.1 j))
theorem rwo_sE {e k : Nat} {r : Nat → Nat} : rwo S (sE S e (srw (S.1 e) k r)) := fun j => ⟨sE_fl (S := S) (e := e) (s := srw (S.1 e) k r) rfl j, sE_nm (S := S) (e := e) (s := srw (S.1 e) k r) rfl j, sE_un (S := S) (e := e) (s := srw (S.1 e) k r) rfl j, sE_gt (S := S) (e := e) (s := srw (S.1 e) k r) rfl j, sE_wi (S := S) (e := e) (s := srw (S.1 e) k r) rfl j⟩
theorem srw_o {e k i : Nat} {r : Nat → Nat} (h : i ≠ k) (j : Nat) : rw9 ((sE S e (srw (S.1 e) k r)).1 j) i = rw9 (S.1 j) i := congrFun (pj_same (S := S) (fun s => rw9 s i) (by show (if i = k then r else rw9 (S.1 e) i) = _; rw [if_neg h])) j
theorem srw_e {e k : Nat} {r : Nat → Nat} : rw9 ((sE S e (srw (S.1 e) k r)).1 e) k = r := by rw [sE_e]; exact if_pos rfl
theorem srw_n {e k j : Nat} {r : Nat → Nat} (h : j ≠ e) : (sE S e (srw (S.1 e) k r)).1 j = S.1 j := sE_n h
theorem RM.rw {S' : SG} {G' : kG} (h : RM T S G) (hw : rwo S S') (e : ∀ j, 143 ≤ j → j ≤ 181 → ¬ (157 ≤ j ∧ j ≤ 161) → G'.1 j = G.1 j) (h2 : rRow S' G') (h3 : rCk S' G') (h4 : rIn S' G') (h5 : rKy S' G') (h6 : rNk S' G') : RM T S' G' := by
  obtain ⟨h1, _, _, _, _, _, h7, h8, h9, h10⟩ := h
  exact ⟨h1.fp (fun j hj => e j (by omega) (by omega) (by omega)), h2, h3, h4, h5, h6, (h7.fp (fun j _ _ => e j (by omega) (by omega) (by omega))).st (fun j => (hw j).2.2.2.1), (h8.fp (fun j _ _ => e j (by omega) (by omega) (by omega))).st (fun j => (hw j).2.2.2.2), (h9.fp (fun j _ _ => e j (by omega) (by omega) (by omega))).st (fun j k _ => by rw [(hw j).1]), (h10.fp (fun j _ _ => e j (by omega) (by omega) (by omega))).st (fun j => ⟨(hw j).2.1, (hw j).2.2.1⟩)⟩
end MRel
