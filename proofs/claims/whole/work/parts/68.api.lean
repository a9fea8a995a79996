/-! the calls, as pure functions: a code (0: it returned; else which throw), an answer, the state behind it -/
def sT (S : SG) (l : List Nat) : SG := (S.1, S.2.1, S.2.2.1, l)
def sO (S : SG) (l : List Nat) : SG := (S.1, S.2.1, l, S.2.2.2)
def sH (S : SG) (k : Nat) (r : Nat → Nat) : SG := (S.1, up S.2.1 k r, S.2.2)
abbrev tpe (S : SG) : List Nat := S.2.2.2
abbrev lou (S : SG) : List Nat := S.2.2.1
def tyB (w : Int64) (i : Nat) : Nat := (w >>> ((nI (8 * i)).toInt64 &&& 63)).toInt32.toBitVec.toNat % 256
abbrev A3 : Type := Nat × Int32 × SG
def tkn (S : SG) : SG := sT S []
def aTy (S : SG) (w : Int64) (n : Int) : A3 := if n < 1 ∨ 8 < n ∨ 600 < ((tpe S).length : Int) + n then (0, 0, S) else (0, 1, sT S (tpe S ++ lst (tyB w) n.toNat))
def sRw (S : SG) (i : Int) (l : List Nat) : SG := if i = 0 then sE S 0 (srw (S.1 0) 0 (gD l)) else if i = 1 then sE S 1 (srw (S.1 1) 0 (gD l)) else if i = 2 then sH S 0 (gD l) else if i = 3 then sH S 1 (gD l) else if i = 4 then sE S 0 (srw (S.1 0) 1 (gD l)) else sE S 1 (srw (S.1 1) 1 (gD l))
def aSt (S : SG) (i : Int) : A3 := if i < 0 ∨ 5 < i then (1, 0, tkn S) else if (tpe S).length ≠ (if i < 4 then 32 else 8) then (2, 0, tkn S) else (0, 0, sRw (tkn S) i (tpe S))
def aMu (S : SG) : A3 := if (tpe S).length ≠ 64 then (1, 0, tkn S) else (0, 0, sO (tkn S) (lst (mulB (gD (tpe S)) (sft (gD (tpe S)) 32)) 32))
def aHa (T : TB) (S : SG) : A3 := (0, 0, sO (tkn S) (lst (hL T (tpe S)) 32))
def aSr (T : TB) (S : SG) (n c : Int) : A3 := if (tpe S).length ≠ 32 ∨ n < 0 ∨ c < 0 then (1, 0, tkn S) else (0, 0, sO (tkn S) (lst (STRM T.2.2 (gD (tpe S)) n.toNat c.toNat) 64))
def aTg (S : SG) : A3 := if (tpe S).length < 32 then (1, 0, tkn S) else (0, 0, sO (tkn S) (lst (TAG (sft (gD (tpe S)) 32) ((tpe S).length - 32) (gD (tpe S))) 16))
def aOu (S : SG) (i : Int) : A3 := if i < 0 ∨ ((lou S).length : Int) ≤ i then (1, 0, S) else (0, nI (gD (lou S) i.toNat), S)
def aBg (T : TB) (S : SG) (e : Int) : A3 := if ¬ (e = 0 ∨ e = 1) then (1, 0, S) else if fl (S.1 e.toNat) 0 = false ∨ fl (S.1 e.toNat) 2 = true then (2, 0, S) else (0, 0, bgn T S e.toNat)
def mSd (s : ES) (m : Nat) : Bool := fl s 0 && !(decide (m = 20) || decide (m = 21) || decide (m = 30) || decide (m = 31)) && (!(fl s 2 && !fl s 5) || decide (m = 1) || decide (m = 2) || decide (m = 3))
def snd (T : TB) (S : SG) (e : Nat) (l : List Nat) : SG := if gD l 0 = 1 then sE (emt T S e l) e (sfl ((emt T S e l).1 e) 0 false) else emt T S e l
def aSd (T : TB) (S : SG) (e : Int) : A3 := if ¬ (e = 0 ∨ e = 1) then (1, 0, tkn S) else if (tpe S).length < 1 ∨ 200 < (tpe S).length then (2, 0, tkn S) else if mSd (S.1 e.toNat) (gD (tpe S) 0) = false then (3, 0, tkn S) else (0, 0, snd T (tkn S) e.toNat (tpe S))
def aCm (T : TB) (S : SG) (e : Int) : A3 := if ¬ (e = 0 ∨ e = 1) then (1, 0, S) else (0, (dlv T S e.toNat).1, (dlv T S e.toNat).2)
def aRn (T : TB) (S : SG) (n : Int) : A3 := if n < 0 ∨ 50 < n then (1, 0, S) else (0, nI (rnA T (2 * n.toNat) n.toNat 1 0 S).1, (rnA T (2 * n.toNat) n.toNat 1 0 S).2)
def pkA (S : SG) (e k : Nat) : List Nat := (wi (S.1 e)).getD k []
def aPk (S : SG) (e k i : Int) : A3 := if ¬ (e = 0 ∨ e = 1) then (1, 0, S) else if k < 0 ∨ ((wi (S.1 e.toNat)).length : Int) ≤ k then (1, 0, S) else if i < -1 ∨ ((pkA S e.toNat k.toNat).length : Int) ≤ i then (2, 0, S) else (0, if i = -1 then nI (pkA S e.toNat k.toNat).length else nI (gD (pkA S e.toNat k.toNat) i.toNat), S)
def dmg (S : SG) (e k i x : Nat) : SG := sE S e (swi (S.1 e) ((wi (S.1 e)).set k ((pkA S e k).set i (gD (pkA S e k) i ^^^ x))))
def aDm (S : SG) (e k i x : Int) : A3 := if ¬ (e = 0 ∨ e = 1) then (1, 0, S) else if k < 0 ∨ ((wi (S.1 e.toNat)).length : Int) ≤ k then (1, 0, S) else if i < 0 ∨ ((pkA S e.toNat k.toNat).length : Int) ≤ i then (2, 0, S) else if x < 0 ∨ 255 < x then (3, 0, S) else (0, 0, dmg S e.toNat k.toNat i.toNat x.toNat)
def aGt (S : SG) (e i : Int) : A3 := if ¬ (e = 0 ∨ e = 1) then (1, 0, S) else if i < 0 ∨ ((gt (S.1 e.toNat)).length : Int) ≤ i then (2, 0, S) else (0, nI (gD (gt (S.1 e.toNat)) i.toNat), S)
def abV (s : ES) : Nat → Int32
  | 0 => bI (fl s 0)
  | 1 => nI (nm s 0)
  | 2 => nI (nm s 1)
  | 3 => nI (gt s).length
  | 4 => nI (nm s 2)
  | 5 => nI (wi s).length
  | 6 => bI (fl s 2)
  | 7 => bI (fl s 3)
  | _ => un s
def aAb (S : SG) (e w : Int) : A3 := if ¬ (e = 0 ∨ e = 1) then (1, 0, S) else if w < 0 ∨ 8 < w then (2, 0, S) else (0, abV (S.1 e.toNat) w.toNat, S)
def aSs (S : SG) (e i : Int) : A3 := if ¬ (e = 0 ∨ e = 1) then (1, 0, S) else if i < 0 ∨ 31 < i then (2, 0, S) else if fl (S.1 e.toNat) 1 = false then (3, 0, S) else (0, nI (rw9 (S.1 e.toNat) 2 i.toNat), S)
abbrev EIO : String := "java/lang/IndexOutOfBoundsException"
abbrev EIA : String := "java/lang/IllegalArgumentException"
abbrev EIS : String := "java/lang/IllegalStateException"
abbrev ENS : String := "java/util/NoSuchElementException"
/-- what a call without an answer, with one, comes to -/
def oV (ns : List String) (c : Nat) : kO := if c = 0 then .inl none else .inr (ns.getD (c - 1) "")
def oI (ns : List String) (c : Nat) (v : Int32) : kO := if c = 0 then .inl (some (.int v)) else .inr (ns.getD (c - 1) "")
/-- the cells of the reference are left alone -/
def Kp (G G' : kG) : Prop := ∀ j, 140 ≤ j → G'.1 j = G.1 j
section KZ
variable {K : kK} {bc bs : Nat} {M : kM} {pc n t : Nat} {lc : kLo} {st : List Value} {G : kG} {Q : kO → kG → Prop}
theorem V_icmp_eqZ {x y : Int32} {a b : Int} {o : Int} (h : kf M pc = some (.if_icmp .eq o, n, t)) (hx : x.toInt = a) (hy : y.toInt = b) (k : a = b → V K bc bs M t lc st G Q) (k2 : ¬ a = b → V K bc bs M n lc st G Q) : V K bc bs M pc lc (.int y :: .int x :: st) G Q := by
  subst hx hy
  exact V_icmp_eq h (fun q => k (by rw [q])) (fun q => k2 (fun z => q (Int32.toInt_inj.mp z)))
theorem V_icmp_neZ {x y : Int32} {a b : Int} {o : Int} (h : kf M pc = some (.if_icmp .ne o, n, t)) (hx : x.toInt = a) (hy : y.toInt = b) (k : ¬ a = b → V K bc bs M t lc st G Q) (k2 : a = b → V K bc bs M n lc st G Q) : V K bc bs M pc lc (.int y :: .int x :: st) G Q := by
  subst hx hy
  exact V_icmp_ne h (fun q => k (fun z => q (Int32.toInt_inj.mp z))) (fun q => k2 (by rw [q]))
theorem V_icmp_ltZ {x y : Int32} {a b : Int} {o : Int} (h : kf M pc = some (.if_icmp .lt o, n, t)) (hx : x.toInt = a) (hy : y.toInt = b) (k : a < b → V K bc bs M t lc st G Q) (k2 : ¬ a < b → V K bc bs M n lc st G Q) : V K bc bs M pc lc (.int y :: .int x :: st) G Q := by
  subst hx hy
  exact V_icmp_lt h (fun q => k (Int32.lt_iff_toInt_lt.mp q)) (fun q => k2 (fun z => q (Int32.lt_iff_toInt_lt.mpr z)))
theorem V_icmp_geZ {x y : Int32} {a b : Int} {o : Int} (h : kf M pc = some (.if_icmp .ge o, n, t)) (hx : x.toInt = a) (hy : y.toInt = b) (k : b ≤ a → V K bc bs M t lc st G Q) (k2 : ¬ b ≤ a → V K bc bs M n lc st G Q) : V K bc bs M pc lc (.int y :: .int x :: st) G Q := by
  subst hx hy
  exact V_icmp_ge h (fun q => k (Int32.le_iff_toInt_le.mp q)) (fun q => k2 (fun z => q (Int32.le_iff_toInt_le.mpr z)))
theorem V_icmp_gtZ {x y : Int32} {a b : Int} {o : Int} (h : kf M pc = some (.if_icmp .gt o, n, t)) (hx : x.toInt = a) (hy : y.toInt = b) (k : b < a → V K bc bs M t lc st G Q) (k2 : ¬ b < a → V K bc bs M n lc st G Q) : V K bc bs M pc lc (.int y :: .int x :: st) G Q := by
  subst hx hy
  exact V_icmp_gt h (fun q => k (Int32.lt_iff_toInt_lt.mp q)) (fun q => k2 (fun z => q (Int32.lt_iff_toInt_lt.mpr z)))
theorem V_icmp_leZ {x y : Int32} {a b : Int} {o : Int} (h : kf M pc = some (.if_icmp .le o, n, t)) (hx : x.toInt = a) (hy : y.toInt = b) (k : a ≤ b → V K bc bs M t lc st G Q) (k2 : ¬ a ≤ b → V K bc bs M n lc st G Q) : V K bc bs M pc lc (.int y :: .int x :: st) G Q := by
  subst hx hy
  exact V_icmp_le h (fun q => k (Int32.le_iff_toInt_le.mp q)) (fun q => k2 (fun z => q (Int32.le_iff_toInt_le.mpr z)))
theorem V_if_ltZ {x : Int32} {a : Int} {o : Int} (h : kf M pc = some (.ifCond .lt o, n, t)) (hx : x.toInt = a) (k : a < 0 → V K bc bs M t lc st G Q) (k2 : ¬ a < 0 → V K bc bs M n lc st G Q) : V K bc bs M pc lc (.int x :: st) G Q := by
  subst hx
  exact V_if_lt h (fun q => k (Int32.lt_iff_toInt_lt.mp q)) (fun q => k2 (fun z => q (Int32.lt_iff_toInt_lt.mpr z)))
theorem V_if_geZ {x : Int32} {a : Int} {o : Int} (h : kf M pc = some (.ifCond .ge o, n, t)) (hx : x.toInt = a) (k : 0 ≤ a → V K bc bs M t lc st G Q) (k2 : ¬ 0 ≤ a → V K bc bs M n lc st G Q) : V K bc bs M pc lc (.int x :: st) G Q := by
  subst hx
  exact V_if_ge h (fun q => k (Int32.le_iff_toInt_le.mp q)) (fun q => k2 (fun z => q (Int32.le_iff_toInt_le.mpr z)))
theorem V_if_gtZ {x : Int32} {a : Int} {o : Int} (h : kf M pc = some (.ifCond .gt o, n, t)) (hx : x.toInt = a) (k : 0 < a → V K bc bs M t lc st G Q) (k2 : ¬ 0 < a → V K bc bs M n lc st G Q) : V K bc bs M pc lc (.int x :: st) G Q := by
  subst hx
  exact V_if_gt h (fun q => k (Int32.lt_iff_toInt_lt.mp q)) (fun q => k2 (fun z => q (Int32.lt_iff_toInt_lt.mpr z)))
theorem V_if_leZ {x : Int32} {a : Int} {o : Int} (h : kf M pc = some (.ifCond .le o, n, t)) (hx : x.toInt = a) (k : a ≤ 0 → V K bc bs M t lc st G Q) (k2 : ¬ a ≤ 0 → V K bc bs M n lc st G Q) : V K bc bs M pc lc (.int x :: st) G Q := by
  subst hx
  exact V_if_le h (fun q => k (Int32.le_iff_toInt_le.mp q)) (fun q => k2 (fun z => q (Int32.le_iff_toInt_le.mpr z)))
theorem V_if_eqZ {x : Int32} {a : Int} {o : Int} (h : kf M pc = some (.ifCond .eq o, n, t)) (hx : x.toInt = a) (k : a = 0 → V K bc bs M t lc st G Q) (k2 : ¬ a = 0 → V K bc bs M n lc st G Q) : V K bc bs M pc lc (.int x :: st) G Q := by
  subst hx
  exact V_if_eq h (fun q => k (by rw [q]; rfl)) (fun q => k2 (fun z => q (Int32.toInt_inj.mp z)))
theorem V_if_neZ {x : Int32} {a : Int} {o : Int} (h : kf M pc = some (.ifCond .ne o, n, t)) (hx : x.toInt = a) (k : ¬ a = 0 → V K bc bs M t lc st G Q) (k2 : a = 0 → V K bc bs M n lc st G Q) : V K bc bs M pc lc (.int x :: st) G Q := by
  subst hx
  exact V_if_ne h (fun q => k (fun z => q (Int32.toInt_inj.mp z))) (fun q => k2 (by rw [q]; rfl))
theorem i32_n {x : Int32} (h : 0 ≤ x.toInt) : x = nI x.toInt.toNat ∧ x.toInt.toNat < 2 ^ 31 := by
  have h2 := Int32.toInt_lt x
  have h3 : x.toInt.toNat < 2 ^ 31 := by omega
  refine ⟨Int32.toInt_inj.mp ?_, h3⟩
  rw [nI_toInt h3]
  omega
theorem i64_n {x : Int64} (h : 0 ≤ x.toInt) : x = lN x.toInt.toNat ∧ x.toInt.toNat < 2 ^ 63 := by
  have h2 := Int64.toInt_lt x
  have h3 : x.toInt.toNat < 2 ^ 63 := by omega
  refine ⟨Int64.toInt_inj.mp ?_, h3⟩
  rw [pf_lI h3]
  omega
theorem Kp.rf : Kp G G := fun _ _ => rfl
theorem Kp.nn {G' : kG} (h : Kp G G') : Kp G (G'.1, none) := h
theorem Kp.tr {G' G'' : kG} (h : Kp G G') (h' : Kp G' G'') : Kp G G'' := fun j hj => (h' j hj).trans (h j hj)
theorem FP.kp {P : Nat → Prop} {G' : kG} (h : FP P G G') (hP : ∀ x, P x → x < 140) : Kp G G' := fun j hj => h.2 j (fun q => by have := hP j q; omega)
theorem RC.nn {S : SG} (h : RC S G) : RC S (G.1, none) := h
end KZ
