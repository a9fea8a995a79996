/-! the wire, as pure functions: packets -/
theorem bitf_congr {f g : Nat → Nat} {t : Nat} (h : f (t / 8) = g (t / 8)) : bitf f t = bitf g t := by unfold bitf; rw [h]
theorem lad_congr {u : Nat} {f g : Nat → Nat} (h : ∀ j, j < 32 → f j = g j) : ∀ n, n ≤ 255 → lad u f n = lad u g n
  | 0, _ => rfl
  | n + 1, hn => by
    rw [lad_s, lad_s, lad_congr h n (by omega), bitf_congr (f := f) (g := g) (h _ (by omega))]
theorem MULT_congr {k k' u u' : Nat → Nat} (hk : ∀ j, j < 32 → k j = k' j) (hu : ∀ j, j < 32 → u j = u' j) : MULT k u = MULT k' u' := by
  have e1 : uval u = uval u' := by unfold uval; rw [vs_congr hu]
  have e2 : ∀ j, j < 32 → facf k j = facf k' j := fun j hj => by
    unfold facf
    rw [hk 0 (by decide), hk 31 (by decide), hk j hj]
  unfold MULT
  rw [e1, lad_congr e2 255 (Nat.le_refl _)]
def mulB (k u : Nat → Nat) : Nat → Nat := fun j => MULT k u / 256 ^ j % 256
theorem mulB_lt (k u : Nat → Nat) (j : Nat) : mulB k u j < 256 := Nat.mod_lt _ (by decide)
theorem mulB_congr {k k' u u' : Nat → Nat} (hk : ∀ j, j < 32 → k j = k' j) (hu : ∀ j, j < 32 → u j = u' j) : mulB k u = mulB k' u' := by unfold mulB; rw [MULT_congr hk hu]
def nine : Nat → Nat := fun j => if j = 0 then 9 else 0
abbrev TB : Type := (Nat → Int32) × (Nat → Int32) × (Nat → Nat)
def hL (T : TB) (l : List Nat) : Nat → Nat := HSH T.1 T.2.1 l
def gD (l : List Nat) (j : Nat) : Nat := l.getD j 0
def be4 (m : Nat) : List Nat := [m / 2 ^ 24 % 2 ^ 8, m / 2 ^ 16 % 2 ^ 8, m / 2 ^ 8 % 2 ^ 8, m % 2 ^ 8]
def be4v (f : Nat → Nat) (a : Nat) : Nat := f a * 2 ^ 24 + f (a + 1) * 2 ^ 16 + f (a + 2) * 2 ^ 8 + f (a + 3)
def zb (n : Nat) (made : Bool) : Nat := 4 + (8 - (1 + n + 4 + (if made then 0 else 4)) % 8) % 8
def pln (p : List Nat) (made : Bool) : List Nat := be4 (1 + p.length + zb p.length made) ++ [zb p.length made] ++ p ++ List.replicate (zb p.length made) 0
def ksm (T : TB) (h b : Nat → Nat) (n i : Nat) : Nat := if i < 4 then STRM T.2.2 h n 0 i else STRM T.2.2 b n (1 + (i - 4) / 64) ((i - 4) % 64)
def hid (T : TB) (h b : Nat → Nat) (n : Nat) (l : List Nat) : List Nat := lst (fun i => gD l i ^^^ ksm T h b n i) l.length
def tgL (T : TB) (b : Nat → Nat) (n : Nat) (l : List Nat) : List Nat := lst (TAG (gD l) l.length (STRM T.2.2 b n 0)) 16
def pkt (T : TB) (made : Bool) (h b : Nat → Nat) (n : Nat) (p : List Nat) : List Nat := if made then hid T h b n (pln p true) ++ tgL T b n (hid T h b n (pln p true)) else pln p false
def rdP (made : Bool) (c : List Nat) : Option (List Nat) :=
  if c.length < 6 then none else
  if be4v (gD c) 0 ≠ c.length - 4 then none else
  if c.length < 6 + gD c 4 then none else
  if 200 < c.length - 5 - gD c 4 then none else
  if gD c 4 ≠ zb (c.length - 5 - gD c 4) made then none else
  if (∀ j, j < gD c 4 → gD c (c.length - gD c 4 + j) = 0) then some ((c.drop 5).take (c.length - 5 - gD c 4)) else none
def opn (T : TB) (made : Bool) (h b : Nat → Nat) (n : Nat) (l : List Nat) : Option (List Nat) :=
  if made then
    if l.length < 22 then none else
    if l.drop (l.length - 16) = tgL T b n (l.take (l.length - 16)) then rdP true (hid T h b n (l.take (l.length - 16))) else none
  else rdP false l
/-! an end: flags (0 lives, 1 has a session, 2 sent INIT, 3 got INIT, 4 asked, 5 sent NEW, 6 seals, 7 opens, 8 the reply came), numbers (0 sent, 1 came, 2 over), the last UNKNOWN, rows (0 secret, 1 cookie, 2 session, 3 the secret taken, 4 own INIT, 5 the other's INIT, 6 and 7 keys of sending, 8 and 9 of coming, 10 and 11 the next of coming), what it got, the packets to it -/
abbrev ES : Type := (Nat → Bool) × (Nat → Nat) × Int32 × (Nat → Nat → Nat) × List Nat × List (List Nat)
abbrev fl (s : ES) : Nat → Bool := s.1
abbrev nm (s : ES) : Nat → Nat := s.2.1
abbrev un (s : ES) : Int32 := s.2.2.1
abbrev rw9 (s : ES) : Nat → Nat → Nat := s.2.2.2.1
abbrev gt (s : ES) : List Nat := s.2.2.2.2.1
abbrev wi (s : ES) : List (List Nat) := s.2.2.2.2.2
def up {α : Type} (f : Nat → α) (k : Nat) (x : α) : Nat → α := fun j => if j = k then x else f j
theorem up_eq {α : Type} {f : Nat → α} {k : Nat} {x : α} : up f k x k = x := if_pos rfl
theorem up_ne {α : Type} {f : Nat → α} {k j : Nat} {x : α} (h : j ≠ k) : up f k x j = f j := if_neg h
def sfl (s : ES) (k : Nat) (b : Bool) : ES := (up s.1 k b, s.2)
def snm (s : ES) (k n : Nat) : ES := (s.1, up s.2.1 k n, s.2.2)
def sun (s : ES) (x : Int32) : ES := (s.1, s.2.1, x, s.2.2.2)
def srw (s : ES) (k : Nat) (r : Nat → Nat) : ES := (s.1, s.2.1, s.2.2.1, up s.2.2.2.1 k r, s.2.2.2.2)
def sgt (s : ES) (l : List Nat) : ES := (s.1, s.2.1, s.2.2.1, s.2.2.2.1, l, s.2.2.2.2.2)
def swi (s : ES) (l : List (List Nat)) : ES := (s.1, s.2.1, s.2.2.1, s.2.2.2.1, s.2.2.2.2.1, l)
/-! the whole: both ends, rows (0 the host's secret, 1 the trusted row), the last result, the tape -/
abbrev SG : Type := (Nat → ES) × (Nat → Nat → Nat) × List Nat × List Nat
def sE (S : SG) (e : Nat) (s : ES) : SG := (up S.1 e s, S.2)
def emt (T : TB) (S : SG) (e : Nat) (p : List Nat) : SG :=
  if fl (S.1 e) 0 = false then S else
  if (wi (S.1 (1 - e))).length = 12 then sE S e (sfl (S.1 e) 0 false) else
  sE (sE S (1 - e) (swi (S.1 (1 - e)) (wi (S.1 (1 - e)) ++ [pkt T (fl (S.1 e) 6) (rw9 (S.1 e) 6) (rw9 (S.1 e) 7) (nm (S.1 e) 0) p]))) e (snm (S.1 e) 0 (nm (S.1 e) 0 + 1))
def gvu (T : TB) (S : SG) (e : Nat) : SG := sE (emt T S e [1]) e (sfl ((emt T S e [1]).1 e) 0 false)
def oinit (s : ES) : Nat → Nat := fun j => if j = 0 then 20 else rw9 s 1 (j - 1)
/-- INIT is written -/
def wIn (S : SG) (e : Nat) : SG := sE S e (sfl (srw (S.1 e) 4 (oinit (S.1 e))) 2 true)
def bgn (T : TB) (S : SG) (e : Nat) : SG := emt T (wIn S e) e (lst (oinit (S.1 e)) 9)
def tks (S : SG) (e : Nat) : SG := sE S e (srw (S.1 e) 3 (rw9 (S.1 e) 0))
def pub (s : ES) : Nat → Nat := mulB (rw9 s 3) nine
def onI (T : TB) (S : SG) (e : Nat) (c : List Nat) : SG :=
  let S1 := sE S e (sfl (srw (S.1 e) 5 (gD c)) 3 true)
  let S2 := if fl (S1.1 e) 2 then S1 else bgn T S1 e
  if e = 0 then
    let S3 := tks S2 0
    emt T (sE S3 0 (sfl (S3.1 0) 4 true)) 0 (30 :: lst (pub (S3.1 0)) 32)
  else S2
def fin (s : ES) : ES := snm (sfl (sfl (sfl (sfl (sfl (sfl (srw (srw s 8 (rw9 s 10)) 9 (rw9 s 11)) 7 true) 2 false) 3 false) 4 false) 8 false) 5 false) 2 (nm s 2 + 1)
def kyH (T : TB) (sh H ss : Nat → Nat) (mark : Nat) : Nat → Nat := hL T (lst sh 32 ++ lst H 32 ++ [mark] ++ lst ss 32)
def tnk (T : TB) (s : ES) (sh H : Nat → Nat) (sm cm : Nat) : ES :=
  let s1 := if fl s 1 then s else sfl (srw s 2 H) 1 true
  let ss := rw9 s1 2
  sfl (sfl (srw (srw (srw (srw s1 6 (kyH T sh H ss sm)) 7 (kyH T sh H ss (sm + 1))) 10 (kyH T sh H ss cm)) 11 (kyH T sh H ss (cm + 1))) 5 true) 6 true
def agr (T : TB) (ci si host cp sp sh : Nat → Nat) : Nat → Nat := hL T (lst ci 9 ++ lst si 9 ++ lst host 32 ++ lst cp 32 ++ lst sp 32 ++ lst sh 32)
def prf (T : TB) (p H : Nat → Nat) : Nat → Nat := hL T (lst p 32 ++ lst H 32)
def sft (f : Nat → Nat) (s : Nat) : Nat → Nat := fun j => f (s + j)
def onR (T : TB) (S : SG) (c : List Nat) : SG :=
  let S1 := tks (sE S 1 (sfl (S.1 1) 4 true)) 1
  let s := S1.1 1
  let host := mulB (S.2.1 0) nine
  let sh := mulB (rw9 s 3) (sft (gD c) 1)
  let H := agr T (rw9 s 5) (rw9 s 4) host (sft (gD c) 1) (pub s) sh
  let pr := prf T (mulB (S.2.1 0) (sft (gD c) 1)) H
  let S2 := emt T (emt T S1 1 (31 :: (lst host 32 ++ lst (pub s) 32 ++ lst pr 32))) 1 [21]
  sE S2 1 (tnk T (S2.1 1) sh H 67 65)
def aRp (T : TB) (S0 : SG) (c : List Nat) : SG :=
  let S := sE S0 0 (sfl (S0.1 0) 8 true)
  let s := S.1 0
  let sh := mulB (rw9 s 3) (sft (gD c) 33)
  let H := agr T (rw9 s 4) (rw9 s 5) (sft (gD c) 1) (pub s) (sft (gD c) 33) sh
  let pr := prf T (mulB (rw9 s 3) (sft (gD c) 1)) H
  if lst (sft (gD c) 1) 32 = lst (S.2.1 1) 32 ∧ lst (sft (gD c) 65) 32 = lst pr 32 then
    let S2 := emt T S 0 [21]
    sE S2 0 (tnk T (S2.1 0) sh H 65 67)
  else gvu T S 0
def inP (S : SG) (e : Nat) (c : List Nat) : Bool :=
  if gD c 0 = 20 then decide (c.length = 9) && !fl (S.1 e) 3
  else if gD c 0 = 21 then decide (c.length = 1) && fl (S.1 e) 5
  else if gD c 0 = 30 then decide (c.length = 33) && decide (e = 1) && fl (S.1 e) 2 && fl (S.1 e) 3 && !fl (S.1 e) 4
  else if gD c 0 = 31 then decide (c.length = 97) && decide (e = 0) && fl (S.1 e) 4 && !fl (S.1 e) 8
  else if gD c 0 = 94 then !fl (S.1 e) 3 && decide ((gt (S.1 e)).length + c.length - 1 ≤ 2000)
  else true
def act (T : TB) (S : SG) (e : Nat) (c : List Nat) (q : Nat) : SG :=
  if gD c 0 = 1 then sE S e (sfl (S.1 e) 0 false)
  else if gD c 0 = 2 then S
  else if gD c 0 = 3 then sE S e (sun (S.1 e) (if c.length = 5 then nI (be4v (gD c) 1) else -1))
  else if gD c 0 = 20 then onI T S e c
  else if gD c 0 = 21 then sE S e (fin (S.1 e))
  else if gD c 0 = 30 then onR T S c
  else if gD c 0 = 31 then aRp T S c
  else if gD c 0 = 94 then sE S e (sgt (S.1 e) (gt (S.1 e) ++ c.drop 1))
  else emt T S e (3 :: be4 q)
def dl2 (T : TB) (S : SG) (e q : Nat) : Option (List Nat) → Int32 × SG
  | none => (-2, gvu T S e)
  | some p => if inP S e p then (nI (gD p 0), act T S e p q) else (-3, gvu T S e)
def dlv (T : TB) (S : SG) (e : Nat) : Int32 × SG :=
  if (wi (S.1 e)).length = 0 then (-1, S) else
  if fl (S.1 e) 0 = false then (-4, sE S e (swi (S.1 e) ((wi (S.1 e)).drop 1))) else
  dl2 T (sE S e (snm (swi (S.1 e) ((wi (S.1 e)).drop 1)) 1 (nm (S.1 e) 1 + 1))) e (nm (S.1 e) 1) (opn T (fl (S.1 e) 7) (rw9 (S.1 e) 8) (rw9 (S.1 e) 9) (nm (S.1 e) 1) ((wi (S.1 e)).getD 0 []))
def rnA (T : TB) : Nat → Nat → Nat → Nat → SG → Nat × SG
  | 0, _, _, m, S => (m, S)
  | k + 1, n, e, m, S => if m < n then (if (wi (S.1 e)).length = 0 then rnA T k n (1 - e) m S else rnA T k n (1 - e) (m + 1) (dlv T S e).2) else (m, S)
