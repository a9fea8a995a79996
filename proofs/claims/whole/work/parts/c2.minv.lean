/-! what every call keeps: the invariant and the bound -/
section MInv
variable {T : TB} {S : SG} {B : Nat}
def iv (S : SG) (B : Nat) : Prop := ivE S ∧ bnd S B
theorem iv.m (h : iv S B) : iv S (B + 400) := ⟨h.1, h.2.mono (by omega)⟩
theorem iv.m2 {B' : Nat} (h : iv S B) (hb : B ≤ B') : iv S B' := ⟨h.1, h.2.mono hb⟩
theorem iv.t {l : List Nat} (h : iv S B) : iv (sT S l) B := ⟨h.1.f1 (fun _ => rfl), h.2.f1 (fun _ => rfl)⟩
theorem iv.o {l : List Nat} (h : iv S B) : iv (sO S l) B := ⟨h.1.f1 (fun _ => rfl), h.2.f1 (fun _ => rfl)⟩
theorem iv.h {k : Nat} {r : Nat → Nat} (h : iv S B) : iv (sH S k r) B := ⟨h.1.f1 (fun _ => rfl), h.2.f1 (fun _ => rfl)⟩
theorem iv.k (h : iv S B) : iv (tkn S) B := h.t
theorem iv.sr {e k : Nat} {r : Nat → Nat} (h : iv S B) (he : e < 2) : iv (sE S e (srw (S.1 e) k r)) B := ⟨h.1.w (flw.x_sE (fun _ _ => rfl) (fun h => h)), h.2.x_sE (fun i hi => h.2 e he i hi)⟩
theorem iv.sw {e : Nat} {l : List (List Nat)} (h : iv S B) (he : e < 2) : iv (sE S e (swi (S.1 e) l)) B := ⟨h.1.w (flw.x_sE (fun _ _ => rfl) (fun h => h)), h.2.x_sE (fun i hi => h.2 e he i hi)⟩
theorem iv_Ty {w : Int64} {n : Int} (h : iv S B) : iv (aTy S w n).2.2 (B + 400) := by
  unfold aTy
  split
  · exact h.m
  · exact h.t.m
theorem iv_Rw {i : Int} {l : List Nat} (h : iv S B) : iv (sRw S i l) B := by
  unfold sRw
  split
  · exact h.sr (by decide)
  split
  · exact h.sr (by decide)
  split
  · exact h.h
  split
  · exact h.h
  split
  · exact h.sr (by decide)
  · exact h.sr (by decide)
theorem iv_St {i : Int} (h : iv S B) : iv (aSt S i).2.2 (B + 400) := by
  unfold aSt
  generalize tpe S = l
  generalize (if i < 4 then 32 else 8) = m
  split
  · exact h.k.m
  split
  · exact h.k.m
  · exact (iv_Rw h.k).m
theorem iv_Mu (h : iv S B) : iv (aMu S).2.2 (B + 400) := by
  unfold aMu
  generalize mulB _ _ = l
  split
  · exact h.k.m
  · exact h.k.o.m
theorem iv_Ha (h : iv S B) : iv (aHa T S).2.2 (B + 400) := by
  unfold aHa
  generalize hL _ _ = l
  exact h.k.o.m
theorem iv_Sr {n c : Int} (h : iv S B) : iv (aSr T S n c).2.2 (B + 400) := by
  unfold aSr
  generalize STRM _ _ _ _ = l
  split
  · exact h.k.m
  · exact h.k.o.m
theorem iv_Tg (h : iv S B) : iv (aTg S).2.2 (B + 400) := by
  unfold aTg
  generalize TAG _ _ _ = l
  split
  · exact h.k.m
  · exact h.k.o.m
theorem iv_Ou {i : Int} (h : iv S B) : iv (aOu S i).2.2 (B + 400) := by
  unfold aOu
  split
  · exact h.m
  · exact h.m
theorem iv_Bg {e : Int} (h : iv S B) : iv (aBg T S e).2.2 (B + 400) := by
  unfold aBg
  split
  · exact h.m
  split
  · exact h.m
  · next z _ => exact ⟨h.1.x_bgn, (h.2.x_bgn (by omega)).mono (by omega)⟩
theorem iv_nd {e : Nat} {l : List Nat} (h : iv S B) (he : e < 2) : iv (snd T S e l) (B + 400) := by
  have h1 : iv (emt T S e l) (B + 1) := ⟨h.1.x_emt, h.2.x_emt he⟩
  unfold snd
  generalize emt T S e l = S2 at h1
  split
  · exact ⟨h1.1.w flw.sf, bnd.mono (B := B + 1) (h1.2.x_sE (fun i hi => h1.2 e he i hi)) (by omega)⟩
  · exact h1.m2 (by omega)
theorem iv_Sd {e : Int} (h : iv S B) : iv (aSd T S e).2.2 (B + 400) := by
  unfold aSd
  split
  · exact h.k.m
  split
  · exact h.k.m
  split
  · exact h.k.m
  · next z _ _ => exact iv_nd h.k (by omega)
theorem iv_Cm {e : Int} (h : iv S B) : iv (aCm T S e).2.2 (B + 400) := by
  unfold aCm
  split
  · exact h.m
  · next z =>
    have he : e.toNat < 2 := by omega
    exact ⟨h.1.x_dlv he, (h.2.x_dlv he).mono (by omega)⟩
theorem iv_Rn {n : Int} (h : iv S B) : iv (aRn T S n).2.2 (B + 400) := by
  unfold aRn
  split
  · exact h.m
  · next z => exact ⟨ivE.x_rnA _ (by decide) h.1, (bnd.x_rnA _ (by decide) h.2).mono (by omega)⟩
theorem iv_Pk {e k i : Int} (h : iv S B) : iv (aPk S e k i).2.2 (B + 400) := by
  unfold aPk
  split
  · exact h.m
  split
  · exact h.m
  split
  · exact h.m
  · exact h.m
theorem iv_Dm {e k i x : Int} (h : iv S B) : iv (aDm S e k i x).2.2 (B + 400) := by
  unfold aDm
  split
  · exact h.m
  split
  · exact h.m
  split
  · exact h.m
  split
  · exact h.m
  · next z _ _ _ => unfold dmg; exact (h.sw (by omega)).m
theorem iv_Gt {e i : Int} (h : iv S B) : iv (aGt S e i).2.2 (B + 400) := by
  unfold aGt
  split
  · exact h.m
  split
  · exact h.m
  · exact h.m
theorem iv_Ab {e i : Int} (h : iv S B) : iv (aAb S e i).2.2 (B + 400) := by
  unfold aAb
  split
  · exact h.m
  split
  · exact h.m
  · exact h.m
theorem iv_Ss {e i : Int} (h : iv S B) : iv (aSs S e i).2.2 (B + 400) := by
  unfold aSs
  split
  · exact h.m
  split
  · exact h.m
  split
  · exact h.m
  · exact h.m
theorem iv_0 : iv sg1 0 := ⟨⟨fun e he q => by rw [sg1_fl] at q; exact absurd q (by decide), fun _ => by rw [sg1_fl, sg1_fl]; rfl⟩, fun k _ i _ => by rw [sg1_nm]; exact Nat.le_refl _⟩
end MInv
