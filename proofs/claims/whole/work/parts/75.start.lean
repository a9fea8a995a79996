section CStart
variable {K : kK} {G : kG} {Q : kO → kG → Prop}
theorem HL.g {b : Nat} {L : List kE} (h : HL G b L) (i : Nat) {e : kE} (he : L[i]? = some e) : G.1 (b + i) = some e := by
  have hi : i < L.length := by
    rcases Nat.lt_or_ge i L.length with z | z
    · exact z
    · rw [List.getElem?_eq_none z] at he
      cases he
  exact (h i hi).trans he
def es0 : ES := (fun k => Nat.beq k 0, fun _ => 0, -1, fun _ _ => 0, [], [])
def sg0 : SG := (fun _ => es0, fun _ _ => 0, [], [])
theorem Rb0 {c N : Nat} (h : G.1 c = some (BA N z0)) : Rb G c N (fun _ => 0) := ⟨z0, h, fun _ _ => rfl, fun _ _ => Nat.zero_lt_succ _⟩
theorem Rw0 {r d N : Nat} (h : G.1 r = some (ROB d 0)) (h2 : G.1 d = some (BA N z0)) : Rw G r d N [] := ⟨h, Nat.zero_le _, z0, h2, rfl, fun j hj => absurd hj (Nat.not_lt_zero j)⟩
theorem HL.spl {b : Nat} {o : kE} {L L' : List kE} (h : HL G b (o :: (L ++ L'))) : HL G b (o :: L) ∧ HL G (b + 1 + L.length) L' := by
  have h2 : HL G b ((o :: L) ++ L') := h
  refine ⟨h2.left, ?_⟩
  have := h2.right
  rw [List.length_cons, show b + (L.length + 1) = b + 1 + L.length by omega] at this
  exact this
theorem HL.hd {b : Nat} {o : kE} {L : List kE} (h : HL G b (o :: L)) : G.1 b = some o := h 0 (Nat.zero_lt_succ _)
theorem L6_g {b N : Nat} (h : HL G b (L6 N b)) : G.1 b = some (ROB (b + 1) 0) ∧ G.1 (b + 1) = some (BA N z0) := ⟨h.g 0 rfl, h.g 1 rfl⟩
theorem WR0 {E : Nat} (h : HL G (E + 6) (L10 (E + 6))) : WR E G [] := by
  unfold L10 at h
  have h0 := h.hd
  have h : HL G (E + 7) (AR 12 (wfn (E + 6) 12) :: _) := fun i hi => by have := h (i + 1) (Nat.succ_lt_succ hi); rw [show E + 6 + (i + 1) = E + 7 + i by omega] at this; exact this
  have h1 := h.hd
  obtain ⟨h, p11⟩ := h.spl
  replace p11 : HL G (E + 30) (L6 228 (E + 30)) := p11
  obtain ⟨h, p10⟩ := h.spl
  replace p10 : HL G (E + 28) (L6 228 (E + 28)) := p10
  obtain ⟨h, p9⟩ := h.spl
  replace p9 : HL G (E + 26) (L6 228 (E + 26)) := p9
  obtain ⟨h, p8⟩ := h.spl
  replace p8 : HL G (E + 24) (L6 228 (E + 24)) := p8
  obtain ⟨h, p7⟩ := h.spl
  replace p7 : HL G (E + 22) (L6 228 (E + 22)) := p7
  obtain ⟨h, p6⟩ := h.spl
  replace p6 : HL G (E + 20) (L6 228 (E + 20)) := p6
  obtain ⟨h, p5⟩ := h.spl
  replace p5 : HL G (E + 18) (L6 228 (E + 18)) := p5
  obtain ⟨h, p4⟩ := h.spl
  replace p4 : HL G (E + 16) (L6 228 (E + 16)) := p4
  obtain ⟨h, p3⟩ := h.spl
  replace p3 : HL G (E + 14) (L6 228 (E + 14)) := p3
  obtain ⟨h, p2⟩ := h.spl
  replace p2 : HL G (E + 12) (L6 228 (E + 12)) := p2
  obtain ⟨h, p1⟩ := h.spl
  replace p1 : HL G (E + 10) (L6 228 (E + 10)) := p1
  obtain ⟨h, p0⟩ := h.spl
  replace p0 : HL G (E + 8) (L6 228 (E + 8)) := p0
  refine ⟨0, wfn (E + 6) 12, by decide, Nat.zero_le _, h0, h1, fun j hj => ?_, fun j hj => ?_, fun i hi => absurd hi (Nat.not_lt_zero i)⟩
  · rw [wfn_get hj]
  · have : j = 0 ∨ j = 1 ∨ j = 2 ∨ j = 3 ∨ j = 4 ∨ j = 5 ∨ j = 6 ∨ j = 7 ∨ j = 8 ∨ j = 9 ∨ j = 10 ∨ j = 11 := by omega
    rcases this with rfl | rfl | rfl | rfl | rfl | rfl | rfl | rfl | rfl | rfl | rfl | rfl
    · exact ⟨0, z0, (L6_g p0).1, (L6_g p0).2⟩
    · exact ⟨0, z0, (L6_g p1).1, (L6_g p1).2⟩
    · exact ⟨0, z0, (L6_g p2).1, (L6_g p2).2⟩
    · exact ⟨0, z0, (L6_g p3).1, (L6_g p3).2⟩
    · exact ⟨0, z0, (L6_g p4).1, (L6_g p4).2⟩
    · exact ⟨0, z0, (L6_g p5).1, (L6_g p5).2⟩
    · exact ⟨0, z0, (L6_g p6).1, (L6_g p6).2⟩
    · exact ⟨0, z0, (L6_g p7).1, (L6_g p7).2⟩
    · exact ⟨0, z0, (L6_g p8).1, (L6_g p8).2⟩
    · exact ⟨0, z0, (L6_g p9).1, (L6_g p9).2⟩
    · exact ⟨0, z0, (L6_g p10).1, (L6_g p10).2⟩
    · exact ⟨0, z0, (L6_g p11).1, (L6_g p11).2⟩
theorem RE0 {E : Nat} (h : HL G E (L1 E)) : RE E es0 G := by
  unfold L1 at h
  obtain ⟨h, p38⟩ := h.spl
  replace p38 : HL G (E + 38) (L2 (E + 38)) := p38
  obtain ⟨h, p35⟩ := h.spl
  replace p35 : HL G (E + 35) (L4 (E + 35)) := p35
  obtain ⟨h, p32⟩ := h.spl
  replace p32 : HL G (E + 32) (L4 (E + 32)) := p32
  obtain ⟨h, p6⟩ := h.spl
  replace p6 : HL G (E + 6) (L10 (E + 6)) := p6
  obtain ⟨h, p4⟩ := h.spl
  replace p4 : HL G (E + 4) (L6 2000 (E + 4)) := p4
  obtain ⟨h, p3⟩ := h.spl
  replace p3 : HL G (E + 3) ([BA 32 z0]) := p3
  obtain ⟨h, p2⟩ := h.spl
  replace p2 : HL G (E + 2) ([BA 8 z0]) := p2
  obtain ⟨h, p1⟩ := h.spl
  replace p1 : HL G (E + 1) ([BA 32 z0]) := p1
  unfold L2 at p38
  obtain ⟨p38, p43⟩ := p38.spl
  replace p43 : HL G (E + 43) (L4 (E + 43)) := p43
  obtain ⟨p38, p42⟩ := p38.spl
  replace p42 : HL G (E + 42) ([BA 32 z0]) := p42
  obtain ⟨p38, p41⟩ := p38.spl
  replace p41 : HL G (E + 41) ([BA 32 z0]) := p41
  obtain ⟨p38, p40⟩ := p38.spl
  replace p40 : HL G (E + 40) ([BA 9 z0]) := p40
  obtain ⟨p38, p39⟩ := p38.spl
  replace p39 : HL G (E + 39) ([BA 9 z0]) := p39
  have q32 : G.1 (E + 32) = some (KYO (E + 33) (E + 34) false) ∧ G.1 (E + 33) = some (BA 32 z0) ∧ G.1 (E + 34) = some (BA 32 z0) := ⟨p32.g 0 rfl, p32.g 1 rfl, p32.g 2 rfl⟩
  have q35 : G.1 (E + 35) = some (KYO (E + 36) (E + 37) false) ∧ G.1 (E + 36) = some (BA 32 z0) ∧ G.1 (E + 37) = some (BA 32 z0) := ⟨p35.g 0 rfl, p35.g 1 rfl, p35.g 2 rfl⟩
  have q43 : G.1 (E + 43) = some (KYO (E + 44) (E + 45) false) ∧ G.1 (E + 44) = some (BA 32 z0) ∧ G.1 (E + 45) = some (BA 32 z0) := ⟨p43.g 0 rfl, p43.g 1 rfl, p43.g 2 rfl⟩
  have q4 := L6_g p4
  exact ⟨h.hd, Rb0 p1.hd, Rb0 p2.hd, Rb0 p3.hd, Rw0 q4.1 q4.2, WR0 p6, ⟨⟨q32.1, Rb0 q32.2.1, Rb0 q32.2.2⟩, q35.1, Rb0 q35.2.1, Rb0 q35.2.2⟩, p38.hd, Rb0 p39.hd, Rb0 p40.hd, Rb0 p41.hd, ⟨_, Rb0 p42.hd, fun q => Bool.noConfusion q⟩, ⟨false, q43.1, fun q => Bool.noConfusion q⟩, Rb0 q43.2.1, Rb0 q43.2.2⟩
theorem L6_len {N b : Nat} : (L6 N b).length = 2 := rfl
theorem L0_len {b : Nat} : (L0 b).length = 13 := rfl
theorem L3_len {b : Nat} : (L3 b).length = 5 := rfl
theorem L7_len {b : Nat} : (L7 b).length = 13 := rfl
theorem L4_len {b : Nat} : (L4 b).length = 3 := rfl
theorem L2_len {b : Nat} : (L2 b).length = 8 := rfl
theorem L10_len {b : Nat} : (L10 b).length = 26 := rfl
theorem L1_len {b : Nat} : (L1 b).length = 46 := by
  unfold L1
  simp only [List.length_append, List.length_cons, List.length_nil, L6_len, L10_len, L4_len, L2_len]
theorem HL.spk {b : Nat} {o : kE} {L L' : List kE} (h : HL G b (o :: (L ++ L'))) (k : Nat) (hk : b + 1 + L.length = k) : HL G b (o :: L) ∧ HL G k L' := by
  subst hk
  exact h.spl
theorem RC0 (h : HL G 0 (L11 0)) : RC sg0 G := by
  unfold L11 at h
  obtain ⟨h, p138⟩ := h.spk 138 (by simp only [List.length_append, List.length_cons, List.length_nil, L6_len, L0_len, L3_len, L7_len, L1_len])
  replace p138 : HL G (138) (L6 600 138) := p138
  obtain ⟨h, p136⟩ := h.spk 136 (by simp only [List.length_append, List.length_cons, List.length_nil, L6_len, L0_len, L3_len, L7_len, L1_len])
  replace p136 : HL G (136) (L6 600 136) := p136
  obtain ⟨h, p134⟩ := h.spk 134 (by simp only [List.length_append, List.length_cons, List.length_nil, L6_len, L0_len, L3_len, L7_len, L1_len])
  replace p134 : HL G (134) (L6 200 134) := p134
  obtain ⟨h, p132⟩ := h.spk 132 (by simp only [List.length_append, List.length_cons, List.length_nil, L6_len, L0_len, L3_len, L7_len, L1_len])
  replace p132 : HL G (132) (L6 200 132) := p132
  obtain ⟨h, p130⟩ := h.spk 130 (by simp only [List.length_append, List.length_cons, List.length_nil, L6_len, L0_len, L3_len, L7_len, L1_len])
  replace p130 : HL G (130) (L6 64 130) := p130
  obtain ⟨h, p129⟩ := h.spk 129 (by simp only [List.length_append, List.length_cons, List.length_nil, L6_len, L0_len, L3_len, L7_len, L1_len])
  replace p129 : HL G (129) ([BA 32 z0]) := p129
  obtain ⟨h, p128⟩ := h.spk 128 (by simp only [List.length_append, List.length_cons, List.length_nil, L6_len, L0_len, L3_len, L7_len, L1_len])
  replace p128 : HL G (128) ([BA 32 z0]) := p128
  obtain ⟨h, p127⟩ := h.spk 127 (by simp only [List.length_append, List.length_cons, List.length_nil, L6_len, L0_len, L3_len, L7_len, L1_len])
  replace p127 : HL G (127) ([BA 32 z0]) := p127
  obtain ⟨h, p126⟩ := h.spk 126 (by simp only [List.length_append, List.length_cons, List.length_nil, L6_len, L0_len, L3_len, L7_len, L1_len])
  replace p126 : HL G (126) ([BA 32 z0]) := p126
  obtain ⟨h, p125⟩ := h.spk 125 (by simp only [List.length_append, List.length_cons, List.length_nil, L6_len, L0_len, L3_len, L7_len, L1_len])
  replace p125 : HL G (125) ([BA 32 z0]) := p125
  obtain ⟨h, p124⟩ := h.spk 124 (by simp only [List.length_append, List.length_cons, List.length_nil, L6_len, L0_len, L3_len, L7_len, L1_len])
  replace p124 : HL G (124) ([BA 32 z0]) := p124
  obtain ⟨h, p78⟩ := h.spk 78 (by simp only [List.length_append, List.length_cons, List.length_nil, L6_len, L0_len, L3_len, L7_len, L1_len])
  replace p78 : HL G (78) (L1 78) := p78
  obtain ⟨h, p32⟩ := h.spk 32 (by simp only [List.length_append, List.length_cons, List.length_nil, L6_len, L0_len, L3_len, L7_len, L1_len])
  replace p32 : HL G (32) (L1 32) := p32
  obtain ⟨h, p19⟩ := h.spk 19 (by simp only [List.length_append, List.length_cons, List.length_nil, L6_len, L0_len, L3_len, L7_len, L1_len])
  replace p19 : HL G (19) (L7 19) := p19
  obtain ⟨h, p14⟩ := h.spk 14 (by simp only [List.length_append, List.length_cons, List.length_nil, L6_len, L0_len, L3_len, L7_len, L1_len])
  replace p14 : HL G (14) (L3 14) := p14
  obtain ⟨h, p1⟩ := h.spk 1 (by simp only [List.length_append, List.length_cons, List.length_nil, L6_len, L0_len, L3_len, L7_len, L1_len])
  replace p1 : HL G (1) (L0 1) := p1
  unfold L7 at p19
  obtain ⟨p19, p30⟩ := p19.spl
  replace p30 : HL G (30) (L6 228 30) := p30
  obtain ⟨p19, p24⟩ := p19.spl
  replace p24 : HL G (24) (L9 24) := p24
  obtain ⟨p19, p20⟩ := p19.spl
  replace p20 : HL G (20) (L8 20) := p20
  unfold L3 at p14
  obtain ⟨p14, p17⟩ := p14.spl
  replace p17 : HL G (17) (L6 640 17) := p17
  obtain ⟨p14, p16⟩ := p14.spl
  replace p16 : HL G (16) ([BA 64 z0]) := p16
  obtain ⟨p14, p15⟩ := p14.spl
  replace p15 : HL G (15) ([BA 8 z0]) := p15
  unfold L0 at p1
  obtain ⟨p1, c13⟩ := p1.spl
  replace c13 : HL G (13) ([LA 20 z0]) := c13
  obtain ⟨p1, c12⟩ := p1.spl
  replace c12 : HL G (12) ([LA 10 z0]) := c12
  obtain ⟨p1, c11⟩ := p1.spl
  replace c11 : HL G (11) ([LA 10 z0]) := c11
  obtain ⟨p1, c10⟩ := p1.spl
  replace c10 : HL G (10) ([LA 10 z0]) := c10
  obtain ⟨p1, c9⟩ := p1.spl
  replace c9 : HL G (9) ([LA 10 z0]) := c9
  obtain ⟨p1, c8⟩ := p1.spl
  replace c8 : HL G (8) ([LA 10 z0]) := c8
  obtain ⟨p1, c7⟩ := p1.spl
  replace c7 : HL G (7) ([LA 10 z0]) := c7
  obtain ⟨p1, c6⟩ := p1.spl
  replace c6 : HL G (6) ([LA 10 z0]) := c6
  obtain ⟨p1, c5⟩ := p1.spl
  replace c5 : HL G (5) ([LA 10 z0]) := c5
  obtain ⟨p1, c4⟩ := p1.spl
  replace c4 : HL G (4) ([LA 10 z0]) := c4
  obtain ⟨p1, c3⟩ := p1.spl
  replace c3 : HL G (3) ([LA 10 z0]) := c3
  obtain ⟨p1, c2⟩ := p1.spl
  replace c2 : HL G (2) ([BA 32 z0]) := c2
  refine ⟨⟨⟨p1.hd, ⟨_, c2.hd⟩, fun r hr => ?_, _, c13.hd⟩, ⟨p14.hd, ⟨_, p15.hd⟩, ⟨_, p16.hd⟩, 0, z0, (L6_g p17).1, (L6_g p17).2⟩, ⟨p19.hd, ⟨p20.g 0 rfl, ⟨z0, p20.g 1 rfl⟩, ⟨_, p20.g 2 rfl⟩, _, p20.g 3 rfl⟩, ⟨p24.g 0 rfl, ⟨z0, p24.g 1 rfl⟩, ⟨z0, p24.g 2 rfl⟩, ⟨z0, p24.g 3 rfl⟩, ⟨z0, p24.g 4 rfl⟩, z0, p24.g 5 rfl⟩, 0, z0, (L6_g p30).1, (L6_g p30).2⟩, Rb0 p124.hd, Rb0 p125.hd, fun c a d => ?_, Rw0 (L6_g p130).1 (L6_g p130).2, ⟨0, z0, (L6_g p132).1, (L6_g p132).2⟩, ⟨0, z0, (L6_g p134).1, (L6_g p134).2⟩, ⟨136, 138, Or.inl ⟨rfl, rfl⟩, h.hd, Rw0 (L6_g p136).1 (L6_g p136).2, 0, z0, (L6_g p138).1, (L6_g p138).2⟩⟩, fun e he => ?_⟩
  · refine ⟨z0, ?_⟩
    have : r = 3 ∨ r = 4 ∨ r = 5 ∨ r = 6 ∨ r = 7 ∨ r = 8 ∨ r = 9 ∨ r = 10 ∨ r = 11 ∨ r = 12 := by simpa using hr
    rcases this with rfl | rfl | rfl | rfl | rfl | rfl | rfl | rfl | rfl | rfl
    · exact c3.hd
    · exact c4.hd
    · exact c5.hd
    · exact c6.hd
    · exact c7.hd
    · exact c8.hd
    · exact c9.hd
    · exact c10.hd
    · exact c11.hd
    · exact c12.hd
  · refine ⟨z0, ?_⟩
    have : c = 126 ∨ c = 127 ∨ c = 128 ∨ c = 129 := by omega
    rcases this with rfl | rfl | rfl | rfl
    · exact p126.hd
    · exact p127.hd
    · exact p128.hd
    · exact p129.hd
  · have : e = 0 ∨ e = 1 := by omega
    rcases this with rfl | rfl
    · exact RE0 p32
    · exact RE0 p78
end CStart
