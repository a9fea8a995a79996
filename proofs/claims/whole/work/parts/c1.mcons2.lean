/-! the reference's constructor: its end, and the state that it holds -/
section MCons2
variable {K : kK} {G : kG} {Q : kO → kG → Prop} {T : TB} {th ta os hs ps rs : Int32}
def esz : ES := (fun k => Nat.beq k 0, fun _ => 0, 0, fun _ _ => 0, [], [])
def sg1 : SG := (fun j => if j = 1 then es0 else if j = 0 then es0 else esz, fun _ _ => 0, [], [])
theorem sg1_e {e : Nat} (he : e < 2) : sg1.1 e = es0 := by
  rcases (show e = 0 ∨ e = 1 by omega) with rfl | rfl <;> rfl
theorem RC1 (h : RC sg0 G) : RC sg1 G := ⟨h.1, fun e he => by rw [sg1_e he]; exact h.2 e he⟩
theorem bB_0 : bB 0 = 0 := by decide
theorem YA_0 {N : Nat} : (.inl (1, N, .inl (fun _ => 0)) : kE) = YA N z0 := by
  show _ = Sum.inl (1, N, Sum.inl (fun _ => bB 0))
  rw [bB_0]
theorem ZA_0 {N : Nat} : (.inl (3, N, .inl (fun _ => 0)) : kE) = ZA N (fun _ => false) := rfl
theorem sg1_fl (j k : Nat) : fl (sg1.1 j) k = Nat.beq k 0 := by
  show fl (if j = 1 then es0 else if j = 0 then es0 else esz) k = _
  split
  · rfl
  · split <;> rfl
theorem sg1_nm (j k : Nat) : nm (sg1.1 j) k = 0 := by
  show nm (if j = 1 then es0 else if j = 0 then es0 else esz) k = _
  split
  · rfl
  · split <;> rfl
theorem sg1_gt (j : Nat) : gt (sg1.1 j) = [] := by
  show gt (if j = 1 then es0 else if j = 0 then es0 else esz) = _
  split
  · rfl
  · split <;> rfl
theorem sg1_wi (j : Nat) : wi (sg1.1 j) = [] := by
  show wi (if j = 1 then es0 else if j = 0 then es0 else esz) = _
  split
  · rfl
  · split <;> rfl
theorem sg1_rw (j k i : Nat) : rw9 (sg1.1 j) k i = 0 := by
  show rw9 (if j = 1 then es0 else if j = 0 then es0 else esz) k i = _
  split
  · rfl
  · split <;> rfl
theorem sg1_un (j : Nat) : un (sg1.1 j) = if j = 1 then -1 else if j = 0 then -1 else 0 := by
  show un (if j = 1 then es0 else if j = 0 then es0 else esz) = _
  split
  · rfl
  · split <;> rfl
theorem z0_lt : ∀ j, z0 j < 256 := fun _ => Nat.le_of_ble_eq_true rfl
/-- the cells that the constructor leaves, as they are read -/
def fr1 (G : kG) : Prop := G.1 140 = some (MO 0 0 0 0 0 0) ∧ G.1 157 = some (YA 640 (updN z0 256 9)) ∧ G.1 173 = some (IA 2 (upd (upd (fun _ => 0) 0 (-1)) 1 (-1))) ∧
  (G.1 141 = some (YA 600 z0) ∧ G.1 142 = some (YA 64 z0) ∧ G.1 143 = some (LA 340 z0) ∧ G.1 144 = some (LA 34 z0)) ∧
  (G.1 147 = some (BA 64 z0) ∧ G.1 148 = some (BA 8 z0) ∧ G.1 149 = some (YA 800 z0) ∧ G.1 150 = some (BA 16 z0) ∧ G.1 151 = some (BA 16 z0) ∧ G.1 152 = some (YA 64 z0)) ∧
  (G.1 153 = some (LA 13 z0) ∧ G.1 154 = some (LA 13 z0) ∧ G.1 155 = some (LA 26 z0) ∧ G.1 156 = some (YA 16 z0)) ∧
  (G.1 158 = some (YA 16 z0) ∧ G.1 159 = some (YA 36 z0) ∧ G.1 160 = some (YA 256 z0) ∧ G.1 161 = some (YA 256 z0)) ∧
  (G.1 162 = some (ZA 2 (fun _ => false)) ∧ G.1 163 = some (ZA 2 (fun _ => false)) ∧ G.1 164 = some (ZA 2 (fun _ => false)) ∧ G.1 167 = some (ZA 2 (fun _ => false)) ∧ G.1 168 = some (ZA 2 (fun _ => false)) ∧ G.1 169 = some (ZA 2 (fun _ => false)) ∧ G.1 170 = some (ZA 2 (fun _ => false)) ∧ G.1 172 = some (ZA 2 (fun _ => false))) ∧
  (G.1 165 = some (BA 2 z0) ∧ G.1 166 = some (BA 2 z0) ∧ G.1 171 = some (BA 2 z0) ∧ G.1 174 = some (BA 2 z0) ∧ G.1 176 = some (BA 2 z0) ∧ G.1 177 = some (BA 24 z0)) ∧
  G.1 175 = some (YA 4000 z0) ∧ G.1 178 = some (YA 5760 z0) ∧ G.1 179 = some (YA 240 z0) ∧ G.1 180 = some (YA 240 z0) ∧ G.1 181 = some (YA 260 z0)
theorem fr1_ok {f g : Nat → Nat} (h : fr1 G) (g145 : G.1 145 = some (BA 8 f)) (hf : ∀ j, j < 8 → nI (f j) = T.1 j) (g146 : G.1 146 = some (BA 64 g)) (hg : ∀ j, j < 64 → nI (g j) = T.2.1 j) : RMA T sg1 0 G := by
  obtain ⟨k140, k157, k173, ⟨k141, k142, k143, k144⟩, ⟨k147, k148, k149, k150, k151, k152⟩, ⟨k153, k154, k155, k156⟩, ⟨k158, k159, k160, k161⟩, ⟨k162, k163, k164, k167, k168, k169, k170, k172⟩, ⟨k165, k166, k171, k174, k176, k177⟩, k175, k178, k179, k180, k181⟩ := h
  refine ⟨⟨?_, ?_, ?_, ?_, ?_, ?_, ?_, ?_, ?_, ?_⟩, ⟨z0, k141, z0_lt, rfl, Nat.zero_le _⟩, ⟨z0, k142, z0_lt, rfl, Nat.zero_le _⟩, ⟨0, 0, 0, k140⟩⟩
  · exact ⟨⟨z0, k143, z0, k144⟩, ⟨⟨_, g145, hf⟩, ⟨_, g146, hg⟩, ⟨_, k147⟩, ⟨_, k148⟩, ⟨_, k151⟩⟩, ⟨z0, k149, z0_lt, rfl⟩, ⟨⟨_, k150⟩, ⟨_, k151⟩, ⟨z0, k152, z0_lt⟩⟩, ⟨⟨_, k153⟩, ⟨_, k154⟩, ⟨_, k155⟩, ⟨z0, k156, z0_lt⟩⟩, ⟨z0, k179, z0_lt⟩, ⟨z0, k180, z0_lt⟩, ⟨z0, k181, z0_lt⟩⟩
  · refine ⟨_, k157, fun j => ?_, fun j hj => ⟨fun e he => ?_, ?_, ?_, ?_⟩⟩
    · unfold updN
      split
      · decide
      · exact z0_lt j
    · rw [sg1_rw, sg1_rw, sg1_rw]
      unfold updN
      rw [if_neg (by omega), if_neg (by omega), if_neg (by omega)]
      exact ⟨rfl, rfl, rfl⟩
    · unfold updN; rw [if_neg (by omega)]; rfl
    · unfold updN; rw [if_neg (by omega)]; rfl
    · unfold updN nine
      by_cases z : j = 0
      · rw [if_pos (by omega), if_pos z]
      · rw [if_neg (by omega), if_neg z]
  · exact ⟨z0, k158, z0_lt, fun e he j hj => by rw [sg1_rw]⟩
  · exact ⟨z0, k159, z0_lt, fun e he j hj => by rw [sg1_rw, sg1_rw]; exact ⟨rfl, rfl⟩⟩
  · exact ⟨z0, k160, z0_lt, fun e he j hj => by rw [sg1_rw, sg1_rw, sg1_rw, sg1_rw]; exact ⟨rfl, rfl, rfl, rfl⟩⟩
  · exact ⟨z0, k161, z0_lt, fun e he j hj => by rw [sg1_rw, sg1_rw]; exact ⟨rfl, rfl⟩⟩
  · refine ⟨?_, z0, k175, z0_lt, fun e he => ?_⟩
    · rw [show (fun j => (gt (sg1.1 j)).length) = z0 from funext (fun j => by rw [sg1_gt]; rfl)]; exact k174
    · rw [sg1_gt]; exact ⟨Nat.zero_le _, fun j hj => absurd hj (Nat.not_lt_zero j)⟩
  · refine ⟨?_, z0, z0, k177, k178, z0_lt, fun e he => ?_⟩
    · rw [show (fun j => (wi (sg1.1 j)).length) = z0 from funext (fun j => by rw [sg1_wi]; rfl)]; exact k176
    · rw [sg1_wi]; exact ⟨Nat.zero_le _, fun j hj => absurd hj (Nat.not_lt_zero j)⟩
  · refine ⟨?_, ?_, ?_, ?_, ?_, ?_, ?_, ?_⟩
    · rw [show (fun j => !fl (sg1.1 j) 0) = (fun _ => false) from funext (fun j => by rw [sg1_fl]; rfl)]; exact k164
    · rw [show (fun j => fl (sg1.1 j) 1) = (fun _ => false) from funext (fun j => by rw [sg1_fl]; rfl)]; exact k172
    · rw [show (fun j => fl (sg1.1 j) 2) = (fun _ => false) from funext (fun j => by rw [sg1_fl]; rfl)]; exact k167
    · rw [show (fun j => fl (sg1.1 j) 3) = (fun _ => false) from funext (fun j => by rw [sg1_fl]; rfl)]; exact k168
    · rw [show (fun j => fl (sg1.1 j) 4) = (fun _ => false) from funext (fun j => by rw [sg1_fl]; rfl)]; exact k169
    · rw [show (fun j => fl (sg1.1 j) 5) = (fun _ => false) from funext (fun j => by rw [sg1_fl]; rfl)]; exact k170
    · rw [show (fun j => fl (sg1.1 j) 6) = (fun _ => false) from funext (fun j => by rw [sg1_fl]; rfl)]; exact k162
    · rw [show (fun j => fl (sg1.1 j) 7) = (fun _ => false) from funext (fun j => by rw [sg1_fl]; rfl)]; exact k163
  · refine ⟨?_, ?_, ?_, ?_⟩
    · rw [show (fun j => nm (sg1.1 j) 0) = z0 from funext (fun j => by rw [sg1_nm])]; exact k165
    · rw [show (fun j => nm (sg1.1 j) 1) = z0 from funext (fun j => by rw [sg1_nm])]; exact k166
    · rw [show (fun j => nm (sg1.1 j) 2) = z0 from funext (fun j => by rw [sg1_nm])]; exact k171
    · rw [show (fun j => un (sg1.1 j)) = upd (upd (fun _ => 0) 0 (-1)) 1 (-1) from funext (fun j => by rw [sg1_un]; rfl)]; exact k173
theorem HL.gy {b N : Nat} {L : List kE} (h : HL G b L) (i : Nat) (he : L[i]? = some (.inl (1, N, .inl (fun _ => 0)))) : G.1 (b + i) = some (YA N z0) := by
  rw [← YA_0]; exact h.g i he
theorem HL.gz {b N : Nat} {L : List kE} (h : HL G b L) (i : Nat) (he : L[i]? = some (.inl (3, N, .inl (fun _ => 0)))) : G.1 (b + i) = some (ZA N (fun _ => false)) := h.g i he
def fr0 (G : kG) : Prop := (G.1 157 = some (YA 640 z0) ∧ G.1 173 = some (BA 2 z0) ∧ G.1 145 = some (BA 8 z0) ∧ G.1 146 = some (BA 64 z0) ∧ G.1 182 = some (LA 12 z0) ∧ G.1 183 = some (LA 3 z0)) ∧
  (G.1 141 = some (YA 600 z0) ∧ G.1 142 = some (YA 64 z0) ∧ G.1 143 = some (LA 340 z0) ∧ G.1 144 = some (LA 34 z0)) ∧
  (G.1 147 = some (BA 64 z0) ∧ G.1 148 = some (BA 8 z0) ∧ G.1 149 = some (YA 800 z0) ∧ G.1 150 = some (BA 16 z0) ∧ G.1 151 = some (BA 16 z0) ∧ G.1 152 = some (YA 64 z0)) ∧
  (G.1 153 = some (LA 13 z0) ∧ G.1 154 = some (LA 13 z0) ∧ G.1 155 = some (LA 26 z0) ∧ G.1 156 = some (YA 16 z0)) ∧
  (G.1 158 = some (YA 16 z0) ∧ G.1 159 = some (YA 36 z0) ∧ G.1 160 = some (YA 256 z0) ∧ G.1 161 = some (YA 256 z0)) ∧
  (G.1 162 = some (ZA 2 (fun _ => false)) ∧ G.1 163 = some (ZA 2 (fun _ => false)) ∧ G.1 164 = some (ZA 2 (fun _ => false)) ∧ G.1 167 = some (ZA 2 (fun _ => false)) ∧ G.1 168 = some (ZA 2 (fun _ => false)) ∧ G.1 169 = some (ZA 2 (fun _ => false)) ∧ G.1 170 = some (ZA 2 (fun _ => false)) ∧ G.1 172 = some (ZA 2 (fun _ => false))) ∧
  (G.1 165 = some (BA 2 z0) ∧ G.1 166 = some (BA 2 z0) ∧ G.1 171 = some (BA 2 z0) ∧ G.1 174 = some (BA 2 z0) ∧ G.1 176 = some (BA 2 z0) ∧ G.1 177 = some (BA 24 z0)) ∧
  G.1 175 = some (YA 4000 z0) ∧ G.1 178 = some (YA 5760 z0) ∧ G.1 179 = some (YA 240 z0) ∧ G.1 180 = some (YA 240 z0) ∧ G.1 181 = some (YA 260 z0)
theorem fr0_ok (h : HL G 141 LM43) : fr0 G :=
  ⟨⟨h.gy 16 rfl, h.g 32 rfl, h.g 4 rfl, h.g 5 rfl, h.g 41 rfl, h.g 42 rfl⟩, ⟨h.gy 0 rfl, h.gy 1 rfl, h.g 2 rfl, h.g 3 rfl⟩, ⟨h.g 6 rfl, h.g 7 rfl, h.gy 8 rfl, h.g 9 rfl, h.g 10 rfl, h.gy 11 rfl⟩, ⟨h.g 12 rfl, h.g 13 rfl, h.g 14 rfl, h.gy 15 rfl⟩, ⟨h.gy 17 rfl, h.gy 18 rfl, h.gy 19 rfl, h.gy 20 rfl⟩, ⟨h.gz 21 rfl, h.gz 22 rfl, h.gz 23 rfl, h.gz 26 rfl, h.gz 27 rfl, h.gz 28 rfl, h.gz 29 rfl, h.gz 31 rfl⟩, ⟨h.g 24 rfl, h.g 25 rfl, h.g 30 rfl, h.g 33 rfl, h.g 35 rfl, h.g 36 rfl⟩, h.gy 34 rfl, h.gy 37 rfl, h.gy 38 rfl, h.gy 39 rfl, h.gy 40 rfl⟩
theorem fr01 {G' : kG} (h : fr0 G) (k140 : G'.1 140 = some (MO 0 0 0 0 0 0)) (k157 : G'.1 157 = some (YA 640 (updN z0 256 9))) (k173 : G'.1 173 = some (IA 2 (upd (upd (fun _ => 0) 0 (-1)) 1 (-1)))) (e : ∀ j, j ≠ 140 → j ≠ 157 → j ≠ 173 → ¬ PRC j → G'.1 j = G.1 j) : fr1 G' := by
  obtain ⟨-, ⟨k141, k142, k143, k144⟩, ⟨k147, k148, k149, k150, k151, k152⟩, ⟨k153, k154, k155, k156⟩, ⟨k158, k159, k160, k161⟩, ⟨k162, k163, k164, k167, k168, k169, k170, k172⟩, ⟨k165, k166, k171, k174, k176, k177⟩, k175, k178, k179, k180, k181⟩ := h
  have e' : ∀ {j : Nat} {x : Option kE}, (Nat.beq j 140 || Nat.beq j 157 || Nat.beq j 173 || Nat.beq j 145 || Nat.beq j 146 || Nat.beq j 182 || Nat.beq j 183) = false → G.1 j = x → G'.1 j = x := fun {j x} hb hx => by
    simp only [Bool.or_eq_false_iff] at hb
    obtain ⟨⟨⟨⟨⟨⟨b1, b2⟩, b3⟩, b4⟩, b5⟩, b6⟩, b7⟩ := hb
    have q : ∀ {a b : Nat}, Nat.beq a b = false → a ≠ b := fun {a b} h => Nat.ne_of_beq_eq_false h
    rw [← hx]
    exact e j (q b1) (q b2) (q b3) (fun z => z.elim (q b4) (fun z => z.elim (q b5) (fun z => z.elim (q b6) (q b7))))
  exact ⟨k140, k157, k173, ⟨e' rfl k141, e' rfl k142, e' rfl k143, e' rfl k144⟩, ⟨e' rfl k147, e' rfl k148, e' rfl k149, e' rfl k150, e' rfl k151, e' rfl k152⟩, ⟨e' rfl k153, e' rfl k154, e' rfl k155, e' rfl k156⟩, ⟨e' rfl k158, e' rfl k159, e' rfl k160, e' rfl k161⟩, ⟨e' rfl k162, e' rfl k163, e' rfl k164, e' rfl k167, e' rfl k168, e' rfl k169, e' rfl k170, e' rfl k172⟩, ⟨e' rfl k165, e' rfl k166, e' rfl k171, e' rfl k174, e' rfl k176, e' rfl k177⟩, e' rfl k175, e' rfl k178, e' rfl k179, e' rfl k180, e' rfl k181⟩
theorem c_newM {r2 r3 : Nat → Nat} (h2 : ∀ n, rtF n 2 37 0 = r2 n) (h3 : ∀ n, rtF n 3 37 0 = r3 n) (hT1 : ∀ j, j < 8 → nI (r2 (gD p64 j)) = T.1 j) (hT2 : ∀ j, j < 64 → nI (r3 (gD p64 j)) = T.2.1 j) (g : G.1 140 = some (.inr (11, [.int 0, .int 0, .null, .int 0, .null, .null, .null, .null, .null, .null, .null, .int 0, .null, .null, .null, .null, .null, .null, .null, .null, .null, .null, .null, .null, .null, .null, .null, .null, .null, .null, .null, .null, .null, .null, .null, .null, .null, .null, .null, .null, .null, .null, .int 0, .null, .int 0, .null, .null, .null, .null]))) (hn : G.2 = some 141) (hq : ∀ G', G'.2 = some 184 → (∀ j, j < 140 → G'.1 j = G.1 j) → RMA T sg1 0 G' → Q (.inl none) G') : C K 43 13917 mX12_init [.ref 140] G Q := by
  refine C_of okX12_init (Nat.le_of_ble_eq_true rfl) (V_mc1 g hn (fun G1 h1 => ?_))
  obtain ⟨m1, m2, m3, -, m5⟩ := h1
  have h0 := fr0_ok m5
  obtain ⟨⟨k157, k173, k145, k146, k182, k183⟩, -⟩ := fr0_ok m5
  clear m5
  have hpr : ∀ j, j < 140 → ¬ PRC j := fun j hj z => by rcases z with z | z | z | z <;> omega
  refine V_aload_n rfl (by first | rfl | assumption) ?_
  refine V_getf rfl rfl rfl (by repeat (first | exact hup_eq | assumption | refine Eq.trans (hup_ne (by first | assumption | exact Ne.symm (by assumption) | decide | omega)) ?_)) (by first | rfl | assumption) ?_
  refine V_sipush (v := nI 256) rfl (by decide) ?_
  refine V_bipush (v := nI 9) rfl (by decide) ?_
  refine V_bastN rfl (by repeat (first | exact hup_eq | assumption | refine Eq.trans (hup_ne (by first | assumption | exact Ne.symm (by assumption) | decide | omega)) ?_)) rfl (by first | omega | decide) (by first | omega | decide) ?_
  refine V_aload_n rfl (by first | rfl | assumption) ?_
  refine V_getf rfl rfl rfl (by repeat (first | exact hup_eq | assumption | refine Eq.trans (hup_ne (by first | assumption | exact Ne.symm (by assumption) | decide | omega)) ?_)) (by first | rfl | assumption) ?_
  refine V_iconst (v := nI 0) rfl (by decide) ?_
  refine V_iconst (v := (-1)) rfl (by decide) ?_
  refine V_iastJ rfl (by repeat (first | exact hup_eq | assumption | refine Eq.trans (hup_ne (by first | assumption | exact Ne.symm (by assumption) | decide | omega)) ?_)) rfl (by first | omega | decide) (by first | omega | decide) ?_
  refine V_aload_n rfl (by first | rfl | assumption) ?_
  refine V_getf rfl rfl rfl (by repeat (first | exact hup_eq | assumption | refine Eq.trans (hup_ne (by first | assumption | exact Ne.symm (by assumption) | decide | omega)) ?_)) (by first | rfl | assumption) ?_
  refine V_iconst (v := nI 1) rfl (by decide) ?_
  refine V_iconst (v := (-1)) rfl (by decide) ?_
  refine V_iastJ rfl (by repeat (first | exact hup_eq | assumption | refine Eq.trans (hup_ne (by first | assumption | exact Ne.symm (by assumption) | decide | omega)) ?_)) rfl (by first | omega | decide) (by first | omega | decide) ?_
  refine V_iconst (v := nI 0) rfl (by decide) ?_
  refine V_istore_n rfl (by decide) ?_
  refine V_iconst (v := nI 2) rfl (by decide) ?_
  refine V_istore_n rfl (by decide) ?_
  refine V_mc3 rfl h2 h3 (th := 0) (ta := 0) (os := 0) (hs := 0) (ps := 0) (rs := 0) rfl rfl rfl (by repeat (first | exact hup_eq | assumption | refine Eq.trans (hup_ne (by first | assumption | exact Ne.symm (by assumption) | decide | omega)) ?_)) ⟨⟨z0, (by repeat (first | exact hup_eq | assumption | refine Eq.trans (hup_ne (by first | assumption | exact Ne.symm (by assumption) | decide | omega)) ?_))⟩, ⟨z0, (by repeat (first | exact hup_eq | assumption | refine Eq.trans (hup_ne (by first | assumption | exact Ne.symm (by assumption) | decide | omega)) ?_))⟩⟩ ⟨z0, (by repeat (first | exact hup_eq | assumption | refine Eq.trans (hup_ne (by first | assumption | exact Ne.symm (by assumption) | decide | omega)) ?_))⟩ ⟨z0, (by repeat (first | exact hup_eq | assumption | refine Eq.trans (hup_ne (by first | assumption | exact Ne.symm (by assumption) | decide | omega)) ?_))⟩ ?_
  intro G' f g F ha g145 hf g146 hg
  refine hq G' (F.1.trans m2) (fun j hj => ?_) (fr1_ok (fr01 h0 (F.get (by decide) (by repeat (first | exact hup_eq | assumption | refine Eq.trans (hup_ne (by first | assumption | exact Ne.symm (by assumption) | decide | omega)) ?_))) (F.get (by decide) (by repeat (first | exact hup_eq | assumption | refine Eq.trans (hup_ne (by first | assumption | exact Ne.symm (by assumption) | decide | omega)) ?_))) (F.get (by decide) (by repeat (first | exact hup_eq | assumption | refine Eq.trans (hup_ne (by first | assumption | exact Ne.symm (by assumption) | decide | omega)) ?_))) (fun j a b c d => ?_)) g145 (fun j hj => by rw [hf j hj]; exact hT1 j hj) g146 (fun j hj => by rw [hg j hj]; exact hT2 j hj))
  · refine (F.2 j (hpr j hj)).trans (Eq.trans (hup_ne (by omega)) (Eq.trans (hup_ne (by omega)) (Eq.trans (hup_ne (by omega)) (m3 j hj))))
  · exact (F.2 j d).trans (Eq.trans (hup_ne c) (Eq.trans (hup_ne c) (hup_ne b)))
end MCons2
