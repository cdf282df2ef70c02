section SEND
variable {T : Sto} {J : Rows}
theorem nwB_I {p a : Nat} {a1 a2 a3 a4 a5 : Int32} (hp : p = sN T) (h0 : a ≠ p) (h1 : a ≠ p + 1) (h2 : a ≠ p + 2) : gI (nwB T p a1 a2 a3 a4 a5) a = gI T a := by
  have s2 : sN (pR (nw (nw T)) p 5 (some (p + 1))) = p + 2 := by rw [hp]; rfl
  have s1 : sN (nw T) = p + 1 := by rw [hp]; rfl
  unfold nwB
  rw [gI_ne h0, gI_ne h0, gI_ne h0, gI_ne h0, gI_ne h0, gI_ne h0, gI_pR, gI_nw, s2, if_neg h2, gI_pR, gI_nw, s1, if_neg h1, gI_nw, ← hp, if_neg h0]
theorem nwB_p {p k : Nat} {a1 a2 a3 a4 a5 : Int32} (hp : p = sN T) : gI (nwB T p a1 a2 a3 a4 a5) p k = if k = 4 then a5 else if k = 3 then a4 else if k = 2 then a3 else if k = 1 then a2 else if k = 0 then a1 else if k = 8 then 10 else 0 := by
  have s2 : sN (pR (nw (nw T)) p 5 (some (p + 1))) = p + 2 := by rw [hp]; rfl
  have s1 : sN (nw T) = p + 1 := by rw [hp]; rfl
  have b0 : gI (pR (nw (pR (nw (nw T)) p 5 (some (p + 1)))) p 6 (some (p + 2))) p k = 0 := by
    rw [gI_pR, gI_nw, s2, if_neg (show ¬ p = p + 2 by omega), gI_pR, gI_nw, s1, if_neg (show ¬ p = p + 1 by omega), gI_nw, ← hp, if_pos rfl]
  unfold nwB
  rw [gI_eq, gI_eq, gI_eq, gI_eq, gI_eq, gI_eq, upd_at, upd_at, upd_at, upd_at, upd_at, upd_at, b0]
theorem nwB_R {p a : Nat} {a1 a2 a3 a4 a5 : Int32} (hp : p = sN T) (h0 : a ≠ p) (h1 : a ≠ p + 1) (h2 : a ≠ p + 2) : gR (nwB T p a1 a2 a3 a4 a5) a = gR T a := by
  have s2 : sN (pR (nw (nw T)) p 5 (some (p + 1))) = p + 2 := by rw [hp]; rfl
  have s1 : sN (nw T) = p + 1 := by rw [hp]; rfl
  show gR (pR (nw (pR (nw (nw T)) p 5 (some (p + 1)))) p 6 (some (p + 2))) a = gR T a
  rw [gR_pR, if_neg h0, gR_nw, s2, if_neg h2, gR_pR, if_neg h0, gR_nw, s1, if_neg h1, gR_nw, ← hp, if_neg h0]
theorem nwB_56 {p : Nat} {a1 a2 a3 a4 a5 : Int32} (hp : p = sN T) : gR (nwB T p a1 a2 a3 a4 a5) p 5 = some (p + 1) ∧ gR (nwB T p a1 a2 a3 a4 a5) p 6 = some (p + 2) := by
  have s2 : sN (pR (nw (nw T)) p 5 (some (p + 1))) = p + 2 := by rw [hp]; rfl
  show gR (pR (nw (pR (nw (nw T)) p 5 (some (p + 1)))) p 6 (some (p + 2))) p 5 = some (p + 1) ∧ gR (pR (nw (pR (nw (nw T)) p 5 (some (p + 1)))) p 6 (some (p + 2))) p 6 = some (p + 2)
  rw [gR_pR, if_pos rfl, gR_nw, s2, if_neg (by omega), gR_pR, if_pos rfl]
  exact ⟨rfl, rfl⟩
/-- the store with a new PACKET -/
def nwP (T : Sto) (a1 a2 a3 a4 a5 : Int32) : Sto := nwL (nwB T (sN T) a1 a2 a3 a4 a5) (sN T) 8
theorem nwP_n {a1 a2 a3 a4 a5 : Int32} : sN (nwP T a1 a2 a3 a4 a5) = sN T + 3 := by unfold nwP; rw [nwL_n]; rfl
theorem nwP_I {a : Nat} {a1 a2 a3 a4 a5 : Int32} (h0 : a ≠ sN T) (h1 : a ≠ sN T + 1) (h2 : a ≠ sN T + 2) : gI (nwP T a1 a2 a3 a4 a5) a = gI T a := by unfold nwP; rw [nwL_I h2, nwB_I rfl h0 h1 h2]
theorem nwP_R {a : Nat} {a1 a2 a3 a4 a5 : Int32} (h0 : a ≠ sN T) (h1 : a ≠ sN T + 1) (h2 : a ≠ sN T + 2) : gR (nwP T a1 a2 a3 a4 a5) a = gR T a := by unfold nwP; rw [nwL_R, nwB_R rfl h0 h1 h2]
theorem Fx.nwP' {a1 a2 a3 a4 a5 : Int32} (h : Fx T) : Fx (nwP T a1 a2 a3 a4 a5) := by
  have h79 := h.1
  have hm := h.2.1
  obtain ⟨k0, k1, -, k2, -⟩ := kdP h79 hm
  have old : ∀ a c, al (nwP T a1 a2 a3 a4 a5) a c → c ≠ 1 → c ≠ 7 → al T a c := fun a c ha c1 c7 => by
    obtain ⟨x, y⟩ := ha
    rw [nwP_n] at x
    refine ⟨?_, y⟩
    rcases (show a < sN T ∨ a = sN T ∨ a = sN T + 1 ∨ a = sN T + 2 by omega) with z | z | z | z
    · exact z
    · rw [z, k0] at y; omega
    · rw [z, k1] at y; omega
    · rw [z, k2] at y; omega
  have gr : ∀ a, a < sN T → gR (nwP T a1 a2 a3 a4 a5) a = gR T a := fun a ha => nwP_R (by omega) (by omega) (by omega)
  obtain ⟨-, -, h3, h4, h5, h6, h7, h8, h9, h10, h11, h12⟩ := h
  refine ⟨by rw [nwP_n]; omega, by rw [nwP_n]; omega, by rw [gr 0 (by omega)]; exact h3, by rw [gr 0 (by omega)]; exact h4, by rw [gr 0 (by omega)]; exact h5, fun i hi => by rw [gr 2 (by omega)]; exact h6 i hi, fun i hi => by rw [gr 19 (by omega)]; exact h7 i hi, fun a ha => ?_, fun a ha => ?_, fun a ha => ?_, fun k hk hr => by rw [gr 26 (by omega)]; exact h11 k hk hr, fun a j b ha hb => ?_⟩
  · have o := old a 3 ha (by decide) (by decide)
    rw [gr a o.1]; exact h8 a o
  · have o := old a 2 ha (by decide) (by decide)
    rw [gr a o.1]; exact h9 a o
  · obtain ⟨x, y⟩ := ha
    rw [nwP_n] at x
    rcases (show a < sN T ∨ a = sN T ∨ a = sN T + 1 ∨ a = sN T + 2 by omega) with z | z | z | z
    · rw [gr a z]; exact h10 a ⟨z, y⟩
    · rw [z]
      unfold nwP
      rw [nwL_R]
      exact nwB_56 rfl
    · rw [z, k1] at y; omega
    · rw [z, k2] at y; omega
  · have o := old a 9 ha (by decide) (by decide)
    rw [gr a o.1] at hb
    exact (h12 a j b o hb).mono (by rw [nwP_n]; omega)
theorem Rel.nwP' {a1 a2 a3 a4 a5 : Int32} (h : Rel T J) : Rel (nwP T a1 a2 a3 a4 a5) J := by
  have h79 := h.f.1
  have i : ∀ a, a < sN T → gI (nwP T a1 a2 a3 a4 a5) a = gI T a := fun a ha => nwP_I (by omega) (by omega) (by omega)
  have g : ∀ a, a < sN T → gR (nwP T a1 a2 a3 a4 a5) a = gR T a := fun a ha => nwP_R (by omega) (by omega) (by omega)
  refine h.chg h.f.nwP' (fun _ _ => rfl) (by rw [nwP_n]; omega) (fun _ _ => Nat.le_refl _) (fun j hj => Or.inl ⟨i _ (by omega), i _ (by omega), fun _ _ _ _ _ => rfl, fun _ _ => ⟨rfl, rfl⟩⟩) (fun d hd => Or.inl ⟨i _ (by omega), i _ (by omega), fun _ _ _ => rfl, fun _ _ => ⟨rfl, rfl, rfl⟩⟩) (fun d hd => h.vd hd) (by rw [i 0 (by omega)]; exact h.g) h.vg (fun d n p hd hn hp hal => Or.inl ?_) (fun d n hd _ => by rw [g _ (by omega)]) (h.n.ag rfl (fun _ _ => ⟨rfl, rfl⟩) (fun _ _ => rfl) (fun _ _ => by rw [g 1 (by omega)]) (fun d n hd _ => by rw [g _ (by omega)]))
  have := kd1_lt hal.2 h.f.2.1 h.f.1 hal.1
  exact ⟨i _ (by omega), i _ (by omega), i _ (by omega), ⟨fun _ _ _ => rfl, fun _ _ _ _ => rfl, fun _ _ => rfl⟩, rfl⟩
def spNew (J : Rows) (q : Nat) : Rows := uJ (uJ (uJ (uJ J 26 63 (nI q)) 68 q 10) 69 q 0) 70 q 0
theorem spNew_ne {q r : Nat} (h : r ≠ 26 ∧ r ≠ 68 ∧ r ≠ 69 ∧ r ≠ 70) : spNew J q r = J r := by
  obtain ⟨h1, h2, h3, h4⟩ := h
  unfold spNew
  rw [uJ_ne h4, uJ_ne h3, uJ_ne h2, uJ_ne h1]
theorem spNew_26 {q j : Nat} : spNew J q 26 j = if j = 63 then nI q else J 26 j := by
  unfold spNew
  rw [uJ_ne (by decide), uJ_ne (by decide), uJ_ne (by decide), uJ_eq]
theorem spNew_68 {q j : Nat} : spNew J q 68 j = if j = q then 10 else J 68 j := by
  unfold spNew
  rw [uJ_ne (by decide), uJ_ne (by decide), uJ_eq, uJ_ne (by decide)]
theorem spNew_69 {q j : Nat} : spNew J q 69 j = if j = q then 0 else J 69 j := by
  unfold spNew
  rw [uJ_ne (by decide), uJ_eq, uJ_ne (by decide), uJ_ne (by decide)]
theorem spNew_70 {q j : Nat} : spNew J q 70 j = if j = q then 0 else J 70 j := by
  unfold spNew
  rw [uJ_eq, uJ_ne (by decide), uJ_ne (by decide), uJ_ne (by decide)]
theorem Rel.newQ {d : Nat} (h : Rel T J) (hd : d < 2) (hn : num J d < 300) : FQ (nwP T (nI d) (nI (num J d)) (J 26 3) (J 26 (if d = 0 then 44 else 45)) (J 26 0)) (spNew J (300 * d + num J d)) d (sN T) (300 * d + num J d) 0 := by
  have h79 := h.f.1
  obtain ⟨k0, k1, -, k2, -⟩ := kdP h79 h.f.2.1
  have hR := h.nwP' (a1 := nI d) (a2 := nI (num J d)) (a3 := J 26 3) (a4 := J 26 (if d = 0 then 44 else 45)) (a5 := J 26 0)
  have nm : ∀ d', num (spNew J (300 * d + num J d)) d' = num J d' := fun d' => num_of (by rw [spNew_ne (by decide)])
  have hal : al (nwP T (nI d) (nI (num J d)) (J 26 3) (J 26 (if d = 0 then 44 else 45)) (J 26 0)) (sN T) 1 := ⟨by rw [nwP_n]; omega, k0⟩
  have hfr : frs_p (nwP T (nI d) (nI (num J d)) (J 26 3) (J 26 (if d = 0 then 44 else 45)) (J 26 0)) J (sN T) := fun d' n p' q1 q2 q3 => by
    obtain ⟨-, p2, r1, r2, -⟩ := h.pk q1 q2
    rw [nwP_R (by omega) (by omega) (by omega), r1] at q3
    cases q3
    have := r2.1
    omega
  have ag : agQ J (spNew J (300 * d + num J d)) (300 * d + num J d) := by
    refine ⟨fun r h1 _ _ h4 h5 h6 _ _ => spNew_ne ⟨h1, h4, h5, h6⟩, fun j hj => by rw [spNew_26, if_neg hj], fun r k h1 h2 hk => ?_, fun k _ => by rw [spNew_ne (by decide)], fun k _ => by rw [spNew_ne (by decide)]⟩
    rcases (show r = 66 ∨ r = 67 ∨ r = 68 ∨ r = 69 ∨ r = 70 by omega) with rfl | rfl | rfl | rfl | rfl
    · rw [spNew_ne (by decide)]
    · rw [spNew_ne (by decide)]
    · rw [spNew_68, if_neg hk]
    · rw [spNew_69, if_neg hk]
    · rw [spNew_70, if_neg hk]
  obtain ⟨r, r60, r1, e0⟩ := h.vg.1
  have vp : ∀ k, gI (nwP T (nI d) (nI (num J d)) (J 26 3) (J 26 (if d = 0 then 44 else 45)) (J 26 0)) (sN T) k = if k = 4 then J 26 0 else if k = 3 then J 26 (if d = 0 then 44 else 45) else if k = 2 then J 26 3 else if k = 1 then nI (num J d) else if k = 0 then nI d else if k = 8 then 10 else 0 := fun k => by
    unfold nwP
    rw [nwL_I (by omega), nwB_p rfl]
  refine ⟨by rw [nm], hR.fil hd hn hR.f rfl rfl (fun _ _ _ _ => rfl) hal hfr ag, ?_, ?_, fun _ => by omega⟩
  · unfold Pk
    have n63 : spNew J (300 * d + num J d) 26 63 = nI (300 * d + num J d) := by rw [spNew_26, if_pos rfl]
    have n3 : spNew J (300 * d + num J d) 26 3 = J 26 3 := by rw [spNew_26, if_neg (by decide)]
    have n0 : spNew J (300 * d + num J d) 26 0 = J 26 0 := by rw [spNew_26, if_neg (by decide)]
    have nx : spNew J (300 * d + num J d) 26 (if d = 0 then 44 else 45) = J 26 (if d = 0 then 44 else 45) := by rw [spNew_26, if_neg (by split <;> decide)]
    have n68 : spNew J (300 * d + num J d) 68 (300 * d + num J d) = 10 := by rw [spNew_68, if_pos rfl]
    have n69 : spNew J (300 * d + num J d) 69 (300 * d + num J d) = 0 := by rw [spNew_69, if_pos rfl]
    have n70 : spNew J (300 * d + num J d) 70 (300 * d + num J d) = 0 := by rw [spNew_70, if_pos rfl]
    rw [nm d, n63, n3, n0, nx, n68, n69, n70, vp 0, vp 1, vp 2, vp 3, vp 4, vp 10, vp 11, vp 12, vp 7, vp 8, vp 9]
    refine ⟨hal, fun d' n p' q1 q2 q3 => hfr d' n p' q1 (by rw [← nm]; exact q2) q3, hn, by decide, rfl, ⟨rfl, rfl, rfl, rfl, rfl⟩, ⟨rfl, rfl, rfl⟩, ⟨rfl, rfl, rfl, rfl⟩, ⟨10, r, rfl, e0, by decide, by omega, r1⟩, Or.inl rfl, fun k w hk => by omega, fun k hk => by omega⟩
  · refine ⟨fun j hj => ⟨fun z => absurd z.1 (by decide), fun _ => ?_⟩, fun z => absurd z (by decide)⟩
    unfold nwP
    rw [nwL_2, nwL_2, if_pos (by omega), if_pos (by omega)]
    exact ⟨rfl, rfl⟩
/-! what is filled in -/
def spTo (J : Rows) (d q : Nat) : Rows := if J 56 d = 0 then J else spTl J d q
abbrev opn (J : Rows) (d : Nat) : Prop := J 45 d + J 26 0 ≤ J 46 d ∨ ¬ J 53 d = 0
def spFill (J : Rows) (d q n4 : Nat) : Rows := if opn (spTo J d q) d then spRest (spTo J d q) d q n4 else spTo J d q
theorem c_fill {d p q n4 : Nat} {Q : Sto → Prop} (h4 : n4 = 4) (h : FQ T J d p q 0) (hd : d < 2) (hs : ∀ j, j < 8 → gI T (p + 2) j = -6) (hw : J 68 q = nI 10) (hQ : ∀ T' m', Ev T T' → FQ T' (spFill J d q n4) d p q m' → Q T') : Cv K4_fill [vr 0, vr (20 + 3 * d), vr p] T Q := by
  have hR := h.2.1
  have hal := h.2.2.1.1
  have rest : ∀ (U : Sto) (m : Nat), m ≤ 1 → Ev T U → FQ U (spTo J d q) d p q m → ((((if ((gI U (20 + 3 * d + 2) 0) + (gI U 0 5)) ≤ (gI U (20 + 3 * d + 2) 1) then 0 else (if (gI U (20 + 3 * d + 2) 8) = 0 then 1 else 0 : Int32) : Int32)) = 0 → (Cv K4_addAnswerAndAsk [vr 0, vr (20 + 3 * d), vr p] U (fun S4 => Cv K4_addBounds [vr 0, vr (20 + 3 * d), vr p] S4 (fun S5 => Cv K4_addCutOffs [vr 0, vr (20 + 3 * d), vr p] S5 (fun S6 => Cv K4_addBytes [vr 0, vr (20 + 3 * d), vr p] S6 (fun S7 => ((gI S7 (20 + 3 * d + 2) 8) = 0 → (Q S7)) ∧ (¬ (gI S7 (20 + 3 * d + 2) 8) = 0 → ((¬ (gI S7 p 9) = 0 → (Q S7)) ∧ ((gI S7 p 9) = 0 → (Ci K1_add [vr p, vi 8, vi 0, vi 0, vi 0] S7 (fun x10 S10 => Q S10))))))))))) ∧ (¬ ((if ((gI U (20 + 3 * d + 2) 0) + (gI U 0 5)) ≤ (gI U (20 + 3 * d + 2) 1) then 0 else (if (gI U (20 + 3 * d + 2) 8) = 0 then 1 else 0 : Int32) : Int32)) = 0 → (Q U))) := by
    intro U m hm E F
    have R := F.2.1
    have e0 : gI U (20 + 3 * d + 2) 0 = spTo J d q 45 d := by rw [show 20 + 3 * d + 2 = 22 + 3 * d by omega]; exact (R.d hd).2.1 0 (by decide)
    have e1 : gI U (20 + 3 * d + 2) 1 = spTo J d q 46 d := by rw [show 20 + 3 * d + 2 = 22 + 3 * d by omega]; exact (R.d hd).2.1 1 (by decide)
    have e8 : gI U (20 + 3 * d + 2) 8 = spTo J d q 53 d := by rw [show 20 + 3 * d + 2 = 22 + 3 * d by omega]; exact (R.d hd).2.1 8 (by decide)
    have e5 : gI U 0 5 = spTo J d q 26 0 := R.g 5 (by decide)
    rw [e0, e1, e8, e5]
    have op : (if spTo J d q 45 d + spTo J d q 26 0 ≤ spTo J d q 46 d then 0 else (if spTo J d q 53 d = 0 then 1 else 0 : Int32) : Int32) = 0 ↔ opn (spTo J d q) d := by
      by_cases z : spTo J d q 45 d + spTo J d q 26 0 ≤ spTo J d q 46 d
      · rw [if_pos z]; exact ⟨fun _ => Or.inl z, fun _ => rfl⟩
      · rw [if_neg z]
        by_cases y : spTo J d q 53 d = 0
        · rw [if_pos y]; exact ⟨fun v => absurd v (by decide), fun v => v.elim (fun v => absurd v z) (fun v => absurd y v)⟩
        · rw [if_neg y]; exact ⟨fun _ => Or.inr y, fun _ => rfl⟩
    rw [op]
    unfold spFill at hQ
    refine ⟨fun c => ?_, fun c => ?_⟩
    · rw [if_pos c] at hQ
      exact c_rest h4 F hd hm (fun T' m' E' F' => hQ T' m' (E.tr E') F')
    · rw [if_neg c] at hQ
      exact hQ U m E F
  have e7 : gI T (20 + 3 * d) 7 = J 56 d := (hR.d hd).1 7 (by decide)
  refine e4_fill hR.f (hR.f.sd hd) hal ?_
  rw [e7]
  refine ⟨fun c => rest T 0 (by decide) Ev.rf (by unfold spTo; rw [if_pos c]; exact h), fun c => ?_⟩
  obtain ⟨rfl, h2, h3, h5, h6⟩ := h
  refine c_addTold ⟨h2, h3⟩ hd c hs hw (fun T' E F S => rest T' 1 (Nat.le_refl _) E ?_)
  unfold spTo
  rw [if_neg c]
  have : num (spTl J d (300 * d + num J d)) d = num J d := num_of (by unfold spTl; rw [uJ_ne (by decide), spPut_ne (by decide) (by decide) (by decide) (by decide), spSp_ne (by decide)])
  exact ⟨by rw [this], F.1, F.2, S, fun _ => Nat.le_refl _⟩
theorem EQ.to {d q : Nat} (h : EQ J d q 0) (hd : d < 2) (hw : J 68 q = nI 10) : EQ (spTo J d q) d q 1 := by
  unfold spTo
  split
  · obtain ⟨T, p, m, hm, F⟩ := h
    exact ⟨T, p, m, by omega, F⟩
  · rename_i c
    exact h.told hd c hw
theorem EQ.fill {d q n4 : Nat} (h4 : n4 = 4) (h : EQ J d q 0) (hd : d < 2) (hw : J 68 q = nI 10) : ∃ m, m ≤ 16 ∧ EQ (spFill J d q n4) d q m := by
  have := h.to hd hw
  unfold spFill
  split
  · exact this.rest h4 hd (Nat.le_refl _)
  · exact ⟨1, by decide, this⟩
/-! under way -/
def spHv (J : Rows) (d q : Nat) : Rows := if J 70 q = 0 then J else uJ (uJ (uJ J 45 d (J 45 d + J 68 q)) 60 d (J 26 3)) 53 d 0
def spTr (J : Rows) (d q : Nat) : Rows := if d = 1 ∧ ¬ J 26 46 = 0 then uJ J 26 48 (J 26 48 + J 68 q) else J
def spGo (J : Rows) (d q n N : Nat) : Rows := uJ (spTr (spHv (spPu J d q n N) d q) d q) 26 4 1
theorem c_putUnderWay {d p q m N : Nat} {Q : Sto → Prop} (h : FQ T J d p q m) (hd : d < 2) (hm : 1 ≤ m) (hN : J 26 62 = nI N) (hN4 : N < 400) (hz : J 71 q = 0 ∧ J 72 q = 0 ∧ J 73 q = 0) (hQ : ∀ T', Fr T T' → sN T' = sN T → gI T' p = gI T p → Rel T' (spGo J d q (num J d) N) → Q T') : Cv K4_putUnderWay [vr 0, vr (20 + 3 * d), vr p] T Q := by
  have p79 := h.p79
  have hR := h.2.1
  have hn := h.2.2.1.2.2.1
  have hal := h.2.2.1.1
  have R1 := Rel.push h hd hm hN hN4 hz
  have e3 : gI T (20 + 3 * d) 3 = nI (num J d) := ((hR.d hd).1 3 (by decide)).trans (hR.vd hd).nm.1
  have g3 : gI T 0 3 = nI N := by rw [← hN]; exact hR.g 3 (by decide)
  have q70 : gI T p 9 = J 70 q := by rw [h.1]; exact h.2.2.1.2.2.2.2.2.2.2.1.2.2.2
  have q68 : gI T p 8 = J 68 q := by rw [h.1]; exact h.2.2.1.2.2.2.2.2.2.2.1.2.2.1
  have hS1 : pI (pR (pI (pR T (20 + 3 * d + 1) (gI T (20 + 3 * d) 3).toNatClampNeg (some p)) (20 + 3 * d) 3 (gI (pR T (20 + 3 * d + 1) (gI T (20 + 3 * d) 3).toNatClampNeg (some p)) (20 + 3 * d) 3 + 1)) 1 (gI (pI (pR T (20 + 3 * d + 1) (gI T (20 + 3 * d) 3).toNatClampNeg (some p)) (20 + 3 * d) 3 (gI (pR T (20 + 3 * d + 1) (gI T (20 + 3 * d) 3).toNatClampNeg (some p)) (20 + 3 * d) 3 + 1)) 0 3).toNatClampNeg (some p)) 0 3 (gI (pI (pR T (20 + 3 * d + 1) (gI T (20 + 3 * d) 3).toNatClampNeg (some p)) (20 + 3 * d) 3 (gI (pR T (20 + 3 * d + 1) (gI T (20 + 3 * d) 3).toNatClampNeg (some p)) (20 + 3 * d) 3 + 1)) 0 3 + 1) = puS T d p (num J d) N := by
    rw [gI_pR, e3, nI_suc, tnN (by omega), gI_ne (by omega), gI_pR, g3, nI_suc, tnN (by omega)]; rfl
  have g03 : gI (pI (pR T (20 + 3 * d + 1) (gI T (20 + 3 * d) 3).toNatClampNeg (some p)) (20 + 3 * d) 3 (gI (pR T (20 + 3 * d + 1) (gI T (20 + 3 * d) 3).toNatClampNeg (some p)) (20 + 3 * d) 3 + 1)) 0 3 = nI N := by
    rw [gI_ne (by omega), gI_pR, g3]
  have vp : ∀ k, gI (puS T d p (num J d) N) p k = gI T p k := fun k => by rw [puS_I (by omega) (by omega)]
  have v0 : gI (puS T d p (num J d) N) (20 + 3 * d + 2) 0 = spPu J d q (num J d) N 45 d := by rw [show 20 + 3 * d + 2 = 22 + 3 * d by omega]; exact (R1.d hd).2.1 0 (by decide)
  have fr1 : Fr T (puS T d p (num J d) N) := fun a h1 h2 => puS_I (by omega) (by omega)
  -- the end
  have fin : ∀ (X : Ctx) (U : Sto) (K : Rows), Ov X K4_putUnderWay T Q → Rel U K → spHv (spPu J d q (num J d) N) d q = K → Fr T U → sN U = sN T → gI U p = gI T p → WP X 103 [(0, vr 0), (1, vr (20 + 3 * d)), (2, vr p)] [] U 0 0 := by
    intro X U K O R hK hfr hsn hp
    have u0 : gI U (20 + 3 * d) 0 = nI d := (R.d hd).2.2.1
    have u10 : gI U 0 10 = K 26 46 := R.g 10 (by decide)
    have u12 : gI U 0 12 = K 26 48 := R.g 12 (by decide)
    have k68 : K 68 q = J 68 q := by
      rw [← hK]
      unfold spHv
      split
      · rw [spPu_ne (by decide)]
      · rw [uJ_ne (by decide), uJ_ne (by decide), uJ_ne (by decide), spPu_ne (by decide)]
    have go : spGo J d q (num J d) N = uJ (spTr K d q) 26 4 1 := by unfold spGo; rw [hK]
    rw [go] at hQ
    unfold spTr at hQ
    have d1 : nI d = 1 ↔ d = 1 := ⟨fun z => nI_nj (b := 1) (by omega) (by omega) z, fun z => by rw [z]; rfl⟩
    refine s4_putUnderWay_103 R.f (by rw [hsn]; exact Nat.le_refl _) O (R.f.sd hd) (hal.mono (by rw [hsn]; exact Nat.le_refl _)) ?_
    rw [u0, u10, u12, hp, q68]
    refine ⟨fun c => ?_, fun c => ⟨fun c2 => ?_, fun c2 => ?_⟩⟩
    · rw [if_neg (fun z => c (d1.mpr z.1))] at hQ
      exact hQ U hfr hsn hp (R.used (Or.inr rfl))
    · rw [if_neg (fun z => z.2 c2)] at hQ
      exact hQ U hfr hsn hp (R.used (Or.inr rfl))
    · rw [if_pos ⟨d1.mp c, c2⟩, k68] at hQ
      refine hQ _ (hfr.p (by decide)) hsn (by rw [gI_ne (by omega)]; exact hp) ?_
      exact (R.putG (k := 12) (by decide) (fun z => absurd z (by decide))).used (Or.inr rfl)
  refine e4_putUnderWay hR.f (hR.f.sd hd) hal (fun X O => ?_)
  rw [hS1, g03, vp 9, vp 8, v0, q70, q68, e3, g3]
  refine ⟨fun hc => absurd hc (nge (N := 300) hn (by decide)), fun _ => ⟨fun _ => ⟨ixN hn (by decide), ixN hN4 (by decide), fun c => ?_, fun c => ?_⟩, fun hc => ?_⟩⟩
  · refine fin X _ _ O R1 ?_ fr1 rfl (puS_I (by omega) (by omega))
    unfold spHv
    rw [spPu_ne (by decide), if_pos c]
  · have t4 : gI (pI (puS T d p (num J d) N) (20 + 3 * d + 2) 0 (spPu J d q (num J d) N 45 d + J 68 q)) 0 4 = spPu J d q (num J d) N 26 3 := by
      rw [gI_ne (by omega)]; exact R1.g 4 (by decide)
    rw [t4, show 20 + 3 * d + 2 = 22 + 3 * d by omega]
    have R2 := R1.putP hd (k := 0) (x := spPu J d q (num J d) N 45 d + J 68 q) (by decide) ((R1.vd hd).free (r := 45) (by decide) hd)
    have R3 := R2.putP hd (k := 9) (x := spPu J d q (num J d) N 26 3) (by decide) ((R2.vd hd).free (r := 60) (by decide) hd)
    have R4 := R3.putP hd (k := 8) (x := 0) (by decide) ((R3.vd hd).p53 hd (Or.inl rfl))
    refine fin X _ _ O R4 ?_ (((fr1.p (by omega)).p (by omega)).p (by omega)) rfl (by rw [gI_ne (by omega), gI_ne (by omega), gI_ne (by omega)]; exact puS_I (by omega) (by omega))
    have k70 : spPu J d q (num J d) N 70 q = J 70 q := by rw [spPu_ne (by decide)]
    have k68 : spPu J d q (num J d) N 68 q = J 68 q := by rw [spPu_ne (by decide)]
    unfold spHv
    rw [k70, if_neg c, k68]
    rfl
  · exfalso
    refine hc ?_
    rw [show (400 : Int32) = nI 400 from rfl, nI_ltI (by omega) (by omega)]; exact hN4
end SEND
