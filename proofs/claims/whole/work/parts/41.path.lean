section PATH
variable {T : Sto} {J : Rows}
theorem pI_comm {S : Sto} {a b k j : Nat} {x y : Int32} (h : a ≠ b ∨ k ≠ j) : pI (pI S a k x) b j y = pI (pI S b j y) a k x := by
  have e : gI (pI (pI S a k x) b j y) = gI (pI (pI S b j y) a k x) := by
    funext c i
    by_cases e1 : c = b
    · by_cases e2 : c = a
      · have e3 : a = b := e2.symm.trans e1
        subst e3
        subst e1
        rw [gI_eq, gI_eq, gI_eq, gI_eq, upd_at, upd_at, upd_at, upd_at]
        by_cases e4 : i = j
        · rw [if_pos e4, if_neg (by omega), if_pos e4]
        · rw [if_neg e4]
          by_cases e5 : i = k
          · rw [if_pos e5, if_pos e5]
          · rw [if_neg e5, if_neg e5, if_neg e4]
      · subst e1
        rw [gI_eq, gI_ne e2, gI_ne e2, gI_eq]
    · by_cases e2 : c = a
      · subst e2
        rw [gI_ne e1, gI_eq, gI_eq, gI_ne e1]
      · rw [gI_ne e1, gI_ne e2, gI_ne e2, gI_ne e1]
  show ((sN S, gI (pI (pI S a k x) b j y), gR S) : Sto) = (sN S, gI (pI (pI S b j y) a k x), gR S)
  rw [e]
theorem uJ_comm2 {a b i j : Nat} {x y : Int32} (h : a ≠ b ∨ i ≠ j) : uJ (uJ J a i x) b j y = uJ (uJ J b j y) a i x := by
  by_cases e : a = b
  · subst e
    funext r
    by_cases e1 : r = a
    · subst e1
      rw [uJ_at, if_pos rfl, uJ_at, if_pos rfl, uJ_at, if_pos rfl, uJ_at, if_pos rfl]
      funext c
      rw [upd_at, upd_at, upd_at, upd_at]
      by_cases e4 : c = j
      · rw [if_pos e4, if_neg (by omega), if_pos e4]
      · rw [if_neg e4]
        by_cases e5 : c = i
        · rw [if_pos e5, if_pos e5]
        · rw [if_neg e5, if_neg e5, if_neg e4]
    · rw [uJ_ne e1, uJ_ne e1, uJ_ne e1, uJ_ne e1]
  · exact uJ_comm e
/-- the path is another one: what it is tried with -/
def spP0 (J : Rows) (q : Nat) : Rows :=
  uJ (uJ (uJ (uJ (uJ (uJ (uJ (uJ (uJ (uJ (uJ (uJ J 26 46 1) 26 47 0) 26 48 0) 26 45 (J 67 q)) 62 1 1) 63 1 (J 67 q)) 46 1 (10 * J 26 0)) 47 1 1000000) 48 1 (J 26 3)) 49 1 (-6)) 50 1 (-6)) 51 1 (-6)
def spPV (J : Rows) (q : Nat) (n : Int32) : Rows := if J 70 q = 0 ∨ n ≤ J 55 1 ∨ J 67 q = J 26 45 then J else spP0 J q
def spPath (J : Rows) (q : Nat) (n : Int32) : Rows := if spPV J q n 26 46 = 0 ∨ ¬ J 67 q = spPV J q n 26 45 then spPV J q n else uJ (spPV J q n) 26 47 (spPV J q n 26 47 + J 68 q)
def lkC (T : Sto) (p : Nat) : Sto :=
  pI (pI (pI (pI (pI (pI (pI (pI (pI (pI (pI T 0 10 1) 0 11 0) 0 12 0) 0 9 (gI T p 3)) 23 11 1) 25 1 (10 * gI T 0 5)) 25 2 1000000) 25 3 (gI T 0 4)) 25 4 (-6)) 25 5 (-6)) 25 6 (-6)
def lkV (T : Sto) (p : Nat) : Sto := if gI T p 9 = 0 ∨ gI T p 1 ≤ gI T 23 6 ∨ gI T p 3 = gI T 0 9 then T else lkC T p
def lkS (T : Sto) (p : Nat) : Sto := if gI (lkV T p) 0 10 = 0 ∨ ¬ gI (lkV T p) p 3 = gI (lkV T p) 0 9 then lkV T p else pI (lkV T p) 0 11 (gI (lkV T p) 0 11 + gI (lkV T p) p 8)
theorem c_lookAt {p : Nat} {Q : Sto → Prop} (hF : Fx T) (hal : al T p 1) (h : Q (lkS T p)) : Cv K4_lookAtAddress [vr 0, vr 23, vr p] T Q := by
  have h79 := al79 hal
  have fin : ∀ V, lkV T p = V → ((gI V 0 10 = 0 → Q V) ∧ (¬ gI V 0 10 = 0 → ((¬ gI V p 3 = gI V 0 9 → Q V) ∧ (gI V p 3 = gI V 0 9 → Q (pI V 0 11 (gI V 0 11 + gI V p 8)))))) := by
    intro V hV
    unfold lkS at h
    rw [hV] at h
    refine ⟨fun c => ?_, fun c => ⟨fun c2 => ?_, fun c2 => ?_⟩⟩
    · rw [if_pos (Or.inl c)] at h; exact h
    · rw [if_pos (Or.inr c2)] at h; exact h
    · rw [if_neg (fun z => z.elim c (fun z => z c2))] at h; exact h
  refine e4_lookAtAddress (p1 := 23) hF (hF.sd (i := 1) (by decide)) hal ⟨fun c1 => fin T (if_pos (Or.inl c1)), fun c1 => ⟨fun c2 => fin T (if_pos (Or.inr (Or.inl c2))), fun c2 => ⟨fun c3 => fin T (if_pos (Or.inr (Or.inr c3))), fun c3 => ?_⟩⟩⟩
  have hV : lkV T p = lkC T p := if_neg (fun z => z.elim c1 (fun z => z.elim c2 c3))
  have e5 : gI (pI (pI (pI (pI (pI T 0 9 (gI T p 3)) 0 10 1) 0 11 0) 0 12 0) 23 11 1) 0 5 = gI T 0 5 := by
    rw [gI_ne (by decide), gI_eq, gI_eq, gI_eq, gI_eq, upd_at, upd_at, upd_at, upd_at, if_neg (by decide), if_neg (by decide), if_neg (by decide), if_neg (by decide)]
  have e4 : gI (pI (pI (pI (pI (pI T 0 9 (gI T p 3)) 0 10 1) 0 11 0) 0 12 0) 23 11 1) 0 4 = gI T 0 4 := by
    rw [gI_ne (by decide), gI_eq, gI_eq, gI_eq, gI_eq, upd_at, upd_at, upd_at, upd_at, if_neg (by decide), if_neg (by decide), if_neg (by decide), if_neg (by decide)]
  rw [e5, e4]
  have ec : pI (pI (pI (pI T 0 9 (gI T p 3)) 0 10 1) 0 11 0) 0 12 0 = pI (pI (pI (pI T 0 10 1) 0 11 0) 0 12 0) 0 9 (gI T p 3) := by
    rw [pI_comm (a := 0) (k := 9) (b := 0) (j := 10) (Or.inr (by decide)), pI_comm (a := 0) (k := 9) (b := 0) (j := 11) (Or.inr (by decide)), pI_comm (a := 0) (k := 9) (b := 0) (j := 12) (Or.inr (by decide))]
  rw [ec]
  have hF2 : Fx (pI (pI (pI (pI (pI T 0 10 1) 0 11 0) 0 12 0) 0 9 (gI T p 3)) 23 11 1) := hF.same rfl rfl
  exact e0_startOver (p0 := 25) hF2 (hF2.k (by decide) rfl) (fin (lkC T p) hV)
/-- another path: it is to be asked for -/
theorem Rel.newPath {x : Int32} (h : Rel T J) (hx : upTo x 50) : Rel (pI (pI T 0 9 x) 23 11 1) (uJ (uJ (uJ J 26 45 x) 62 1 1) 63 1 x) := by
  have e : ∀ r, r ≠ 26 → r ≠ 62 → r ≠ 63 → uJ (uJ (uJ J 26 45 x) 62 1 1) 63 1 x r = J r := fun r h1 h2 h3 => by rw [uJ_ne h3, uJ_ne h2, uJ_ne h1]
  have e0 : ∀ r, r ≠ 26 → uJ (uJ (uJ J 26 45 x) 62 1 1) 63 1 x r 0 = J r 0 := fun r h1 => by rw [uJ_off _ _ (Or.inr (by decide)), uJ_off _ _ (Or.inr (by decide)), uJ_ne h1]
  have g : ∀ j, j ≠ 45 → uJ (uJ (uJ J 26 45 x) 62 1 1) 63 1 x 26 j = J 26 j := fun j hj => by rw [uJ_ne (by decide), uJ_ne (by decide)]; exact uJ_off _ _ (Or.inr hj)
  have g45 : uJ (uJ (uJ J 26 45 x) 62 1 1) 63 1 x 26 45 = x := by rw [uJ_ne (by decide), uJ_ne (by decide)]; exact uJ_same
  have g62 : uJ (uJ (uJ J 26 45 x) 62 1 1) 63 1 x 62 1 = 1 := by rw [uJ_ne (by decide)]; exact uJ_same
  have g63 : uJ (uJ (uJ J 26 45 x) 62 1 1) 63 1 x 63 1 = x := uJ_same
  have hh : ∀ r, r ≠ 26 → r ≠ 63 → uJ (uJ (uJ J 26 45 x) 62 1 1) 63 1 x r = uJ J 62 1 1 r := fun r h1 h2 => by
    rw [uJ_ne h2]
    by_cases z : r = 62
    · subst z
      show upd (uJ J 26 45 x 62) 1 1 = upd (J 62) 1 1
      rw [uJ_ne (by decide)]
    · rw [uJ_ne z, uJ_ne h1, uJ_ne z]
  revert e e0 g g45 g62 g63 hh
  generalize uJ (uJ (uJ J 26 45 x) 62 1 1) 63 1 x = J'
  intro e e0 g g45 g62 g63 hh
  have nm : ∀ d, num J' d = num J d := fun d => num_of (by rw [e 44 (by decide) (by decide) (by decide)])
  have i : ∀ a, a ≠ 0 → a ≠ 23 → gI (pI (pI T 0 9 x) 23 11 1) a = gI T a := fun a h1 h2 => by rw [gI_ne h2, gI_ne h1]
  have h13 := (h.vd (d := 0) (by decide)).2.2.2.2.2.2.2.2.2.2.2.2.1
  have key : ∀ d, d < 2 → is01 (J' 62 d) ∧ (J' 62 d = 0 ∨ (d = 1 ∧ J' 63 d = J' 26 45)) := fun d hd => by
    rcases (show d = 0 ∨ d = 1 by omega) with rfl | rfl
    · rw [e0 62 (by decide)]
      refine ⟨(h.vd (d := 0) (by decide)).2.2.2.2.1, ?_⟩
      rcases h13 with z | z
      · exact Or.inl z
      · exact absurd z.1 (by decide)
    · rw [g62, g63, g45]
      exact ⟨Or.inr rfl, Or.inr ⟨rfl, rfl⟩⟩
  have hc : ∀ d, d < 2 → (d = 0 ∨ d = 1) := fun d hd => by omega
  refine h.chg (h.f.same rfl rfl) (fun d _ => nm d) (Nat.le_refl _) (fun i _ => frs_eq (e 31 (by decide) (by decide) (by decide)) i) (fun j hj => Or.inl ⟨i _ (by omega) (by omega), i _ (by omega) (by omega), fun r a b _ _ => by rw [e r (by omega) (by omega) (by omega)], fun k _ => ⟨by unfold byt; rw [e 36 (by decide) (by decide) (by decide)], by unfold cam; rw [e 37 (by decide) (by decide) (by decide)]⟩⟩)
    (fun d hd => ?_) (fun d hd => ?_) ?_ ?_
    (fun d n p hd hn hp hal => Or.inl ⟨i _ (by have := al79 hal; omega) (by have := al79 hal; omega), i _ (by omega) (by have := al79 hal; omega), i _ (by omega) (by have := al79 hal; omega), ⟨fun r a b => by rw [e r (by omega) (by omega) (by omega)], fun a w _ _ => by unfold prt; rw [e 74 (by decide) (by decide) (by decide)], fun j _ => by rw [e 75 (by decide) (by decide) (by decide)]⟩, g 0 (by decide)⟩) (fun d n hd _ => rfl) (h.n.ag (g 62 (by decide)) (fun k _ => ⟨by rw [e 76 (by decide) (by decide) (by decide)], by rw [e 77 (by decide) (by decide) (by decide)]⟩) (fun d _ => nm d) (fun _ _ => rfl) (fun _ _ _ _ => rfl))
  · rcases hc d hd with rfl | rfl
    · exact Or.inl ⟨i _ (by decide) (by decide), i _ (by decide) (by decide), fun r a b => e0 r (by omega), fun n _ => ⟨by rw [e 70 (by decide) (by decide) (by decide)], by rw [e 71 (by decide) (by decide) (by decide)], by rw [e 72 (by decide) (by decide) (by decide)]⟩⟩
    · refine Or.inr ?_
      have q := ((h.d (d := 1) (by decide)).putD (k := 11) (x := 1) (by decide) (by decide)).imp' (J' := J') ⟨fun k hk => hh _ ?_ ?_, fun k hk => hh _ ?_ ?_, fun r hr => hh _ (by omega) (by omega)⟩
      · have e1 : gI (pI (pI T 0 9 x) 23 11 1) (20 + 3 * 1) = upd (gI T (20 + 3 * 1)) 11 1 := by
          show gI (pI (pI T 0 9 x) 23 11 1) 23 = upd (gI T 23) 11 1
          rw [gI_eq, gI_ne (by decide)]
        have e2 : gI (pI (pI T 0 9 x) 23 11 1) (22 + 3 * 1) = gI T (22 + 3 * 1) := i _ (by decide) (by decide)
        rw [e1, e2]; exact q
      · have := rd_in k hk; omega
      · have := rd_in k hk; omega
      · have := rp_in k hk; omega
      · have t : ∀ k ∈ ksP, rp k ≠ 63 := by decide
        exact t k hk
  · obtain ⟨k1, k2⟩ := key d hd
    have q : ∀ r, 44 ≤ r ∧ r ≤ 65 ∧ r ≠ 62 ∧ r ≠ 63 → J' r = J r := fun r hr => e r (by omega) (by omega) (by omega)
    obtain ⟨h1, h2, h3, h4, h5, h6, h7, h8, h9, h10, h11, h12, h13, h14⟩ := h.vd hd
    unfold IvD
    rw [nm d, nm (1 - d), q 44 (by decide), q 53 (by decide), q 56 (by decide), q 58 (by decide), q 64 (by decide), q 54 (by decide), q 55 (by decide), q 57 (by decide), q 59 (by decide), q 65 (by decide), q 47 (by decide), e 73 (by decide) (by decide) (by decide)]
    exact ⟨h1, h2, h3, h4, k1, h6, h7, h8, h9, h10, h11, h12, k2, h14⟩
  · rw [gI_ne (by decide), gI_eq]
    intro k' hk'
    show upd _ 9 x k' = J' 26 (rg k')
    rw [upd_at]
    by_cases q : k' = 9
    · subst q; rw [if_pos rfl]; exact g45.symm
    · rw [if_neg q, g _ (show ¬ rg k' = 45 from fun z => q (rg_inj k' hk' 9 (by decide) z))]; exact h.g k' hk'
  · obtain ⟨h1, h2, h3, h4, h5, h6, h7, h8⟩ := h.vg
    unfold IvG
    rw [g 0 (by decide), g 1 (by decide), g 2 (by decide), g 4 (by decide), g 46 (by decide), g 44 (by decide), g45, g 62 (by decide)]
    exact ⟨h1, h2, h3, h4, h5, h6, hx, h8⟩
theorem spP0_ne {q r : Nat} (h : r ≠ 26 ∧ r ≠ 62 ∧ r ≠ 63 ∧ r ≠ 46 ∧ r ≠ 47 ∧ r ≠ 48 ∧ r ≠ 49 ∧ r ≠ 50 ∧ r ≠ 51) : spP0 J q r = J r := by
  obtain ⟨h1, h2, h3, h4, h5, h6, h7, h8, h9⟩ := h
  unfold spP0
  rw [uJ_ne h9, uJ_ne h8, uJ_ne h7, uJ_ne h6, uJ_ne h5, uJ_ne h4, uJ_ne h3, uJ_ne h2, uJ_ne h1, uJ_ne h1, uJ_ne h1, uJ_ne h1]
theorem spPV_ne {q r : Nat} {n : Int32} (h : r ≠ 26 ∧ r ≠ 62 ∧ r ≠ 63 ∧ r ≠ 46 ∧ r ≠ 47 ∧ r ≠ 48 ∧ r ≠ 49 ∧ r ≠ 50 ∧ r ≠ 51) : spPV J q n r = J r := by
  unfold spPV
  split
  · rfl
  · exact spP0_ne h
theorem spPath_ne {q r : Nat} {n : Int32} (h : r ≠ 26 ∧ r ≠ 62 ∧ r ≠ 63 ∧ r ≠ 46 ∧ r ≠ 47 ∧ r ≠ 48 ∧ r ≠ 49 ∧ r ≠ 50 ∧ r ≠ 51) : spPath J q n r = J r := by
  unfold spPath
  split
  · exact spPV_ne h
  · rw [uJ_ne h.1]; exact spPV_ne h
theorem Rel.zlkC {n p : Nat} (h : Rel T J) (hn : n < num J 0) (hp : gR T (21 + 3 * 0) n = some p) : Rel (lkC T p) (spP0 J (300 * 0 + n)) := by
  obtain ⟨hv, p', hp', hal, hK⟩ := h.pk (d := 0) (by decide) hn
  rw [hp] at hp'
  cases hp'
  have e3 : gI T p 3 = J 67 (300 * 0 + n) := hK.1 3 (by decide)
  have g5 : gI T 0 5 = J 26 0 := h.g 5 (by decide)
  have g4 : gI T 0 4 = J 26 3 := h.g 4 (by decide)
  have hx : upTo (J 67 (300 * 0 + n)) 50 := hv.2.2.2.2.1
  have r1 := h.putG (k := 10) (x := 1) (by decide) (fun _ => Or.inr rfl)
  have r2 := r1.putG (k := 11) (x := 0) (by decide) (fun z => absurd z (by decide))
  have r3 := r2.putG (k := 12) (x := 0) (by decide) (fun z => absurd z (by decide))
  have r4 := r3.newPath hx
  have r5 := r4.putP (d := 1) (k := 1) (x := 10 * J 26 0) (by decide) (by decide) ((r4.vd (by decide)).free (by decide) (by decide))
  have r6 := r5.putP (d := 1) (k := 2) (x := 1000000) (by decide) (by decide) ((r5.vd (by decide)).p47 (by decide) ⟨1000000, by omega, by omega, rfl⟩)
  have r7 := r6.putP (d := 1) (k := 3) (x := J 26 3) (by decide) (by decide) ((r6.vd (by decide)).free (by decide) (by decide))
  have r8 := r7.putP (d := 1) (k := 4) (x := -6) (by decide) (by decide) ((r7.vd (by decide)).free (by decide) (by decide))
  have r9 := r8.putP (d := 1) (k := 5) (x := -6) (by decide) (by decide) ((r8.vd (by decide)).free (by decide) (by decide))
  have r10 := r9.putP (d := 1) (k := 6) (x := -6) (by decide) (by decide) ((r9.vd (by decide)).free (by decide) (by decide))
  unfold lkC
  rw [e3, g5, g4]
  exact r10
theorem lkC_hi {p a : Nat} (h : 79 ≤ a) : gI (lkC T p) a = gI T a := by
  unfold lkC
  rw [gI_ne (by omega), gI_ne (by omega), gI_ne (by omega), gI_ne (by omega), gI_ne (by omega), gI_ne (by omega), gI_ne (by omega), gI_ne (by omega), gI_ne (by omega), gI_ne (by omega), gI_ne (by omega)]
theorem lkV_hi {p a : Nat} (h : 79 ≤ a) : gI (lkV T p) a = gI T a := by
  unfold lkV
  split
  · rfl
  · exact lkC_hi h
theorem Rel.zlkS {n p : Nat} (h : Rel T J) (hn : n < num J 0) (hp : gR T (21 + 3 * 0) n = some p) : Rel (lkS T p) (spPath J (300 * 0 + n) (nI n)) := by
  obtain ⟨hv, p', hp', hal, hK⟩ := h.pk (d := 0) (by decide) hn
  rw [hp] at hp'
  cases hp'
  have h79 := al79 hal
  have e3 : gI T p 3 = J 67 (300 * 0 + n) := hK.1 3 (by decide)
  have e9 : gI T p 9 = J 70 (300 * 0 + n) := hK.1 9 (by decide)
  have e8 : gI T p 8 = J 68 (300 * 0 + n) := hK.1 8 (by decide)
  have e1 : gI T p 1 = nI n := hK.2.2.1
  have e6 : gI T 23 6 = J 55 1 := (h.d (d := 1) (by decide)).1 6 (by decide)
  have g9 : gI T 0 9 = J 26 45 := h.g 9 (by decide)
  have hV : Rel (lkV T p) (spPV J (300 * 0 + n) (nI n)) := by
    unfold lkV spPV
    rw [e9, e1, e6, e3, g9]
    by_cases c : J 70 (300 * 0 + n) = 0 ∨ nI n ≤ J 55 1 ∨ J 67 (300 * 0 + n) = J 26 45
    · rw [if_pos c, if_pos c]; exact h
    · rw [if_neg c, if_neg c]; exact h.zlkC hn hp
  have v10 : gI (lkV T p) 0 10 = spPV J (300 * 0 + n) (nI n) 26 46 := hV.g 10 (by decide)
  have v9 : gI (lkV T p) 0 9 = spPV J (300 * 0 + n) (nI n) 26 45 := hV.g 9 (by decide)
  have v11 : gI (lkV T p) 0 11 = spPV J (300 * 0 + n) (nI n) 26 47 := hV.g 11 (by decide)
  unfold lkS spPath
  rw [lkV_hi (a := p) h79, v10, v9, v11, e3, e8]
  by_cases c : spPV J (300 * 0 + n) (nI n) 26 46 = 0 ∨ ¬ J 67 (300 * 0 + n) = spPV J (300 * 0 + n) (nI n) 26 45
  · rw [if_pos c, if_pos c]; exact hV
  · rw [if_neg c, if_neg c]
    exact hV.putG (k := 11) (by decide) (fun z => absurd z (by decide))
theorem lkS_ev {p : Nat} : Ev T (lkS T p) := by
  have hC : Ev T (lkC T p) := by
    unfold lkC
    exact (((((((((((Ev.rf.p (by decide)).p (by decide)).p (by decide)).p (by decide)).p (by decide)).p (by decide)).p (by decide)).p (by decide)).p (by decide)).p (by decide)).p (by decide))
  have hV : Ev T (lkV T p) := by
    unfold lkV
    split
    · exact Ev.rf
    · exact hC
  unfold lkS
  split
  · exact hV
  · exact hV.p (by decide)
/-- it is the same whether the receiver owes before or behind -/
theorem lkS_7 {p : Nat} {x : Int32} (h : 79 ≤ p) : lkS (pI T 23 7 x) p = pI (lkS T p) 23 7 x := by
  have r : ∀ a k, (a ≠ 23 ∨ k ≠ 7) → gI (pI T 23 7 x) a k = gI T a k := fun a k ha => by
    rw [gI_pI]
    by_cases z : a = 23
    · subst z; rw [if_pos rfl, upd_at, if_neg (by omega)]
    · rw [if_neg z]
  have hC : lkC (pI T 23 7 x) p = pI (lkC T p) 23 7 x := by
    unfold lkC
    rw [r p 3 (Or.inl (by omega)), r 0 5 (Or.inl (by decide)), r 0 4 (Or.inl (by decide))]
    rw [pI_comm (a := 23) (k := 7) (b := 0) (j := 10) (Or.inl (by decide)), pI_comm (a := 23) (k := 7) (b := 0) (j := 11) (Or.inl (by decide)), pI_comm (a := 23) (k := 7) (b := 0) (j := 12) (Or.inl (by decide)), pI_comm (a := 23) (k := 7) (b := 0) (j := 9) (Or.inl (by decide)), pI_comm (a := 23) (k := 7) (b := 23) (j := 11) (Or.inr (by decide)), pI_comm (a := 23) (k := 7) (b := 25) (j := 1) (Or.inl (by decide)), pI_comm (a := 23) (k := 7) (b := 25) (j := 2) (Or.inl (by decide)), pI_comm (a := 23) (k := 7) (b := 25) (j := 3) (Or.inl (by decide)), pI_comm (a := 23) (k := 7) (b := 25) (j := 4) (Or.inl (by decide)), pI_comm (a := 23) (k := 7) (b := 25) (j := 5) (Or.inl (by decide)), pI_comm (a := 23) (k := 7) (b := 25) (j := 6) (Or.inl (by decide))]
  have hV : lkV (pI T 23 7 x) p = pI (lkV T p) 23 7 x := by
    unfold lkV
    rw [r p 9 (Or.inl (by omega)), r p 1 (Or.inl (by omega)), r 23 6 (Or.inr (by decide)), r p 3 (Or.inl (by omega)), r 0 9 (Or.inl (by decide))]
    split
    · rfl
    · exact hC
  have r' : ∀ a k, (a ≠ 23 ∨ k ≠ 7) → gI (pI (lkV T p) 23 7 x) a k = gI (lkV T p) a k := fun a k ha => by
    rw [gI_pI]
    by_cases z : a = 23
    · subst z; rw [if_pos rfl, upd_at, if_neg (by omega)]
    · rw [if_neg z]
  unfold lkS
  rw [hV, r' 0 10 (Or.inl (by decide)), r' p 3 (Or.inl (by omega)), r' 0 9 (Or.inl (by decide)), r' 0 11 (Or.inl (by decide)), r' p 8 (Or.inl (by omega))]
  split
  · rfl
  · exact pI_comm (Or.inl (by decide))
/-- rows that the path does not touch, put before or behind -/
theorem spPath_uJ {q a k : Nat} {n x : Int32} (ha : a = 56 ∨ a = 73) : spPath (uJ J a k x) q n = uJ (spPath J q n) a k x := by
  have e : ∀ r, r ≠ a → uJ J a k x r = J r := fun r hr => uJ_ne hr
  have h0 : spP0 (uJ J a k x) q = uJ (spP0 J q) a k x := by
    unfold spP0
    rw [e 67 (by omega), e 26 (by omega)]
    rw [uJ_comm (a := a) (b := 26) (by omega), uJ_comm (a := a) (b := 26) (by omega), uJ_comm (a := a) (b := 26) (by omega), uJ_comm (a := a) (b := 26) (by omega), uJ_comm (a := a) (b := 62) (by omega), uJ_comm (a := a) (b := 63) (by omega), uJ_comm (a := a) (b := 46) (by omega), uJ_comm (a := a) (b := 47) (by omega), uJ_comm (a := a) (b := 48) (by omega), uJ_comm (a := a) (b := 49) (by omega), uJ_comm (a := a) (b := 50) (by omega), uJ_comm (a := a) (b := 51) (by omega)]
  have hV : spPV (uJ J a k x) q n = uJ (spPV J q n) a k x := by
    unfold spPV
    rw [e 70 (by omega), e 55 (by omega), e 67 (by omega), e 26 (by omega)]
    split
    · rfl
    · exact h0
  unfold spPath
  rw [hV, e 67 (by omega), e 68 (by omega), uJ_ne (show (26 : Nat) ≠ a by omega)]
  split
  · rfl
  · exact uJ_comm (by omega)
/-- the reference looks at the path -/
theorem m_lookAtPath {q : Nat} {n : Int32} {Q : Sto → Prop} (hF : Fx T) (hq : q < 600) (h73 : J 73 q = 0) (h : Q (wJ T (spPath J q n))) : Cv K5_lookAtPath [vr 26, vi (nI q), vi n] (wJ T J) Q := by
  have tq : (nI q).toNatClampNeg = q := tnN (by omega)
  refine e5_lookAtPath (FxJ hF) (fun X O => ?_)
  have fin : ∀ V : Rows, spPV J q n = V → V 73 q = 0 ∧ V 67 q = J 67 q ∧ V 68 q = J 68 q → WP X 138 [(0, vr 26), (1, vi (nI q))] [] (wJ T V) 0 0 := by
    intro V hV hr
    obtain ⟨r1, r2, r3⟩ := hr
    refine s5_lookAtPath_138 (S := wJ T V) (FxJ hF) (Nat.le_refl _) O ⟨ixN hq (by decide), fun w hw => ?_⟩
    rw [tq, gI_wm (a := 26) (by decide), gI_wm (a := 73) (by decide), gI_wm (a := 67) (by decide), gI_wm (a := 68) (by decide), r1, r2, r3] at hw
    rw [gI_wm (a := 26) (by decide), pI_wJ (by decide)]
    unfold spPath at h
    rw [hV] at h
    have id47 : uJ V 26 47 (V 26 47 + 0) = V := by rw [show V 26 47 + 0 = V 26 47 by simp]; exact uJ_id
    by_cases c1 : V 26 46 = 0
    · rw [if_pos (Or.inl c1)] at h
      rw [if_pos c1] at hw
      rw [hw, id47]; exact h
    · rw [if_neg c1, if_pos rfl] at hw
      by_cases c2 : J 67 q = V 26 45
      · rw [if_neg (fun z => z.elim c1 (fun z => z c2))] at h
        rw [if_pos c2] at hw
        rw [hw]; exact h
      · rw [if_pos (Or.inr c2)] at h
        rw [if_neg c2] at hw
        rw [hw, id47]; exact h
  rw [tq, gI_wm (a := 70) (by decide), gI_wm (a := 73) (by decide), gI_wm (a := 55) (by decide), gI_wm (a := 67) (by decide), gI_wm (a := 26) (by decide)]
  refine ⟨ixN hq (by decide), fun c1 => fin J (if_pos (Or.inl c1)) ⟨h73, rfl, rfl⟩, fun c1 => ⟨fun c => absurd h73 c, fun _ => ⟨fun c2 => fin J (if_pos (Or.inr (Or.inl c2))) ⟨h73, rfl, rfl⟩, fun c2 => ⟨fun c3 => fin J (if_pos (Or.inr (Or.inr c3))) ⟨h73, rfl, rfl⟩, fun c3 => ?_⟩⟩⟩⟩
  rw [pI_wJ (by decide), pI_wJ (by decide), pI_wJ (by decide), pI_wJ (by decide), pI_wJ (by decide), pI_wJ (by decide), pI_wJ (by decide), pI_wJ (by decide), pI_wJ (by decide), pI_wJ (by decide), pI_wJ (by decide), pI_wJ (by decide)]
  have hV : spPV J q n = spP0 J q := if_neg (fun z => z.elim c1 (fun z => z.elim c2 c3))
  have hJ : uJ (uJ (uJ (uJ (uJ (uJ (uJ (uJ (uJ (uJ (uJ (uJ J 26 45 (J 67 q)) 26 46 1) 62 1 1) 63 1 (J 67 q)) 46 1 (10 * J 26 0)) 47 1 1000000) 48 1 (J 26 3)) 49 1 (-6)) 50 1 (-6)) 51 1 (-6)) 26 47 0) 26 48 0 = spP0 J q := by
    unfold spP0
    rw [uJ_comm2 (a := 51) (b := 26) (Or.inl (by decide)), uJ_comm2 (a := 50) (b := 26) (Or.inl (by decide)), uJ_comm2 (a := 49) (b := 26) (Or.inl (by decide)), uJ_comm2 (a := 48) (b := 26) (Or.inl (by decide)), uJ_comm2 (a := 47) (b := 26) (Or.inl (by decide)), uJ_comm2 (a := 46) (b := 26) (Or.inl (by decide)), uJ_comm2 (a := 63) (b := 26) (Or.inl (by decide)), uJ_comm2 (a := 62) (b := 26) (Or.inl (by decide))]
    rw [uJ_comm2 (a := 51) (b := 26) (Or.inl (by decide)), uJ_comm2 (a := 50) (b := 26) (Or.inl (by decide)), uJ_comm2 (a := 49) (b := 26) (Or.inl (by decide)), uJ_comm2 (a := 48) (b := 26) (Or.inl (by decide)), uJ_comm2 (a := 47) (b := 26) (Or.inl (by decide)), uJ_comm2 (a := 46) (b := 26) (Or.inl (by decide)), uJ_comm2 (a := 63) (b := 26) (Or.inl (by decide)), uJ_comm2 (a := 62) (b := 26) (Or.inl (by decide))]
    rw [uJ_comm2 (a := 26) (b := 26) (i := 45) (j := 46) (Or.inr (by decide)), uJ_comm2 (a := 26) (b := 26) (i := 45) (j := 47) (Or.inr (by decide)), uJ_comm2 (a := 26) (b := 26) (i := 45) (j := 48) (Or.inr (by decide))]
  rw [hJ]
  exact fin _ hV ⟨by rw [spP0_ne (by decide)]; exact h73, by rw [spP0_ne (by decide)], by rw [spP0_ne (by decide)]⟩
/-- a packet that came before changes no path -/
theorem m_lookAtPath1 {q : Nat} {n : Int32} {Q : Sto → Prop} (hF : Fx T) (hq : q < 600) (h73 : ¬ J 73 q = 0) (h : Q (wJ T J)) : Cv K5_lookAtPath [vr 26, vi (nI q), vi n] (wJ T J) Q := by
  have tq : (nI q).toNatClampNeg = q := tnN (by omega)
  refine e5_lookAtPath (FxJ hF) (fun X O => ?_)
  have fin : WP X 138 [(0, vr 26), (1, vi (nI q))] [] (wJ T J) 0 0 := by
    refine s5_lookAtPath_138 (S := wJ T J) (FxJ hF) (Nat.le_refl _) O ⟨ixN hq (by decide), fun w hw => ?_⟩
    rw [tq, gI_wm (a := 26) (by decide), gI_wm (a := 73) (by decide), if_neg h73] at hw
    have hw0 : w = 0 := by rw [hw]; split <;> rfl
    rw [gI_wm (a := 26) (by decide), pI_wJ (by decide), hw0, show J 26 47 + 0 = J 26 47 by simp, uJ_id]
    exact h
  rw [tq, gI_wm (a := 70) (by decide), gI_wm (a := 73) (by decide)]
  exact ⟨ixN hq (by decide), fun _ => fin, fun _ => ⟨fun _ => fin, fun c => absurd c h73⟩⟩
end PATH
