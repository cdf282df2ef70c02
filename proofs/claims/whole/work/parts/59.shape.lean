section SHAPE
variable {T T0 : Sto} {J K : Rows}
def rng (a b c : Int32) : Prop := (60 ≤ a.toInt ∧ a.toInt ≤ 1000) ∧ (50 ≤ b.toInt ∧ b.toInt ≤ 1000) ∧ 50 ≤ c.toInt ∧ c.toInt ≤ 4000
def spSh0 (J : Rows) (a b c : Int32) : Rows := uJ (uJ (uJ J 26 0 a) 26 1 b) 26 2 c
def spShS (K : Rows) (b : Int32) : Nat → Rows
  | 0 => K
  | i + 1 => uJ (uJ (spShS K b i) 35 i b) 40 i b
def spShD (K : Rows) (d : Nat) (a c : Int32) : Rows := uJ (uJ (uJ K 46 d (10 * a)) 57 d c) 59 d c
def spSh (J : Rows) (a b c : Int32) (n8 : Nat) : Rows := spShD (spShD (spShS (spSh0 J a b c) b n8) 0 a c) 1 a c
theorem spSh0_ne {a b c : Int32} {r : Nat} (h : r ≠ 26) : spSh0 J a b c r = J r := by unfold spSh0; rw [uJ_ne h, uJ_ne h, uJ_ne h]
theorem spShS_ne {b : Int32} {r : Nat} (h1 : r ≠ 35) (h2 : r ≠ 40) : ∀ i, spShS K b i r = K r := fun i => by
  induction i with
  | zero => rfl
  | succ i ih =>
    show uJ (uJ (spShS K b i) 35 i b) 40 i b r = K r
    rw [uJ_ne h2, uJ_ne h1]; exact ih
theorem spShD_ne {d r : Nat} {a c : Int32} (h : r ≠ 46 ∧ r ≠ 57 ∧ r ≠ 59) : spShD K d a c r = K r := by
  obtain ⟨h1, h2, h3⟩ := h
  unfold spShD
  rw [uJ_ne h3, uJ_ne h2, uJ_ne h1]
/-- what an object that was not used still has of its start -/
def Hu (J : Rows) : Prop := (∀ i, i < 8 → J 42 i = -6) ∧ ∀ d, d < 2 → J 47 d = 1000000 ∧ J 48 d = -1 ∧ J 49 d = -6 ∧ J 50 d = -6 ∧ J 51 d = -6 ∧ J 54 d = -6 ∧ J 55 d = -6 ∧ J 61 d = nI (d + 6)
theorem Rel.room {a b c : Int32} (h : Rel T J) (h0 : num J 0 = 0) (h1 : num J 1 = 0) (hr : rng a b c) : Rel (pI (pI (pI T 0 5 a) 0 6 b) 0 7 c) (spSh0 J a b c) := by
  have e : ∀ r, r ≠ 26 → spSh0 J a b c r = J r := fun r hr => spSh0_ne hr
  have g : ∀ j, j ≠ 0 → j ≠ 1 → j ≠ 2 → spSh0 J a b c 26 j = J 26 j := fun j j0 j1 j2 => by
    unfold spSh0
    rw [uJ_off _ _ (Or.inr j2), uJ_off _ _ (Or.inr j1), uJ_off _ _ (Or.inr j0)]
  have g0 : spSh0 J a b c 26 0 = a := by unfold spSh0; rw [uJ_off _ _ (Or.inr (by decide)), uJ_off _ _ (Or.inr (by decide)), uJ_same]
  have g1 : spSh0 J a b c 26 1 = b := by unfold spSh0; rw [uJ_off _ _ (Or.inr (by decide)), uJ_same]
  have g2 : spSh0 J a b c 26 2 = c := by unfold spSh0; exact uJ_same
  have i : ∀ x, x ≠ 0 → gI (pI (pI (pI T 0 5 a) 0 6 b) 0 7 c) x = gI T x := fun x hx => by rw [gI_ne hx, gI_ne hx, gI_ne hx]
  have nm : ∀ d, num (spSh0 J a b c) d = num J d := fun d => num_of (by rw [e 44 (by decide)])
  obtain ⟨⟨r1, r2⟩, ⟨r3, r4⟩, r5, r6⟩ := hr
  refine h.chg (h.f.same rfl rfl) (fun d _ => nm d) (Nat.le_refl _) (fun i _ => frs_eq (e 31 (by decide)) i) (fun j hj => Or.inl ⟨i _ (by omega), i _ (by omega), fun r a b _ _ => by rw [e r (by omega)], fun k _ => ⟨by unfold byt; rw [e 36 (by decide)], by unfold cam; rw [e 37 (by decide)]⟩⟩)
    (fun d hd => Or.inl ⟨i _ (by omega), i _ (by omega), fun r a b => by rw [e r (by omega)], fun n _ => ⟨by rw [e 70 (by decide)], by rw [e 71 (by decide)], by rw [e 72 (by decide)]⟩⟩) (fun d hd => (h.vd hd).ag (fun r a b => by rw [e r (by omega)]) (nm _) (fun n _ => by rw [e 73 (by decide)]) (g 45 (by decide) (by decide) (by decide)) (h.nle (by omega))) ?_ ?_
    (fun d n p hd hn _ _ => ?_) (fun _ _ _ _ => rfl)
    (h.n.ag (g 62 (by decide) (by decide) (by decide)) (fun i _ => ⟨by rw [e 76 (by decide)], by rw [e 77 (by decide)]⟩) (fun d _ => nm d) (fun _ _ => rfl) (fun _ _ _ _ => rfl))
  · rw [gI_eq, gI_eq, gI_eq]
    intro k hk
    have t : ∀ k ∈ ksG, k ≠ 5 → k ≠ 6 → k ≠ 7 → rg k ≠ 0 ∧ rg k ≠ 1 ∧ rg k ≠ 2 := by decide
    show upd (upd (upd (gI T 0) 5 a) 6 b) 7 c k = spSh0 J a b c 26 (rg k)
    rw [upd_at, upd_at, upd_at]
    by_cases k7 : k = 7
    · subst k7; rw [if_pos rfl]; exact g2.symm
    · rw [if_neg k7]
      by_cases k6 : k = 6
      · subst k6; rw [if_pos rfl]; exact g1.symm
      · rw [if_neg k6]
        by_cases k5 : k = 5
        · subst k5; rw [if_pos rfl]; exact g0.symm
        · obtain ⟨t1, t2, t3⟩ := t k hk k5 k6 k7
          rw [if_neg k5, g _ t1 t2 t3]; exact h.g k hk
  · obtain ⟨-, -, -, h4, h5, h6, h7, h8⟩ := h.vg
    unfold IvG
    rw [g0, g1, g2, g 4 (by decide) (by decide) (by decide), g 46 (by decide) (by decide) (by decide), g 44 (by decide) (by decide) (by decide), g 45 (by decide) (by decide) (by decide), g 62 (by decide) (by decide) (by decide)]
    obtain ⟨x, x1, x2⟩ := ofIx2 (x := a) (N := 1001) ⟨by omega, by omega⟩
    obtain ⟨y, y1, y2⟩ := ofIx2 (x := b) (N := 1001) ⟨by omega, by omega⟩
    obtain ⟨z, z1, z2⟩ := ofIx2 (x := c) (N := 4001) ⟨by omega, by omega⟩
    rw [x2, nI_toInt (by omega)] at r1 r2
    rw [y2, nI_toInt (by omega)] at r3 r4
    rw [z2, nI_toInt (by omega)] at r5 r6
    exact ⟨⟨x, by omega, by omega, x2⟩, ⟨y, by omega, by omega, y2⟩, ⟨z, by omega, by omega, z2⟩, h4, h5, h6, h7, h8⟩
  · exfalso
    rcases (show d = 0 ∨ d = 1 by omega) with rfl | rfl <;> omega
theorem c_isUnt {Q : Int32 → Sto → Prop} (hR : Rel T J) (hU : J 26 4 = 0 ↔ (∀ i, i < 8 → J 27 i = 0 ∧ J 28 i = 0 ∧ J 29 i = 0) ∧ J 44 0 = 0 ∧ J 44 1 = 0) (h0 : J 26 4 = 0 → Q 1 T) (h1 : ¬ J 26 4 = 0 → Q 0 T) : Ci K4_isUntouched [vr 0] T Q := by
  have e20 : gI T 20 3 = J 44 0 := (hR.d (d := 0) (by decide)).1 3 (by decide)
  have e23 : gI T 23 3 = J 44 1 := (hR.d (d := 1) (by decide)).1 3 (by decide)
  refine e4_isUntouched hR.f (fun X O => ?_)
  have loop : ∀ (b i : Nat), i + b = 8 → (∀ k, k < i → J 27 k = 0 ∧ J 28 k = 0 ∧ J 29 k = 0) → WP X 2 [(0, vr 0), (1, vi (nI i))] [] T 0 0 := by
    intro b
    induction b with
    | zero =>
      intro i hi hk
      obtain rfl : i = 8 := by omega
      refine s4_isUntouched_2 hR.f (Nat.le_refl _) O ⟨fun _ w4 hw => ?_, fun hc => absurd (nle (N := 8) (Nat.le_refl _) (by decide)) hc⟩
      rw [e20, e23] at hw
      rw [hw]
      by_cases c0 : J 44 0 = 0
      · rw [if_pos c0]
        by_cases c1 : J 44 1 = 0
        · rw [if_pos c1]; exact h0 (hU.mpr ⟨hk, c0, c1⟩)
        · rw [if_neg c1]; exact h1 (fun z => c1 (hU.mp z).2.2)
      · rw [if_neg c0]; exact h1 (fun z => c0 (hU.mp z).2.1)
    | succ b ih =>
      intro i hi hk
      have hi8 : i < 8 := by omega
      have s1 : gI T (3 + 2 * i) 1 = J 27 i := (hR.s hi8).1 1 (by decide)
      have s2 : gI T (3 + 2 * i) 2 = J 28 i := (hR.s hi8).1 2 (by decide)
      have s3 : gI T (3 + 2 * i) 3 = J 29 i := (hR.s hi8).1 3 (by decide)
      have iff : (if J 27 i = 0 then (if J 28 i = 0 then (if J 29 i = 0 then 1 else 0) else 0) else 0 : Int32) = 0 ↔ ¬ (J 27 i = 0 ∧ J 28 i = 0 ∧ J 29 i = 0) := by
        by_cases z1 : J 27 i = 0
        · rw [if_pos z1]
          by_cases z2 : J 28 i = 0
          · rw [if_pos z2]
            by_cases z3 : J 29 i = 0
            · rw [if_pos z3]; exact ⟨fun z => absurd z (by decide), fun z => absurd ⟨z1, z2, z3⟩ z⟩
            · rw [if_neg z3]; exact ⟨fun _ z => z3 z.2.2, fun _ => rfl⟩
          · rw [if_neg z2]; exact ⟨fun _ z => z2 z.2.1, fun _ => rfl⟩
        · rw [if_neg z1]; exact ⟨fun _ z => z1 z.1, fun _ => rfl⟩
      refine s4_isUntouched_2 hR.f (Nat.le_refl _) O ⟨fun hc => absurd hc (nge (N := 8) hi8 (by decide)), fun _ => ⟨ixN hi8 (by decide), ?_⟩⟩
      rw [tnN (by omega), s1, s2, s3, nI_suc]
      refine ⟨fun c => ih (i + 1) (by omega) (fun k hk' => ?_), fun c => h1 (fun z => iff.mp c ((hU.mp z).1 i hi8))⟩
      rcases (show k = i ∨ k < i by omega) with rfl | y
      · exact Classical.not_not.mp (fun y => c (iff.mpr y))
      · exact hk k y
  exact loop 8 0 (by omega) (fun k hk => by omega)
theorem c_shape {a b c : Int32} {n8 : Nat} {Q : Int32 → Sto → Prop} (h8 : n8 = 8) (hR : Rel T J) (hU : J 26 4 = 0 ↔ (∀ i, i < 8 → J 27 i = 0 ∧ J 28 i = 0 ∧ J 29 i = 0) ∧ J 44 0 = 0 ∧ J 44 1 = 0) (h1 : ¬ rng a b c → Q (-2) T)
    (h2 : rng a b c → (¬ J 26 4 = 0 → Q (-3) T) ∧ (J 26 4 = 0 → ∀ T', Ev T T' → Rel T' (spSh J a b c n8) → Q 1 T')) : Ci K4_shape [vr 0, vi a, vi b, vi c] T Q := by
  have lt : ∀ (x : Int32) (n : Nat), n < 2 ^ 31 → (x < nI n ↔ x.toInt < n) := fun x n hn => l32_lt x n hn
  refine e4_shape hR.f (fun X O => ⟨fun z => h1 (fun y => ?_), fun z1 => ⟨fun z => h1 (fun y => ?_), fun z2 => ⟨fun z => h1 (fun y => ?_), fun z3 => ⟨fun z => h1 (fun y => ?_), fun z4 => ⟨fun z => h1 (fun y => ?_), fun z5 => ⟨fun z6 => ?_, fun z => h1 (fun y => ?_)⟩⟩⟩⟩⟩⟩)
  · have := (l32_lt a 60 (by decide)).mp z; have := y.1.1; omega
  · have := (l32_gt a 1000 (by decide)).mp z; have := y.1.2; omega
  · have := (l32_lt b 50 (by decide)).mp z; have := y.2.1.1; omega
  · have := (l32_gt b 1000 (by decide)).mp z; have := y.2.1.2; omega
  · have := (l32_lt c 50 (by decide)).mp z; have := y.2.2.1; omega
  · have hr : rng a b c := by
      have a1 : ¬ a.toInt < 60 := fun y => z1 ((l32_lt a 60 (by decide)).mpr y)
      have a2 : ¬ (1000 : Int) < a.toInt := fun y => z2 ((l32_gt a 1000 (by decide)).mpr y)
      have a3 : ¬ b.toInt < 50 := fun y => z3 ((l32_lt b 50 (by decide)).mpr y)
      have a4 : ¬ (1000 : Int) < b.toInt := fun y => z4 ((l32_gt b 1000 (by decide)).mpr y)
      have a5 : ¬ c.toInt < 50 := fun y => z5 ((l32_lt c 50 (by decide)).mpr y)
      have a6 : c.toInt ≤ 4000 := (l32_le c 4000 (by decide)).mp z6
      exact ⟨⟨by omega, by omega⟩, ⟨by omega, by omega⟩, by omega, a6⟩
    obtain ⟨k1, k2⟩ := h2 hr
    refine c_isUnt hR hU (fun hu => ⟨fun _ => ?_, fun y => absurd y (by decide)⟩) (fun hu => ⟨fun y => absurd rfl y, fun _ => k1 hu⟩)
    have hQ := k2 hu
    obtain ⟨-, u0, u1⟩ := hU.mp hu
    have n0 : num J 0 = 0 := by unfold num; rw [u0]; rfl
    have n1 : num J 1 = 0 := by unfold num; rw [u1]; rfl
    have R0 := hR.room n0 n1 hr
    have E0 : Ev T (pI (pI (pI T 0 5 a) 0 6 b) 0 7 c) := ((Ev.rf.p (by decide)).p (by decide)).p (by decide)
    have hb : upTo b 2000 := by
      obtain ⟨y, y1, y2⟩ := ofIx2 (x := b) (N := 1001) ⟨by have := hr.2.1.1; omega, by have := hr.2.1.2; omega⟩
      exact ⟨y, by omega, y2⟩
    have hc : upTo c 8000 := by
      obtain ⟨y, y1, y2⟩ := ofIx2 (x := c) (N := 4001) ⟨by have := hr.2.2.1; omega, by have := hr.2.2.2; omega⟩
      exact ⟨y, by omega, y2⟩
    unfold spSh at hQ
    -- the sides
    have side : ∀ (d : Nat) (U : Sto) (A : Rows), d < 2 → Ev T U → Rel U A → (∀ U', Ev T U' → Rel U' (spShD A d a c) → WP X 108 [(0, vr 0), (1, vi a), (3, vi c), (4, vi (nI (d + 1)))] [] U' 0 0) → WP X 108 [(0, vr 0), (1, vi a), (3, vi c), (4, vi (nI d))] [] U 0 0 := by
      intro d U A hd E R go
      refine s4_shape_108 R.f (by rw [E.2.1]; exact Nat.le_refl _) O ⟨fun y => absurd y (nge (N := 2) hd (by decide)), fun _ => ⟨ixN hd (by decide), ?_⟩⟩
      rw [tnN (by omega), nI_suc, show 20 + 3 * d + 2 = 22 + 3 * d by omega]
      have R1 := R.putP hd (k := 1) (x := 10 * a) (by decide) ((R.vd hd).free (r := 46) (by decide) hd)
      have R2 := R1.putD hd (k := 8) (x := c) (by decide) (by decide) ((R1.vd hd).p57 hd hc)
      have R3 := R2.putD hd (k := 9) (x := c) (by decide) (by decide) ((R2.vd hd).p59 hd hc)
      exact go _ (((E.p (by omega)).p (by omega)).p (by omega)) R3
    have loop : ∀ (m i : Nat) (U : Sto), i + m = n8 → Ev T U → Rel U (spShS (spSh0 J a b c) b i) → WP X 70 [(0, vr 0), (1, vi a), (2, vi b), (3, vi c), (4, vi (nI i))] [] U 0 0 := by
      intro m
      induction m with
      | zero =>
        intro i U hi E R
        obtain rfl : i = n8 := by omega
        refine s4_shape_70 R.f (by rw [E.2.1]; exact Nat.le_refl _) O ⟨fun _ => ?_, fun y => absurd (nle (N := 8) (by omega) (by omega)) y⟩
        refine side 0 U _ (by decide) E R (fun U1 E1 R1 => side 1 U1 _ (by decide) E1 R1 (fun U2 E2 R2 => ?_))
        exact s4_shape_108 R2.f (by rw [E2.2.1]; exact Nat.le_refl _) O ⟨fun _ => hQ U2 E2 R2, fun y => absurd (by decide) y⟩
      | succ m ih =>
        intro i U hi E R
        have hi8 : i < 8 := by omega
        refine s4_shape_70 R.f (by rw [E.2.1]; exact Nat.le_refl _) O ⟨fun y => absurd y (nge (N := 8) hi8 (by decide)), fun _ => ⟨ixN hi8 (by decide), ?_⟩⟩
        rw [tnN (by omega), nI_suc]
        have R1 := R.putS hi8 (k := 8) (x := b) (by decide) ((R.vs hi8).p35 hb)
        have R2 := R1.putS hi8 (k := 13) (x := b) (by decide) ((R1.vs hi8).p40 hb)
        exact ih (i + 1) _ (by omega) ((E.p (by omega)).p (by omega)) R2
    exact loop n8 0 _ (by omega) E0 R0
  · have h6 : ¬ c.toInt ≤ 4000 := fun v => z ((l32_le c 4000 (by decide)).mpr v)
    have := y.2.2.2; omega
/-- the reference begins: over an object that was not used most of it changes nothing -/
theorem m_begin {a b c : Int32} {n8 : Nat} {Q : Sto → Prop} (h8 : n8 = 8) (hF : Fx T) (hH : Hu K) (e0 : K 26 0 = a) (e1 : K 26 1 = b) (e2 : K 26 2 = c) (h : Q (wJ T (spShD (spShD (spShS K b n8) 0 a c) 1 a c))) : Cv K5_begin [vr 26] (wJ T K) Q := by
  refine e5_begin (FxJ hF) (fun X O => ?_)
  have same : ∀ (A : Rows) (r k : Nat) (x : Int32), A r k = x → uJ A r k x = A := fun A r k x hx => by rw [← hx]; exact uJ_id
  have side : ∀ (d : Nat) (A : Rows), d < 2 → Hu A → A 26 0 = a → A 26 2 = c → WP X 44 [(0, vr 26), (1, vi (nI (d + 1)))] [] (wJ T (spShD A d a c)) 0 0 → WP X 44 [(0, vr 26), (1, vi (nI d))] [] (wJ T A) 0 0 := by
    intro d A hd hA a0 a2 go
    obtain ⟨h47, h48, h49, h50, h51, h54, h55, h61⟩ := hA.2 d hd
    refine s5_begin_44 (S := wJ T A) (FxJ hF) (Nat.le_refl _) O ⟨fun y => absurd y (nge (N := 2) hd (by decide)), fun _ => ⟨ixN hd (by decide), ?_⟩⟩
    rw [tnN (show d < 2 ^ 31 by omega), gI_wm (a := 26) (by decide), a0, a2, nI_suc, pI_wJ (by decide), pI_wJ (by decide), pI_wJ (by decide), pI_wJ (by decide), pI_wJ (by decide), pI_wJ (by decide), pI_wJ (by decide), pI_wJ (by decide), pI_wJ (by decide), pI_wJ (by decide), pI_wJ (by decide)]
    have er : ∀ r, r ≠ 46 → uJ A 46 d (10 * a) r d = A r d := fun r hr => by rw [uJ_ne hr]
    rw [same (uJ A 46 d (10 * a)) 47 d 1000000 (by rw [er 47 (by decide)]; exact h47), same (uJ A 46 d (10 * a)) 48 d (-1) (by rw [er 48 (by decide)]; exact h48), same (uJ A 46 d (10 * a)) 49 d (-6) (by rw [er 49 (by decide)]; exact h49), same (uJ A 46 d (10 * a)) 50 d (-6) (by rw [er 50 (by decide)]; exact h50), same (uJ A 46 d (10 * a)) 51 d (-6) (by rw [er 51 (by decide)]; exact h51), same (uJ A 46 d (10 * a)) 54 d (-6) (by rw [er 54 (by decide)]; exact h54), same (uJ A 46 d (10 * a)) 55 d (-6) (by rw [er 55 (by decide)]; exact h55)]
    have e61 : uJ (uJ (uJ A 46 d (10 * a)) 57 d c) 59 d c 61 d = nI d + 6 := by rw [uJ_ne (by decide), uJ_ne (by decide), uJ_ne (by decide), h61]; exact (nI_add d 6).symm
    rw [same _ 61 d (nI d + 6) e61]
    exact go
  have kS : ∀ i, spShS K b i 26 = K 26 := fun i => spShS_ne (by decide) (by decide) i
  have HS : ∀ i, Hu (spShS K b i) := fun i => by
    unfold Hu
    rw [spShS_ne (r := 42) (by decide) (by decide), spShS_ne (r := 47) (by decide) (by decide), spShS_ne (r := 48) (by decide) (by decide), spShS_ne (r := 49) (by decide) (by decide), spShS_ne (r := 50) (by decide) (by decide), spShS_ne (r := 51) (by decide) (by decide), spShS_ne (r := 54) (by decide) (by decide), spShS_ne (r := 55) (by decide) (by decide), spShS_ne (r := 61) (by decide) (by decide)]
    exact hH
  have HD : ∀ (A : Rows) d, Hu A → Hu (spShD A d a c) := fun A d hA => by
    unfold Hu
    rw [spShD_ne (r := 42) (by decide), spShD_ne (r := 47) (by decide), spShD_ne (r := 48) (by decide), spShD_ne (r := 49) (by decide), spShD_ne (r := 50) (by decide), spShD_ne (r := 51) (by decide), spShD_ne (r := 54) (by decide), spShD_ne (r := 55) (by decide), spShD_ne (r := 61) (by decide)]
    exact hA
  have last : ∀ B : Rows, Q (wJ T B) → WP X 44 [(0, vr 26), (1, vi (nI (1 + 1)))] [] (wJ T B) 0 0 := fun B hB =>
    s5_begin_44 (S := wJ T B) (FxJ hF) (Nat.le_refl _) O ⟨fun _ => hB, fun y => absurd (by decide) y⟩
  have loop : ∀ (m i : Nat), i + m = n8 → WP X 2 [(0, vr 26), (1, vi (nI i))] [] (wJ T (spShS K b i)) 0 0 := by
    intro m
    induction m with
    | zero =>
      intro i hi
      obtain rfl : i = n8 := by omega
      have k1 := kS i
      have k2 := HS i
      revert h k1 k2
      generalize spShS K b i = A
      intro h k1 k2
      refine s5_begin_2 (S := wJ T A) (FxJ hF) (Nat.le_refl _) O ⟨fun _ => ?_, fun y => absurd (nle (N := 8) (by omega) (by omega)) y⟩
      refine side 0 A (by decide) k2 (by rw [k1]; exact e0) (by rw [k1]; exact e2) ?_
      refine side 1 (spShD A 0 a c) (by decide) (HD A 0 k2) (by rw [spShD_ne (by decide), k1]; exact e0) (by rw [spShD_ne (by decide), k1]; exact e2) ?_
      exact last _ h
    | succ m ih =>
      intro i hi
      have hi8 : i < 8 := by omega
      have ih2 := ih (i + 1) (by omega)
      have k1 := kS i
      have k2 := (HS i).1 i hi8
      have ek : spShS K b (i + 1) = uJ (uJ (spShS K b i) 35 i b) 40 i b := rfl
      rw [ek] at ih2
      revert ih2 k1 k2
      generalize spShS K b i = A
      intro ih2 k1 k2
      refine s5_begin_2 (S := wJ T A) (FxJ hF) (Nat.le_refl _) O ⟨fun y => absurd y (nge (N := 8) hi8 (by decide)), fun _ => ⟨ixN hi8 (by decide), ?_⟩⟩
      rw [tnN (show i < 2 ^ 31 by omega), gI_wm (a := 26) (by decide), k1, e1, nI_suc, pI_wJ (by decide), pI_wJ (by decide), pI_wJ (by decide), same (uJ (uJ A 35 i b) 40 i b) 42 i (-6) (by rw [uJ_ne (by decide), uJ_ne (by decide)]; exact k2)]
      exact ih2
  exact loop n8 0 (by omega)
theorem m_shape {a b c : Int32} {n8 : Nat} {Q : Int32 → Sto → Prop} (h8 : n8 = 8) (hF : Fx T) (hH : J 26 4 = 0 → Hu J) (h1 : ¬ rng a b c → Q (-2) (wJ T J)) (h2 : rng a b c → (¬ J 26 4 = 0 → Q (-3) (wJ T J)) ∧ (J 26 4 = 0 → Q 1 (wJ T (spSh J a b c n8)))) : Ci K5_shape [vr 26, vi a, vi b, vi c] (wJ T J) Q := by
  refine e5_shape (FxJ hF) ?_
  simp only [ite01, Classical.not_not, ti64, l64_60, l64_50, l64_1000, l64_4000]
  refine ⟨fun z => h1 (fun y => z y.1), fun z1 => ⟨fun z => h1 (fun y => z y.2.1), fun z2 => ⟨fun z3 => ?_, fun z => h1 (fun y => z y.2.2)⟩⟩⟩
  obtain ⟨k1, k2⟩ := h2 ⟨z1, z2, z3⟩
  rw [gI_wm (a := 26) (by decide), pI_wJ (by decide), pI_wJ (by decide), pI_wJ (by decide)]
  refine ⟨fun hu => ?_, k1⟩
  have hQ := k2 hu
  unfold spSh at hQ
  have hH' : Hu (spSh0 J a b c) := by
    unfold Hu
    rw [spSh0_ne (r := 42) (by decide), spSh0_ne (r := 47) (by decide), spSh0_ne (r := 48) (by decide), spSh0_ne (r := 49) (by decide), spSh0_ne (r := 50) (by decide), spSh0_ne (r := 51) (by decide), spSh0_ne (r := 54) (by decide), spSh0_ne (r := 55) (by decide), spSh0_ne (r := 61) (by decide)]
    exact hH hu
  refine m_begin (K := spSh0 J a b c) h8 hF hH' ?_ ?_ ?_ hQ
  · unfold spSh0; rw [uJ_off _ _ (Or.inr (by decide)), uJ_off _ _ (Or.inr (by decide)), uJ_same]
  · unfold spSh0; rw [uJ_off _ _ (Or.inr (by decide)), uJ_same]
  · unfold spSh0; exact uJ_same
end SHAPE
