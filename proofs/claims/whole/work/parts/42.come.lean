section COME
variable {T U : Sto} {J K : Rows}
theorem lkS_p {p a : Nat} (h : 79 ≤ a) : gI (lkS T p) a = gI T a := by
  unfold lkS
  split
  · exact lkV_hi h
  · rw [gI_ne (by omega)]; exact lkV_hi h
theorem lkS_6 {p : Nat} : gI (lkS T p) 23 6 = gI T 23 6 := by
  have hC : gI (lkC T p) 23 6 = gI T 23 6 := by
    unfold lkC
    rw [gI_ne (by decide), gI_ne (by decide), gI_ne (by decide), gI_ne (by decide), gI_ne (by decide), gI_ne (by decide), gI_eq, upd_at, if_neg (by decide), gI_ne (by decide), gI_ne (by decide), gI_ne (by decide), gI_ne (by decide)]
  have hV : gI (lkV T p) 23 6 = gI T 23 6 := by
    unfold lkV
    split
    · rfl
    · exact hC
  unfold lkS
  split
  · exact hV
  · rw [gI_ne (by decide)]; exact hV
/-- the parts of a PACKET come, one after the other -/
def spPCs (J : Rows) (d q : Nat) : Nat → Rows
  | 0 => J
  | k + 1 => spPC (spPCs J d q k) d q (prt J q k 0) (prt J q k 1) (prt J q k 2) (prt J q k 3)
def zTd : List Nat := [30, 33, 36, 41, 58, 62, 63, 64, 65, 72, 45, 46, 47, 48, 78, 71, 34, 54, 49, 50, 51, 52]
def zPC : List Nat := [30, 33, 36, 41, 58, 62, 63, 64, 65, 72, 45, 46, 47, 48, 78, 71, 34, 54, 49, 50, 51, 52, 35, 57, 37, 38, 42, 43, 26]
theorem zTd_S : ∀ r, ¬ r ∈ zTd → ¬ r ∈ zNS ∧ r ≠ 78 ∧ r ≠ 71 ∧ r ≠ 34 ∧ r ≠ 54 ∧ r ≠ 49 ∧ r ≠ 50 ∧ r ≠ 51 ∧ r ≠ 52 ∧ r ≠ 45 ∧ r ≠ 46 ∧ r ≠ 36 ∧ r ≠ 33 := fun r h => by
  simp only [zTd, zNS, List.mem_cons, List.not_mem_nil, or_false, not_or] at h ⊢
  omega
theorem zPC_T : ∀ r, ¬ r ∈ zPC → ¬ r ∈ zTd ∧ r ≠ 35 ∧ r ≠ 57 ∧ r ≠ 37 ∧ r ≠ 38 ∧ r ≠ 42 ∧ r ≠ 43 ∧ r ≠ 26 ∧ r ≠ 64 ∧ r ≠ 65 := fun r h => by
  simp only [zTd, zPC, List.mem_cons, List.not_mem_nil, or_false, not_or] at h ⊢
  omega
theorem spTd_ne {d m r : Nat} {lo hi : Nat → Nat} (h : ¬ r ∈ zTd) : spTd J d lo hi m r = J r := by
  obtain ⟨a1, a2, a3, a4, a5, a6, a7, a8, a9, a10, a11, a12, a13⟩ := zTd_S r h
  unfold spTd spLook
  show spLL _ _ _ _ _ r = _
  rw [spLL_ne a1]
  have hA : uJ (spT (w78 J (nowF J d lo hi m)) d (num J d)) 54 d (if J 54 d < nI (hi 0) then nI (hi 0) else J 54 d) r = J r := by
    rw [uJ_ne a5, spT_ne a10 a11 a3 ⟨a12, a4, a13⟩, w78_ne a2]
  have hC : (if (w78 J (nowF J d lo hi m)) 78 (hi 0) = 0 ∨ J 70 (300 * d + hi 0) = 0 then uJ (spT (w78 J (nowF J d lo hi m)) d (num J d)) 54 d (if J 54 d < nI (hi 0) then nI (hi 0) else J 54 d) else spM (uJ (spT (w78 J (nowF J d lo hi m)) d (num J d)) 54 d (if J 54 d < nI (hi 0) then nI (hi 0) else J 54 d)) d (J 26 3 - J 66 (300 * d + hi 0))) r = J r := by
    split
    · exact hA
    · rw [spM_ne a6 a7 a8]; exact hA
  split
  · exact hC
  · rw [uJ_ne a9]; exact hC
theorem spPC_ne {d q r : Nat} {kind a b c : Int32} (h : ¬ r ∈ zPC) : spPC J d q kind a b c r = J r := by
  obtain ⟨a1, a2, a3, a4, a5, a6, a7, a8, a9, a10⟩ := zPC_T r h
  unfold spPC
  split
  · exact spTd_ne a1
  split
  · exact uJ_ne a2
  split
  · exact uJ_ne a3
  split
  · unfold spBC
    split
    · exact spCm_ne a4 a5
    · rw [uJ_ne a6]; exact spCm_ne a4 a5
  split
  · exact uJ_ne a7
  split
  · rw [uJ_ne a10, uJ_ne a9]
  split
  · split
    · exact uJ_ne a8
    · rfl
  · rfl
theorem spPCs_ne {d q m r : Nat} (h : ¬ r ∈ zPC) : spPCs J d q m r = J r := by
  induction m with
  | zero => rfl
  | succ m ih => exact (spPC_ne h).trans ih
theorem spPCs_prt {d q m k w : Nat} : prt (spPCs J d q m) q k w = prt J q k w := by unfold prt; rw [spPCs_ne (by decide)]
/-- the class takes the parts -/
theorem c_takeParts {d nn p m : Nat} {Q : Sto → Prop} (hR : Rel T J) (hd : d < 2) (hn : nn < num J (1 - d)) (hp : gR T (21 + 3 * (1 - d)) nn = some p) (hm : ntn (J 69 (300 * (1 - d) + nn)) = m) (h : ∀ T', Ev T T' → Rel T' (spPCs J d (300 * (1 - d) + nn) m) → Q T') : Cv K4_takeParts [vr 0, vr (20 + 3 * d), vr p] T Q := by
  obtain ⟨hv, p', hp', hal, hK⟩ := hR.pk (show 1 - d < 2 by omega) hn
  rw [hp] at hp'
  cases hp'
  obtain ⟨-, -, -, -, -, -, ⟨m', m1, m2, m3, m4⟩, -⟩ := hv
  have mm : m' = m := by rw [← hm, m3]; exact (ntn_nI (by omega)).symm
  subst mm
  refine e4_takeParts hR.f (hR.f.sd hd) hal (fun X O => ?_)
  have c44 : ∀ k e, num (spPCs J d (300 * (1 - d) + nn) k) e = num J e := fun k e => num_of (by rw [spPCs_ne (by decide)])
  have loop : ∀ (b k : Nat) (T' : Sto), k + b = m' → Ev T T' → Rel T' (spPCs J d (300 * (1 - d) + nn) k) → WP X 2 [(0, vr 0), (1, vr (20 + 3 * d)), (2, vr p), (3, vi (nI k))] [] T' 0 0 := by
    intro b
    induction b with
    | zero =>
      intro k T' hk E R
      have hkm : k = m' := by omega
      subst hkm
      have hal' : al T' p 1 := hal.mono (by rw [E.2.1]; exact Nat.le_refl _)
      obtain ⟨-, p2, hp2, -, hK2⟩ := R.pk (show 1 - d < 2 by omega) (by rw [c44]; exact hn)
      rw [E.2.2, hp] at hp2
      cases hp2
      have e7 : gI T' p 7 = nI k := by
        have : gI T' p 7 = spPCs J d (300 * (1 - d) + nn) k 69 (300 * (1 - d) + nn) := hK2.1 7 (by decide)
        rw [this, spPCs_ne (by decide)]; exact m3
      refine s4_takeParts_2 R.f (by rw [E.2.1]; exact Nat.le_refl _) O (R.f.sd hd) hal' ⟨fun _ => h T' E R, fun hc => ?_⟩
      rw [e7] at hc
      exact absurd (nle (Nat.le_refl _) (by omega)) hc
    | succ b ih =>
      intro k T' hk E R
      refine c_comePart R hd (by rw [c44]; exact hn) (by rw [E.2.2]; exact hp) (by rw [E.2.1]; exact Nat.le_refl _) O (by rw [spPCs_ne (by decide), m3, nI_ltI (by omega) (by omega)]; omega) (by omega) (fun T2 E2 R2 => ih (k + 1) T2 (by omega) (E.tr E2) ?_)
      rw [spPCs_prt, spPCs_prt, spPCs_prt, spPCs_prt] at R2
      exact R2
  exact loop m' 0 T (by omega) Ev.rf hR
/-- the rows while a PACKET comes -/
def kC1 (K : Rows) (d q : Nat) : Rows := if K 70 q = 0 then K else uJ K 56 d 1
def kMx (K : Rows) (d : Nat) (n : Int32) : Int32 := if K 55 d < n then n else K 55 d
def kC3 (K : Rows) (d q : Nat) (n : Int32) : Rows := uJ (uJ (if d = 1 then spPath (kC1 K d q) q n else kC1 K d q) 73 q 1) 55 d (kMx K d n)
theorem kC3_0 {d q : Nat} {n : Int32} (h : K 70 q = 0) : kC3 K d q n = uJ (if d = 1 then spPath (uJ K 73 q 1) q n else uJ K 73 q 1) 55 d (kMx K d n) := by
  unfold kC3 kC1
  rw [if_pos h]
  by_cases z : d = 1
  · rw [if_pos z, if_pos z, spPath_uJ (Or.inr rfl)]
  · rw [if_neg z, if_neg z]
theorem kC3_1 {d q : Nat} {n : Int32} (h : ¬ K 70 q = 0) : kC3 K d q n = uJ (uJ (if d = 1 then spPath (uJ K 73 q 1) q n else uJ K 73 q 1) 55 d (kMx K d n)) 56 d 1 := by
  unfold kC3 kC1
  rw [if_neg h]
  by_cases z : d = 1
  · rw [if_pos z, if_pos z, spPath_uJ (Or.inr rfl), spPath_uJ (Or.inl rfl), uJ_comm (a := 56) (b := 73) (by decide), uJ_comm (a := 56) (b := 55) (by decide)]
  · rw [if_neg z, if_neg z, uJ_comm (a := 56) (b := 73) (by decide), uJ_comm (a := 56) (b := 55) (by decide)]
theorem Rel.got3 {d n p : Nat} (h : Rel U K) (hd : d < 2) (hn : n < num K (1 - d)) (hp : gR U (21 + 3 * (1 - d)) n = some p) :
    (K 70 (300 * (1 - d) + n) = 0 → Rel (pI (if d = 1 then lkS (pI U p 12 1) p else pI U p 12 1) (20 + 3 * d) 6 (kMx K d (nI n))) (kC3 K d (300 * (1 - d) + n) (nI n))) ∧
    (¬ K 70 (300 * (1 - d) + n) = 0 → Rel (pI (if d = 1 then lkS (pI (pI U (20 + 3 * d) 7 1) p 12 1) p else pI (pI U (20 + 3 * d) 7 1) p 12 1) (20 + 3 * d) 6 (kMx K d (nI n))) (kC3 K d (300 * (1 - d) + n) (nI n))) := by
  obtain ⟨hv, p', hp', hal, hK⟩ := h.pk (show 1 - d < 2 by omega) hn
  rw [hp] at hp'
  cases hp'
  have h79 := al79 hal
  have n3 := h.nle (show 1 - d < 2 by omega)
  have R1 : Rel (pI U p 12 1) (uJ K 73 (300 * (1 - d) + n) 1) := h.putK (show 1 - d < 2 by omega) hn hp (k := 12) (by decide)
  have R2 : Rel (if d = 1 then lkS (pI U p 12 1) p else pI U p 12 1) (if d = 1 then spPath (uJ K 73 (300 * (1 - d) + n) 1) (300 * (1 - d) + n) (nI n) else uJ K 73 (300 * (1 - d) + n) 1) := by
    by_cases z : d = 1
    · rw [if_pos z, if_pos z]
      subst z
      exact R1.zlkS (n := n) (p := p) (by rw [num_of (J := K) (J' := uJ K 73 (300 * (1 - 1) + n) 1) (by rw [uJ_ne (by decide)])]; exact hn) hp
    · rw [if_neg z, if_neg z]; exact R1
  have e2 : ∀ r, r ≠ 73 → (r ≠ 26 ∧ r ≠ 62 ∧ r ≠ 63 ∧ r ≠ 46 ∧ r ≠ 47 ∧ r ≠ 48 ∧ r ≠ 49 ∧ r ≠ 50 ∧ r ≠ 51) → (if d = 1 then spPath (uJ K 73 (300 * (1 - d) + n) 1) (300 * (1 - d) + n) (nI n) else uJ K 73 (300 * (1 - d) + n) 1) r = K r := fun r h1 h2 => by
    split
    · rw [spPath_ne h2, uJ_ne h1]
    · rw [uJ_ne h1]
  have e73 : (if d = 1 then spPath (uJ K 73 (300 * (1 - d) + n) 1) (300 * (1 - d) + n) (nI n) else uJ K 73 (300 * (1 - d) + n) 1) 73 = upd (K 73) (300 * (1 - d) + n) 1 := by
    split
    · rw [spPath_ne (by decide)]; exact if_pos rfl
    · exact if_pos rfl
  have hM : ∃ n', n' < num K (1 - d) ∧ kMx K d (nI n) = nI n' ∧ upd (K 73) (300 * (1 - d) + n) 1 (300 * (1 - d) + n') = 1 := by
    unfold kMx
    by_cases z : K 55 d < nI n
    · rw [if_pos z]
      exact ⟨n, hn, rfl, by rw [upd_at, if_pos rfl]⟩
    · rw [if_neg z]
      rcases (h.vd hd).2.2.2.2.2.2.2.1 with y | ⟨n', y1, y2, y3⟩
      · exfalso
        rw [y] at z
        refine z ?_
        rw [Int32.lt_iff_toInt_lt, nI_toInt (by omega)]
        show (-6 : Int) < n
        omega
      · refine ⟨n', y1, y2, ?_⟩
        rw [upd_at]
        split
        · rfl
        · exact y3
  obtain ⟨n', w1, w2, w3⟩ := hM
  have R3 := R2.putD hd (k := 6) (x := kMx K d (nI n)) (by decide) (by decide) ((R2.vd hd).p55 hd ⟨n', by rw [num_of (J := K) (by rw [e2 44 (by decide) (by decide)])]; exact w1, w2, by rw [e73]; exact w3⟩)
  refine ⟨fun c => by rw [kC3_0 c]; exact R3, fun c => ?_⟩
  rw [kC3_1 c]
  have R4 := R3.putD hd (k := 7) (x := 1) (by decide) (by decide) ((R3.vd hd).p56 hd ⟨Or.inr rfl, Or.inr (by
    show ¬ uJ _ 55 d (kMx K d (nI n)) 55 d = -6
    rw [uJ_same, w2]
    intro z
    have := congrArg Int32.toInt z
    rw [nI_toInt (by omega)] at this
    have t6 : (-6 : Int32).toInt = -6 := rfl
    omega)⟩)
  have es : pI (pI (if d = 1 then lkS (pI U p 12 1) p else pI U p 12 1) (20 + 3 * d) 6 (kMx K d (nI n))) (20 + 3 * d) 7 1 = pI (if d = 1 then lkS (pI (pI U (20 + 3 * d) 7 1) p 12 1) p else pI (pI U (20 + 3 * d) 7 1) p 12 1) (20 + 3 * d) 6 (kMx K d (nI n)) := by
    rw [pI_comm (a := 20 + 3 * d) (k := 6) (b := 20 + 3 * d) (j := 7) (Or.inr (by decide)), pI_comm (a := 20 + 3 * d) (k := 7) (b := p) (j := 12) (Or.inl (by omega))]
    congr 1
    by_cases z : d = 1
    · rw [if_pos z, if_pos z]
      subst z
      exact (lkS_7 h79).symm
    · rw [if_neg z, if_neg z]
  rw [es] at R4
  exact R4
theorem c_comeRest {d n p m : Nat} {Q : Int32 → Sto → Prop} (h : Rel U K) (hd : d < 2) (hn : n < num K (1 - d)) (hp : gR U (21 + 3 * (1 - d)) n = some p) (hm : ntn (K 69 (300 * (1 - d) + n)) = m) (hC : ¬ K 73 (300 * (1 - d) + n) = 0 → ¬ K 55 d = -6)
    (h0 : ¬ K 73 (300 * (1 - d) + n) = 0 → ∀ U', Ev U U' → Rel U' (kC1 K d (300 * (1 - d) + n)) → Q 0 U')
    (h1 : K 73 (300 * (1 - d) + n) = 0 → ∀ U', Ev U U' → Rel U' (spPCs (kC3 K d (300 * (1 - d) + n) (nI n)) d (300 * (1 - d) + n) m) → Q 1 U') :
    ∀ w7 : Int32, w7 = (if (gI U p 0) = 0 then 1 else 0 : Int32) → ((0 ≤ (w7 : Int32).toInt ∧ (w7 : Int32).toInt < (2 : Nat)) ∧ (((gI U p 9) = 0 → (((gI U p 12) = 0 → ((¬ (gI (pI U p 12 1) p 0) = 0 → (Cv K4_takeParts [vr 0, vr (20 + 3 * w7.toNatClampNeg), vr p] (pI (pI U p 12 1) (20 + 3 * w7.toNatClampNeg) 6 (if (gI (pI U p 12 1) (20 + 3 * w7.toNatClampNeg) 6) < (gI (pI U p 12 1) p 1) then (gI (pI U p 12 1) p 1) else (gI (pI U p 12 1) (20 + 3 * w7.toNatClampNeg) 6))) (fun S14 => Q 1 S14))) ∧ ((gI (pI U p 12 1) p 0) = 0 → (Cv K4_lookAtAddress [vr 0, vr (20 + 3 * w7.toNatClampNeg), vr p] (pI U p 12 1) (fun S15 => Cv K4_takeParts [vr 0, vr (20 + 3 * w7.toNatClampNeg), vr p] (pI S15 (20 + 3 * w7.toNatClampNeg) 6 (if (gI S15 (20 + 3 * w7.toNatClampNeg) 6) < (gI S15 p 1) then (gI S15 p 1) else (gI S15 (20 + 3 * w7.toNatClampNeg) 6))) (fun S16 => Q 1 S16)))))) ∧ (¬ (gI U p 12) = 0 → (Q 0 U)))) ∧ (¬ (gI U p 9) = 0 → (((gI (pI U (20 + 3 * w7.toNatClampNeg) 7 1) p 12) = 0 → ((¬ (gI (pI (pI U (20 + 3 * w7.toNatClampNeg) 7 1) p 12 1) p 0) = 0 → (Cv K4_takeParts [vr 0, vr (20 + 3 * w7.toNatClampNeg), vr p] (pI (pI (pI U (20 + 3 * w7.toNatClampNeg) 7 1) p 12 1) (20 + 3 * w7.toNatClampNeg) 6 (if (gI (pI (pI U (20 + 3 * w7.toNatClampNeg) 7 1) p 12 1) (20 + 3 * w7.toNatClampNeg) 6) < (gI (pI (pI U (20 + 3 * w7.toNatClampNeg) 7 1) p 12 1) p 1) then (gI (pI (pI U (20 + 3 * w7.toNatClampNeg) 7 1) p 12 1) p 1) else (gI (pI (pI U (20 + 3 * w7.toNatClampNeg) 7 1) p 12 1) (20 + 3 * w7.toNatClampNeg) 6))) (fun S19 => Q 1 S19))) ∧ ((gI (pI (pI U (20 + 3 * w7.toNatClampNeg) 7 1) p 12 1) p 0) = 0 → (Cv K4_lookAtAddress [vr 0, vr (20 + 3 * w7.toNatClampNeg), vr p] (pI (pI U (20 + 3 * w7.toNatClampNeg) 7 1) p 12 1) (fun S20 => Cv K4_takeParts [vr 0, vr (20 + 3 * w7.toNatClampNeg), vr p] (pI S20 (20 + 3 * w7.toNatClampNeg) 6 (if (gI S20 (20 + 3 * w7.toNatClampNeg) 6) < (gI S20 p 1) then (gI S20 p 1) else (gI S20 (20 + 3 * w7.toNatClampNeg) 6))) (fun S21 => Q 1 S21)))))) ∧ (¬ (gI (pI U (20 + 3 * w7.toNatClampNeg) 7 1) p 12) = 0 → (Q 0 (pI U (20 + 3 * w7.toNatClampNeg) 7 1))))))) := by
  obtain ⟨hv, p', hp', hal, hK⟩ := h.pk (show 1 - d < 2 by omega) hn
  rw [hp] at hp'
  cases hp'
  have h79 := al79 hal
  have e0 : gI U p 0 = nI (1 - d) := hK.2.1
  have e1 : gI U p 1 = nI n := hK.2.2.1
  have e9 : gI U p 9 = K 70 (300 * (1 - d) + n) := hK.1 9 (by decide)
  have e12 : gI U p 12 = K 73 (300 * (1 - d) + n) := hK.1 12 (by decide)
  have e6 : gI U (20 + 3 * d) 6 = K 55 d := (h.d hd).1 6 (by decide)
  intro w hw
  have ew : w = nI d := by
    rw [hw, e0]
    rcases (show d = 0 ∨ d = 1 by omega) with rfl | rfl <;> rfl
  subst ew
  have td : (nI d).toNatClampNeg = d := tnN (by omega)
  rw [td]
  obtain ⟨g1, g2⟩ := h.got3 hd hn hp
  have k3 : ∀ r, r ≠ 55 → r ≠ 73 → r ≠ 56 → (r ≠ 26 ∧ r ≠ 62 ∧ r ≠ 63 ∧ r ≠ 46 ∧ r ≠ 47 ∧ r ≠ 48 ∧ r ≠ 49 ∧ r ≠ 50 ∧ r ≠ 51) → kC3 K d (300 * (1 - d) + n) (nI n) r = K r := fun r a b c e => by
    have k1 : kC1 K d (300 * (1 - d) + n) r = K r := by
      unfold kC1
      split
      · rfl
      · exact uJ_ne c
    unfold kC3
    rw [uJ_ne a, uJ_ne b]
    split
    · rw [spPath_ne e]; exact k1
    · exact k1
  have go : ∀ V, (Ev U V) → Rel V (kC3 K d (300 * (1 - d) + n) (nI n)) → K 73 (300 * (1 - d) + n) = 0 → Cv K4_takeParts [vr 0, vr (20 + 3 * d), vr p] V (fun S => Q 1 S) := fun V E R hz => by
    refine c_takeParts R hd (by rw [num_of (J := K) (by rw [k3 44 (by decide) (by decide) (by decide) (by decide)])]; exact hn) (by rw [E.2.2]; exact hp) (by rw [k3 69 (by decide) (by decide) (by decide) (by decide)]; exact hm) (fun T' E' R' => h1 hz T' (E.tr E') R')
  have pn : p ≠ 20 + 3 * d := by omega
  refine ⟨ixN hd (by decide), fun c1 => ⟨fun c2 => ⟨fun c3 => ?_, fun c3 => ?_⟩, fun c2 => ?_⟩, fun c1 => ⟨fun c2 => ⟨fun c3 => ?_, fun c3 => ?_⟩, fun c2 => ?_⟩⟩
  · rw [e9] at c1
    rw [e12] at c2
    rw [gI_eq, upd_at, if_neg (by decide), e0] at c3
    have hd0 : d = 0 := by
      rcases (show d = 0 ∨ d = 1 by omega) with z | z
      · exact z
      · subst z; exact absurd rfl c3
    have R := g1 c1
    rw [if_neg (by omega)] at R
    have M : (if gI (pI U p 12 1) (20 + 3 * d) 6 < gI (pI U p 12 1) p 1 then gI (pI U p 12 1) p 1 else gI (pI U p 12 1) (20 + 3 * d) 6) = kMx K d (nI n) := by
      have a1 : gI (pI U p 12 1) (20 + 3 * d) 6 = K 55 d := by rw [gI_ne (Ne.symm pn)]; exact e6
      have a2 : gI (pI U p 12 1) p 1 = nI n := by rw [gI_eq, upd_at, if_neg (by decide)]; exact e1
      rw [a1, a2]; rfl
    rw [M]
    exact go _ ((Ev.rf.p (by omega)).p (by omega)) R c2
  · rw [e9] at c1
    rw [e12] at c2
    rw [gI_eq, upd_at, if_neg (by decide), e0] at c3
    have hd1 : d = 1 := by
      rcases (show d = 0 ∨ d = 1 by omega) with z | z
      · subst z; exact absurd c3 (by decide)
      · exact z
    have R := g1 c1
    rw [if_pos hd1] at R
    have hF1 : Fx (pI U p 12 1) := h.f.same rfl rfl
    have hh : Cv K4_lookAtAddress [vr 0, vr 23, vr p] (pI U p 12 1) (fun S15 => Cv K4_takeParts [vr 0, vr (20 + 3 * d), vr p] (pI S15 (20 + 3 * d) 6 (if (gI S15 (20 + 3 * d) 6) < (gI S15 p 1) then (gI S15 p 1) else (gI S15 (20 + 3 * d) 6))) (fun S16 => Q 1 S16)) := by
      refine c_lookAt hF1 hal ?_
      have m1 : gI (lkS (pI U p 12 1) p) p 1 = nI n := by
        rw [lkS_p h79, gI_eq, upd_at, if_neg (by decide), e1]
      have m6 : gI (lkS (pI U p 12 1) p) (20 + 3 * d) 6 = K 55 d := by
        rw [hd1]
        show gI (lkS (pI U p 12 1) p) 23 6 = _
        rw [lkS_6, gI_ne (by omega)]
        rw [hd1] at e6
        exact e6
      rw [m1, m6]
      exact go _ (((Ev.rf.p (by omega)).tr lkS_ev).p (by omega)) R c2
    have e23 : 20 + 3 * d = 23 := by omega
    rw [e23] at hh ⊢
    exact hh
  · rw [e9] at c1
    rw [e12] at c2
    refine h0 c2 U Ev.rf ?_
    unfold kC1
    rw [if_pos c1]; exact h
  · rw [e9] at c1
    rw [gI_ne pn, e12] at c2
    rw [gI_eq, upd_at, if_neg (by decide), gI_ne pn, e0] at c3
    have hd0 : d = 0 := by
      rcases (show d = 0 ∨ d = 1 by omega) with z | z
      · exact z
      · subst z; exact absurd rfl c3
    have R := g2 c1
    rw [if_neg (by omega)] at R
    have M : (if gI (pI (pI U (20 + 3 * d) 7 1) p 12 1) (20 + 3 * d) 6 < gI (pI (pI U (20 + 3 * d) 7 1) p 12 1) p 1 then gI (pI (pI U (20 + 3 * d) 7 1) p 12 1) p 1 else gI (pI (pI U (20 + 3 * d) 7 1) p 12 1) (20 + 3 * d) 6) = kMx K d (nI n) := by
      have a1 : gI (pI (pI U (20 + 3 * d) 7 1) p 12 1) (20 + 3 * d) 6 = K 55 d := by rw [gI_ne (Ne.symm pn), gI_eq, upd_at, if_neg (by decide)]; exact e6
      have a2 : gI (pI (pI U (20 + 3 * d) 7 1) p 12 1) p 1 = nI n := by rw [gI_eq, upd_at, if_neg (by decide), gI_ne pn]; exact e1
      rw [a1, a2]; rfl
    rw [M]
    exact go _ (((Ev.rf.p (by omega)).p (by omega)).p (by omega)) R c2
  · rw [e9] at c1
    rw [gI_ne pn, e12] at c2
    rw [gI_eq, upd_at, if_neg (by decide), gI_ne pn, e0] at c3
    have hd1 : d = 1 := by
      rcases (show d = 0 ∨ d = 1 by omega) with z | z
      · subst z; exact absurd c3 (by decide)
      · exact z
    have R := g2 c1
    rw [if_pos hd1] at R
    have hF1 : Fx (pI (pI U (20 + 3 * d) 7 1) p 12 1) := h.f.same rfl rfl
    have hh : Cv K4_lookAtAddress [vr 0, vr 23, vr p] (pI (pI U (20 + 3 * d) 7 1) p 12 1) (fun S15 => Cv K4_takeParts [vr 0, vr (20 + 3 * d), vr p] (pI S15 (20 + 3 * d) 6 (if (gI S15 (20 + 3 * d) 6) < (gI S15 p 1) then (gI S15 p 1) else (gI S15 (20 + 3 * d) 6))) (fun S16 => Q 1 S16)) := by
      refine c_lookAt hF1 hal ?_
      have m1 : gI (lkS (pI (pI U (20 + 3 * d) 7 1) p 12 1) p) p 1 = nI n := by
        rw [lkS_p h79, gI_eq, upd_at, if_neg (by decide), gI_ne pn, e1]
      have m6 : gI (lkS (pI (pI U (20 + 3 * d) 7 1) p 12 1) p) (20 + 3 * d) 6 = K 55 d := by
        rw [hd1]
        show gI (lkS (pI (pI U (20 + 3 * 1) 7 1) p 12 1) p) 23 6 = _
        rw [lkS_6, gI_ne (by omega)]
        rw [hd1] at e6
        show gI (pI U (20 + 3 * 1) 7 1) (20 + 3 * 1) 6 = _
        rw [gI_eq, upd_at, if_neg (by decide)]
        exact e6
      rw [m1, m6]
      exact go _ ((((Ev.rf.p (by omega)).p (by omega)).tr lkS_ev).p (by omega)) R c2
    have e23 : 20 + 3 * d = 23 := by omega
    rw [e23] at hh ⊢
    exact hh
  · rw [e9] at c1
    rw [gI_ne pn, e12] at c2
    refine h0 c2 _ (Ev.rf.p (by omega)) ?_
    unfold kC1
    rw [if_neg c1]
    exact h.putD hd (k := 7) (x := 1) (by decide) (by decide) ((h.vd hd).p56 hd ⟨Or.inr rfl, Or.inr (hC c2)⟩)
end COME
