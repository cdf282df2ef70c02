section LOOK
variable {T : Sto} {J : Rows}
def zNL : List Nat := [30, 33, 36, 41, 58, 62, 63, 64, 65]
theorem spLoses_ne {d r : Nat} {kind a b c : Int32} (h : ¬ r ∈ zNL) : spLoses J d kind a b c r = J r := by
  have n30 : r ≠ 30 := fun e => h (e ▸ by decide)
  have n33 : r ≠ 33 := fun e => h (e ▸ by decide)
  have n36 : r ≠ 36 := fun e => h (e ▸ by decide)
  have n41 : r ≠ 41 := fun e => h (e ▸ by decide)
  have n58 : r ≠ 58 := fun e => h (e ▸ by decide)
  have n62 : r ≠ 62 := fun e => h (e ▸ by decide)
  have n63 : r ≠ 63 := fun e => h (e ▸ by decide)
  have n64 : r ≠ 64 := fun e => h (e ▸ by decide)
  have n65 : r ≠ 65 := fun e => h (e ▸ by decide)
  unfold spLoses
  split
  · exact uJ_ne n41
  split
  · exact uJ_ne n58
  split
  · rw [uJ_ne n33, zitA_ne n36]
  split
  · exact uJ_ne n30
  split
  · split
    · rfl
    · split
      · rw [uJ_ne n63, uJ_ne n62]
      · rfl
  split
  · rw [uJ_ne n65, uJ_ne n64]
  · rfl
/-- every part of a PACKET is lost -/
def spLP (J : Rows) (d q : Nat) : Nat → Rows
  | 0 => J
  | m + 1 => spLoses (spLP J d q m) d (prt J q m 0) (prt J q m 1) (prt J q m 2) (prt J q m 3)
theorem spLP_ne {d q m r : Nat} (h : ¬ r ∈ zNL) : spLP J d q m r = J r := by
  induction m with
  | zero => rfl
  | succ m ih => exact (spLoses_ne h).trans ih
theorem spLP_prt {d q m k w : Nat} : prt (spLP J d q m) q k w = prt J q k w := by unfold prt; rw [spLP_ne (by decide)]
def fbV (J : Rows) (d : Nat) : Int32 := if J 46 d / 2 < 2 * J 26 0 then 2 * J 26 0 else J 46 d / 2
def spFB (J : Rows) (d : Nat) : Rows := uJ (uJ (uJ J 48 d (J 26 3)) 46 d (fbV J d)) 47 d (fbV J d)
def spL1 (J : Rows) (d q : Nat) : Rows := uJ (uJ J 72 q 1) 45 d (J 45 d - J 68 q)
def spLose (J : Rows) (d q : Nat) : Rows := if J 66 q ≤ J 48 d then spLP (spL1 J d q) d q (ntn (J 69 q)) else spFB (spLP (spL1 J d q) d q (ntn (J 69 q))) d
def zNS : List Nat := [30, 33, 36, 41, 58, 62, 63, 64, 65, 72, 45, 46, 47, 48]
theorem spL1_ne {d q r : Nat} (h1 : r ≠ 72) (h2 : r ≠ 45) : spL1 J d q r = J r := by unfold spL1; rw [uJ_ne h2, uJ_ne h1]
theorem spFB_ne {d r : Nat} (h1 : r ≠ 46) (h2 : r ≠ 47) (h3 : r ≠ 48) : spFB J d r = J r := by unfold spFB; rw [uJ_ne h2, uJ_ne h1, uJ_ne h3]
theorem zN_SL : ∀ r, ¬ r ∈ zNS → ¬ r ∈ zNL ∧ r ≠ 72 ∧ r ≠ 45 ∧ r ≠ 46 ∧ r ≠ 47 ∧ r ≠ 48 := fun r h => by
  refine ⟨fun q => h ?_, fun e => h (e ▸ by decide), fun e => h (e ▸ by decide), fun e => h (e ▸ by decide), fun e => h (e ▸ by decide), fun e => h (e ▸ by decide)⟩
  have : ∀ r ∈ zNL, r ∈ zNS := by decide
  exact this r q
theorem spLose_ne {d q r : Nat} (h : ¬ r ∈ zNS) : spLose J d q r = J r := by
  obtain ⟨h1, h2, h3, h4, h5, h6⟩ := zN_SL r h
  unfold spLose
  split
  · rw [spLP_ne h1, spL1_ne h2 h3]
  · rw [spFB_ne h4 h5 h6, spLP_ne h1, spL1_ne h2 h3]
theorem spLose_72 {d q : Nat} : spLose J d q 72 = upd (J 72) q 1 := by
  have : spL1 J d q 72 = upd (J 72) q 1 := by unfold spL1; rw [uJ_ne (by decide), uJ_at, if_pos rfl]
  unfold spLose
  split
  · rw [spLP_ne (by decide), this]
  · rw [spFB_ne (by decide) (by decide) (by decide), spLP_ne (by decide), this]
abbrev skipL (J : Rows) (d : Nat) (hi lim : Int32) (n : Nat) : Prop := J 70 (300 * d + n) = 0 ∨ ¬ J 71 (300 * d + n) = 0 ∨ ¬ J 72 (300 * d + n) = 0 ∨ (¬ nI (n + 3) ≤ hi ∧ J 26 3 - J 66 (300 * d + n) < lim)
/-- the search for lost PACKETS, up to number n -/
def spLL (J : Rows) (d : Nat) (hi lim : Int32) : Nat → Rows
  | 0 => J
  | n + 1 => if skipL (spLL J d hi lim n) d hi lim n then spLL J d hi lim n else spLose (spLL J d hi lim n) d (300 * d + n)
theorem spLL_ne {d n r : Nat} {hi lim : Int32} (h : ¬ r ∈ zNS) : spLL J d hi lim n r = J r := by
  induction n with
  | zero => rfl
  | succ n ih =>
    unfold spLL
    split
    · exact ih
    · exact (spLose_ne h).trans ih
def lmt (J : Rows) (d : Nat) : Int32 := if J 49 d = -6 then 8 else (if 1 < ((9 * (if J 50 d < (8 * J 49 d) then (8 * J 49 d) else J 50 d)) / 64) then ((9 * (if J 50 d < (8 * J 49 d) then (8 * J 49 d) else J 50 d)) / 64) else 1)
def spLook (J : Rows) (d : Nat) : Rows := spLL J d (J 54 d) (lmt J d) (ntn (J 54 d))
/-! the class -/
theorem fbV_of (hG : IvG J) (d : Nat) : ∃ b, 120 ≤ b ∧ b < 2 ^ 31 ∧ fbV J d = nI b := by
  obtain ⟨⟨r, r1, r2, r3⟩, -⟩ := hG
  have e : (2 * J 26 0 : Int32) = nI (2 * r) := by rw [r3, show (2 : Int32) = nI 2 from rfl, pk_mul]
  unfold fbV
  rw [e]
  by_cases q : J 46 d / 2 < nI (2 * r)
  · rw [if_pos q]; exact ⟨2 * r, by omega, by omega, rfl⟩
  · rw [if_neg q]
    rw [Int32.lt_iff_toInt_lt, nI_toInt (by omega)] at q
    have := Int32.toInt_lt (J 46 d / 2)
    obtain ⟨b, hb, eb⟩ := ofIx2 (x := J 46 d / 2) (N := 2 ^ 31) ⟨by omega, by omega⟩
    rw [eb, nI_toInt hb] at q
    exact ⟨b, by omega, hb, eb⟩
theorem Rel.fb {d : Nat} (h : Rel T J) (hd : d < 2) : Rel (pI (pI (pI T (22 + 3 * d) 3 (J 26 3)) (22 + 3 * d) 1 (fbV J d)) (22 + 3 * d) 2 (fbV J d)) (spFB J d) := by
  have R1 := h.putP hd (k := 3) (x := J 26 3) (by decide) ((h.vd hd).free (r := 48) (by decide) hd)
  have R2 := R1.putP hd (k := 1) (x := fbV J d) (by decide) ((R1.vd hd).free (r := 46) (by decide) hd)
  exact R2.putP hd (k := 2) (x := fbV J d) (by decide) ((R2.vd hd).p47 hd (fbV_of h.vg d))
theorem c_fallBack {d : Nat} {Q : Sto → Prop} (hR : Rel T J) (hd : d < 2) (h : ∀ T', Ev T T' → Rel T' (spFB J d) → Q T') : Cv K0_fallBack [vr (20 + 3 * d + 2), vi (gI T 0 4), vi (gI T 0 5)] T Q := by
  have e4 : gI T 0 4 = J 26 3 := hR.g 4 (by decide)
  have e5 : gI T 0 5 = J 26 0 := hR.g 5 (by decide)
  have e1 : gI T (22 + 3 * d) 1 = J 46 d := (hR.d hd).2.1 1 (by decide)
  rw [e4, e5, show 20 + 3 * d + 2 = 22 + 3 * d by omega]
  have hal : al T (22 + 3 * d) 0 := by have := hR.f.pace (hR.f.sd hd); rwa [show 20 + 3 * d + 2 = 22 + 3 * d by omega] at this
  refine e0_fallBack hR.f hal ?_
  have a1 : gI (pI T (22 + 3 * d) 3 (J 26 3)) (22 + 3 * d) 1 = J 46 d := by rw [gI_eq, upd_at, if_neg (by decide)]; exact e1
  rw [a1, gI_eq, upd_at, if_pos rfl]
  exact h _ (((Ev.rf.p (by omega)).p (by omega)).p (by omega)) (hR.fb hd)
theorem c_lose {d n p : Nat} {Q : Sto → Prop} (hR : Rel T J) (hd : d < 2) (hn : n < num J d) (hp : gR T (21 + 3 * d) n = some p) (h : ∀ T', Ev T T' → Rel T' (spLose J d (300 * d + n)) → Q T') : Cv K4_lose [vr 0, vr (20 + 3 * d), vr p] T Q := by
  obtain ⟨hv, p', hp', hal, hK⟩ := hR.pk hd hn
  rw [hp] at hp'
  cases hp'
  have p79 := al79 hal
  obtain ⟨-, -, -, -, -, -, ⟨m, m1, m2, m3, m4⟩, -⟩ := hv
  refine e4_lose hR.f (hR.f.sd hd) hal (fun X O => ?_)
  have R1 := hR.putK hd hn hp (k := 11) (by decide)
  have v0 : gI (pI T p 11 1) (20 + 3 * d + 2) 0 = J 45 d := by rw [gI_ne (by omega), show 20 + 3 * d + 2 = 22 + 3 * d by omega]; exact (hR.d hd).2.1 0 (by decide)
  have v8 : gI (pI T p 11 1) p 8 = J 68 (300 * d + n) := by rw [gI_eq, upd_at, if_neg (by decide)]; exact hK.1 8 (by decide)
  rw [v0, v8, show 20 + 3 * d + 2 = 22 + 3 * d by omega]
  have R2 : Rel (pI (pI T p 11 1) (22 + 3 * d) 0 (J 45 d - J 68 (300 * d + n))) (spL1 J d (300 * d + n)) := R1.putP hd (k := 0) (by decide) ((R1.vd hd).free (r := 45) (by decide) hd)
  have E2 : Ev T (pI (pI T p 11 1) (22 + 3 * d) 0 (J 45 d - J 68 (300 * d + n))) := (Ev.rf.p (Or.inr p79)).p (by omega)
  have c69 : ∀ k, spLP (spL1 J d (300 * d + n)) d (300 * d + n) k 69 = J 69 := fun k => by rw [spLP_ne (by decide), spL1_ne (by decide) (by decide)]
  have c44 : ∀ k, num (spLP (spL1 J d (300 * d + n)) d (300 * d + n) k) d = num J d := fun k => num_of (by rw [spLP_ne (by decide), spL1_ne (by decide) (by decide)])
  have loop : ∀ (j k : Nat) (T' : Sto), k + j = m → Ev T T' → Rel T' (spLP (spL1 J d (300 * d + n)) d (300 * d + n) k) → WP X 23 [(0, vr 0), (1, vr (20 + 3 * d)), (2, vr p), (3, vi (nI k))] [] T' 0 0 := by
    intro j
    induction j with
    | zero =>
      intro k T' hk E R
      have hkm : k = m := by omega
      subst hkm
      have hal' : al T' p 1 := hal.mono (by rw [E.2.1]; exact Nat.le_refl _)
      obtain ⟨-, p2, hp2, -, hK2⟩ := R.pk hd (show n < num _ d by rw [c44]; exact hn)
      rw [E.2.2, hp] at hp2
      cases hp2
      have e7 : gI T' p 7 = nI k := by rw [← m3]; exact (hK2.1 7 (by decide)).trans (congrFun (c69 k) _)
      have e2 : gI T' p 2 = J 66 (300 * d + n) := (hK2.1 2 (by decide)).trans (by show spLP _ d _ k 66 _ = _; rw [spLP_ne (by decide), spL1_ne (by decide) (by decide)])
      have e3 : gI T' (20 + 3 * d + 2) 3 = J 48 d := by
        rw [show 20 + 3 * d + 2 = 22 + 3 * d by omega]
        exact ((R.d hd).2.1 3 (by decide)).trans (by show spLP _ d _ k 48 _ = _; rw [spLP_ne (by decide), spL1_ne (by decide) (by decide)])
      have em : ntn (J 69 (300 * d + n)) = k := by rw [m3]; exact ntn_nI (by omega)
      refine s4_lose_23 R.f (by rw [E.2.1]; exact Nat.le_refl _) O (R.f.sd hd) hal' ⟨fun _ => ?_, fun hc => ?_⟩
      · rw [e2, e3]
        refine ⟨fun hq => h T' E ?_, fun hq => c_fallBack R hd (fun T2 E2' R2' => h T2 (E.tr E2') ?_)⟩
        · unfold spLose; rw [if_pos hq, em]; exact R
        · unfold spLose; rw [if_neg hq, em]; exact R2'
      · rw [e7, nI_leI (by omega) (by omega)] at hc; omega
    | succ j ih =>
      intro k T' hk E R
      refine c_losePart R hd (show n < num _ d by rw [c44]; exact hn) (by rw [E.2.2]; exact hp) (by rw [E.2.1]; exact Nat.le_refl _) O (by rw [c69, m3, nI_ltI (by omega) (by omega)]; omega) (by omega) (fun T2 E2' R2' => ?_)
      refine ih (k + 1) T2 (by omega) (E.tr E2') ?_
      rw [spLP_prt, spLP_prt, spLP_prt, spLP_prt] at R2'
      exact R2'
  exact loop m 0 _ (by omega) E2 R2
end LOOK
