section BYTESOF
variable {T : Sto} {J : Rows}
def faF (f : Nat → Int32) : Nat → Nat → Nat
  | 0, j => j
  | b + 1, j => if f j = 2 then j else faF f b (j + 1)
def raF (f : Nat → Int32) : Nat → Nat → Nat
  | 0, j => j
  | b + 1, j => if f j = 2 then raF f b (j + 1) else j
theorem faF_spec (f : Nat → Int32) : ∀ b j, j ≤ faF f b j ∧ faF f b j ≤ j + b ∧ (faF f b j < j + b → f (faF f b j) = 2) ∧ ∀ k, j ≤ k → k < faF f b j → ¬ f k = 2 := fun b => by
  induction b with
  | zero => exact fun j => ⟨Nat.le_refl _, Nat.le_refl _, fun z => absurd z (Nat.lt_irrefl _), fun k a c => by
      have : faF f 0 j = j := rfl
      omega⟩
  | succ b ih =>
    intro j
    by_cases z : f j = 2
    · have e : faF f (b + 1) j = j := if_pos z
      rw [e]
      exact ⟨Nat.le_refl _, by omega, fun _ => z, fun k a c => by omega⟩
    · have e : faF f (b + 1) j = faF f b (j + 1) := if_neg z
      rw [e]
      obtain ⟨h1, h2, h3, h4⟩ := ih (j + 1)
      refine ⟨by omega, by omega, fun y => h3 (by omega), fun k a c => ?_⟩
      rcases (show k = j ∨ j + 1 ≤ k by omega) with rfl | y
      · exact z
      · exact h4 k y c
theorem raF_spec (f : Nat → Int32) : ∀ b j, j ≤ raF f b j ∧ raF f b j ≤ j + b ∧ (raF f b j < j + b → ¬ f (raF f b j) = 2) ∧ ∀ k, j ≤ k → k < raF f b j → f k = 2 := fun b => by
  induction b with
  | zero => exact fun j => ⟨Nat.le_refl _, Nat.le_refl _, fun z => absurd z (Nat.lt_irrefl _), fun k a c => by
      have : raF f 0 j = j := rfl
      omega⟩
  | succ b ih =>
    intro j
    by_cases z : f j = 2
    · have e : raF f (b + 1) j = raF f b (j + 1) := if_pos z
      rw [e]
      obtain ⟨h1, h2, h3, h4⟩ := ih (j + 1)
      refine ⟨by omega, by omega, fun y => h3 (by omega), fun k a c => ?_⟩
      rcases (show k = j ∨ j + 1 ≤ k by omega) with rfl | y
      · exact z
      · exact h4 k y c
    · have e : raF f (b + 1) j = j := if_neg z
      rw [e]
      exact ⟨Nat.le_refl _, by omega, fun _ => z, fun k a c => by omega⟩
theorem faF_eq {f : Nat → Int32} {b j r : Nat} (h1 : j ≤ r) (h2 : r < j + b) (h3 : f r = 2) (h4 : ∀ k, j ≤ k → k < r → ¬ f k = 2) : faF f b j = r := by
  obtain ⟨a1, a2, a3, a4⟩ := faF_spec f b j
  rcases Nat.lt_trichotomy (faF f b j) r with z | z | z
  · exact absurd (a3 (by omega)) (h4 _ a1 z)
  · exact z
  · exact absurd h3 (a4 r h1 z)
theorem raF_eq {f : Nat → Int32} {b j r : Nat} (h1 : j ≤ r) (h2 : r ≤ j + b) (h3 : r = j + b ∨ ¬ f r = 2) (h4 : ∀ k, j ≤ k → k < r → f k = 2) : raF f b j = r := by
  obtain ⟨a1, a2, a3, a4⟩ := raF_spec f b j
  rcases Nat.lt_trichotomy (raF f b j) r with z | z | z
  · exact absurd (h4 _ a1 z) (a3 (by omega))
  · exact z
  · rcases h3 with y | y
    · omega
    · exact absurd (a4 r h1 z) y
/-- what may be sent anew -/
def nwN (J : Rows) (d i : Nat) : Int32 :=
  if 0 < (if J 57 d - sm (J 31) d < (if J 35 i < J 27 i then J 35 i else J 27 i) - J 31 i then J 57 d - sm (J 31) d else (if J 35 i < J 27 i then J 35 i else J 27 i) - J 31 i) then (if J 57 d - sm (J 31) d < (if J 35 i < J 27 i then J 35 i else J 27 i) - J 31 i then J 57 d - sm (J 31) d else (if J 35 i < J 27 i then J 35 i else J 27 i) - J 31 i) else 0
def agn (J : Rows) (i : Nat) : Nat := cnt (byt J i) 2 1000
def byF (J : Rows) (i : Nat) : Nat := if agn J i = 0 then frs J i else faF (byt J i) (frs J i) 0
def byD (J : Rows) (d i : Nat) : Nat := if agn J i = 0 then ntn (nwN J d i) else raF (byt J i) (frs J i - byF J i) (byF J i) - byF J i
def rmL (J : Rows) (q : Nat) : Nat := ntn (J 26 0) - ntn (J 68 q)
def spc (J : Rows) (q : Nat) : Int32 := J 26 0 - J 68 q - 8
abbrev edP (J : Rows) (i : Nat) : Prop := ¬ J 28 i = 0 ∧ J 31 i = J 27 i ∧ J 34 i = 0 ∧ (J 32 i = 0 ∨ ¬ J 33 i = 0)
def edW (J : Rows) (i : Nat) : Int32 := if J 28 i = 0 then 0 else (if J 31 i = J 27 i then (if eSt (J 32 i) (J 33 i) (J 34 i) = 0 then 1 else (if eSt (J 32 i) (J 33 i) (J 34 i) = 2 then 1 else 0 : Int32) : Int32) else 0 : Int32)
abbrev byOK (J : Rows) (d q i : Nat) : Prop := J 29 i = 0 ∧ (byD J d i = 0 → edP J i) ∧ (if byD J d i = 0 then 8 else 9) ≤ rmL J q
def mnN (D z : Nat) : Nat := if D ≤ z - 8 then D else z - 8
def byC (J : Rows) (d q i : Nat) : Nat := mnN (byD J d i) (rmL J q)
def spB0 (J : Rows) (i F C : Nat) : Rows := uJ (zitB J i F 1 C) 31 i (if J 31 i < nI (F + C) then nI (F + C) else J 31 i)
def spBE (J : Rows) (i F C : Nat) : Rows := if edP (spB0 J i F C) i then uJ (uJ (spB0 J i F C) 32 i 1) 33 i 0 else spB0 J i F C
def byE (J : Rows) (i F C : Nat) : Nat := if edP (spB0 J i F C) i then 1 else 0
def spB1 (J : Rows) (q i F C : Nat) : Rows := spPut (spBE J i F C) q 4 (nI (8 + C)) (nI i) (nI F) (nI (C + 10000 * byE J i F C))
def spByt (J : Rows) (d q i : Nat) : Rows := if byOK J d q i then uJ (spB1 J q i (byF J i) (byC J d q i)) 61 d (nI i) else J
theorem edW0 {i : Nat} : edW J i = 0 ↔ ¬ edP J i := by
  unfold edW edP eSt
  by_cases h1 : J 28 i = 0
  · rw [if_pos h1]; exact ⟨fun _ z => z.1 h1, fun _ => rfl⟩
  · rw [if_neg h1]
    by_cases h2 : J 31 i = J 27 i
    · rw [if_pos h2]
      by_cases h3 : J 34 i = 0
      · rw [if_pos h3]
        by_cases h4 : J 33 i = 0
        · rw [if_pos h4]
          by_cases h5 : J 32 i = 0
          · rw [if_pos h5, if_pos rfl]
            exact ⟨fun z => absurd z (by decide), fun z => absurd ⟨h1, h2, h3, Or.inl h5⟩ z⟩
          · rw [if_neg h5, if_neg (by decide), if_neg (by decide)]
            exact ⟨fun _ z => z.2.2.2.elim h5 (fun y => y h4), fun _ => rfl⟩
        · rw [if_neg h4, if_neg (by decide), if_pos rfl]
          exact ⟨fun z => absurd z (by decide), fun z => absurd ⟨h1, h2, h3, Or.inr h4⟩ z⟩
      · rw [if_neg h3, if_neg (by decide), if_neg (by decide)]
        exact ⟨fun _ z => h3 z.2.2.1, fun _ => rfl⟩
    · rw [if_neg h2]
      exact ⟨fun _ z => h2 z.2.1, fun _ => rfl⟩
theorem nw_le {d i w f : Nat} (hw : J 27 i = nI w) (hf : J 31 i = nI f) (hb : upTo (J 35 i) 2000) (hfw : f ≤ w) (w1 : w ≤ 1000) : ∃ n, nwN J d i = nI n ∧ f + n ≤ w := by
  unfold nwN
  generalize J 57 d - sm (J 31) d = b
  obtain ⟨x, x1, x2⟩ : ∃ x, x ≤ w ∧ (if J 35 i < J 27 i then J 35 i else J 27 i) = nI x := by
    obtain ⟨b0, b1, b2⟩ := hb
    rw [hw, b2]
    by_cases z : nI b0 < nI w
    · rw [if_pos z]
      rw [nI_ltI (by omega) (by omega)] at z
      exact ⟨b0, by omega, rfl⟩
    · rw [if_neg z]; exact ⟨w, Nat.le_refl _, rfl⟩
  rw [x2, hf]
  have ha : (nI x - nI f : Int32).toInt = (x : Int) - f := pk_sub_toInt (by omega) (by omega)
  generalize nI x - nI f = a at ha ⊢
  by_cases z : 0 < (if b < a then b else a)
  · rw [if_pos z]
    have hm : (if b < a then b else a).toInt ≤ (x : Int) - f := by
      by_cases y : b < a
      · rw [if_pos y]
        have := Int32.lt_iff_toInt_lt.mp y
        omega
      · rw [if_neg y]; omega
    have hp : (0 : Int) < (if b < a then b else a).toInt := by
      have := Int32.lt_iff_toInt_lt.mp z
      exact this
    obtain ⟨n, n1, n2⟩ := ofIx2 (x := if b < a then b else a) (N := w - f + 1) ⟨by omega, by omega⟩
    exact ⟨n, n2, by omega⟩
  · rw [if_neg z]; exact ⟨0, rfl, by omega⟩
/-- what is due of a stream -/
theorem by_facts {i : Nat} (d : Nat) (h : IvS J i) : ∃ w f, J 27 i = nI w ∧ J 31 i = nI f ∧ frs J i = f ∧ f ≤ w ∧ w ≤ 1000 ∧ byF J i ≤ f ∧ byF J i + byD J d i ≤ w ∧ (∀ k, k < byD J d i → ¬ byt J i (byF J i + k) = 3) ∧
    (¬ agn J i = 0 → byF J i < f ∧ byF J i = faF (byt J i) f 0 ∧ 1 ≤ byD J d i ∧ byF J i + byD J d i ≤ f ∧ byF J i + byD J d i = raF (byt J i) (f - byF J i) (byF J i)) ∧ (agn J i = 0 → byF J i = f ∧ nwN J d i = nI (byD J d i) ∧ ∀ k, k < f → ¬ byt J i k = 2) ∧ ∀ j, f ≤ j → j < 1000 → byt J i j = 0 := by
  obtain ⟨-, ⟨w, f, h1, h2, h3, h4, h5⟩, -, h6, -, -⟩ := h
  have ef : frs J i = f := by unfold frs; rw [h2]; exact tnN (by omega)
  obtain ⟨n, n1, n2⟩ := nw_le (d := d) h1 h2 h6 h3 h4
  refine ⟨w, f, h1, h2, ef, h3, h4, ?_⟩
  by_cases z : agn J i = 0
  · have eF : byF J i = f := by unfold byF; rw [if_pos z, ef]
    have eD : byD J d i = n := by unfold byD; rw [if_pos z, n1]; exact ntn_nI (by omega)
    rw [eF, eD]
    refine ⟨Nat.le_refl _, n2, fun k hk => ?_, fun y => absurd z y, fun _ => ⟨rfl, n1, fun k hk => cnt_zero z k (by omega)⟩, h5⟩
    rw [h5 (f + k) (by omega) (by omega)]; decide
  · have eF : byF J i = faF (byt J i) f 0 := by unfold byF; rw [if_neg z, ef]
    have eD : byD J d i = raF (byt J i) (f - byF J i) (byF J i) - byF J i := by unfold byD; rw [if_neg z, ef]
    obtain ⟨a1, a2, a3, a4⟩ := faF_spec (byt J i) f 0
    obtain ⟨b1, b2, b3, b4⟩ := raF_spec (byt J i) (f - byF J i) (byF J i)
    have hlt : faF (byt J i) f 0 < f := by
      rcases Nat.lt_or_ge (faF (byt J i) f 0) f with y | y
      · exact y
      · exfalso
        obtain ⟨j, j1, j2⟩ := cnt_ex (show 0 < cnt (byt J i) 2 1000 by unfold agn at z; omega)
        rcases Nat.lt_or_ge j f with v | v
        · exact a4 j (by omega) (by omega) j2
        · rw [h5 j v j1] at j2
          exact absurd j2 (by decide)
    rw [← eF] at a1 a2 a3 a4 hlt
    have h2' := a3 (by omega)
    have pos : byF J i < raF (byt J i) (f - byF J i) (byF J i) := by
      rcases Nat.lt_or_ge (byF J i) (raF (byt J i) (f - byF J i) (byF J i)) with y | y
      · exact y
      · exfalso
        have e : raF (byt J i) (f - byF J i) (byF J i) = byF J i := by omega
        rw [e] at b3
        exact b3 (by omega) h2'
    refine ⟨by omega, by omega, fun k hk => ?_, fun _ => ⟨hlt, eF, by omega, by omega, by omega⟩, fun y => absurd y z, h5⟩
    rw [b4 (byF J i + k) (by omega) (by omega)]; decide
/-! the room that is left -/
theorem spc_int {q m : Nat} (h : Mq J q m) : ∃ r w, J 26 0 = nI r ∧ J 68 q = nI w ∧ 10 ≤ w ∧ w ≤ r ∧ r ≤ 1000 ∧ rmL J q = r - w ∧ (spc J q).toInt = ((r - w : Nat) : Int) - 8 := by
  obtain ⟨-, -, -, -, w, r, h1, h2, h3, h4, h5⟩ := h
  refine ⟨r, w, h2, h1, h3, h4, h5, by unfold rmL; rw [h1, h2, ntn_nI (by omega), ntn_nI (by omega)], ?_⟩
  unfold spc
  rw [h1, h2, pk_sub h4, show (8 : Int32) = nI 8 from rfl]
  exact pk_sub_toInt (by omega) (by omega)
theorem spc_min {q m D : Nat} (h : Mq J q m) (hD : D ≤ 1000) (h8 : 8 ≤ rmL J q) : (if spc J q < nI D then spc J q else nI D) = nI (mnN D (rmL J q)) := by
  obtain ⟨r, w, a1, a2, a3, a4, a5, a6, a7⟩ := spc_int h
  rw [a6] at h8 ⊢
  obtain ⟨x, x1, x2⟩ := ofIx2 (x := spc J q) (N := 1001) ⟨by omega, by omega⟩
  have hx : (x : Int) = ((r - w : Nat) : Int) - 8 := by rw [← a7, x2, nI_toInt (by omega)]
  unfold mnN
  rw [x2]
  by_cases z : nI x < nI D
  · rw [if_pos z]
    rw [nI_ltI (by omega) (by omega)] at z
    rw [if_neg (by omega)]; congr 1; omega
  · rw [if_neg z]
    rw [nI_ltI (by omega) (by omega)] at z
    rw [if_pos (by omega)]
theorem spc_0 {q m : Nat} (h : Mq J q m) : (0 ≤ (if spc J q < nI 0 then spc J q else nI 0)) ↔ 8 ≤ rmL J q := by
  obtain ⟨r, w, a1, a2, a3, a4, a5, a6, a7⟩ := spc_int h
  by_cases z : spc J q < nI 0
  · rw [if_pos z, Int32.le_iff_toInt_le, a7]
    have := Int32.lt_iff_toInt_lt.mp z
    rw [a7, nI_toInt (by omega)] at this
    show (0 : Int) ≤ _ ↔ _
    omega
  · rw [if_neg z]
    have : ¬ (spc J q).toInt < (nI 0).toInt := fun y => z (Int32.lt_iff_toInt_lt.mpr y)
    rw [a7, nI_toInt (by omega)] at this
    exact ⟨fun _ => by omega, fun _ => by decide⟩
theorem spc_1 {q m D : Nat} (h : Mq J q m) (h1 : 1 ≤ D) (hD : D ≤ 1000) : (1 ≤ (if spc J q < nI D then spc J q else nI D)) ↔ 9 ≤ rmL J q := by
  obtain ⟨r, w, a1, a2, a3, a4, a5, a6, a7⟩ := spc_int h
  have l1 : (1 : Int32).toInt = 1 := rfl
  by_cases z : spc J q < nI D
  · rw [if_pos z, Int32.le_iff_toInt_le, a7, l1]
    omega
  · rw [if_neg z]
    have : ¬ (spc J q).toInt < (nI D).toInt := fun y => z (Int32.lt_iff_toInt_lt.mpr y)
    rw [a7, nI_toInt (by omega)] at this
    refine ⟨fun _ => by omega, fun _ => ?_⟩
    rw [show (1 : Int32) = nI 1 from rfl, nI_leI (by omega) (by omega)]; exact h1
/-! the rows behind -/
theorem spB0_ne {i F C r : Nat} (h1 : r ≠ 31) (h2 : r ≠ 36) : spB0 J i F C r = J r := by unfold spB0; rw [uJ_ne h1, zitB_ne h2]
theorem spB0_byt {i F C j : Nat} : byt (spB0 J i F C) i j = if F ≤ j ∧ j < F + C then 1 else byt J i j := by
  have : byt (spB0 J i F C) i = byt (zitB J i F 1 C) i := by funext j; unfold byt spB0; rw [uJ_ne (by decide)]
  rw [this]; exact byt_zB
theorem spBE_ne {i F C r : Nat} (h1 : r ≠ 31) (h2 : r ≠ 36) (h3 : r ≠ 32) (h4 : r ≠ 33) : spBE J i F C r = J r := by
  unfold spBE
  split
  · rw [uJ_ne h4, uJ_ne h3]; exact spB0_ne h1 h2
  · exact spB0_ne h1 h2
theorem spB0_31 {i F C w f : Nat} (hw : J 27 i = nI w) (hf : J 31 i = nI f) (hfw : f ≤ w) (w1 : w ≤ 1000) (hc : F + C ≤ w) : spB0 J i F C 31 i = nI (if f < F + C then F + C else f) := by
  unfold spB0
  rw [uJ_same, hf]
  exact max_nI (by omega) (by omega)
theorem spB0_iv {i F C w f : Nat} (h : IvS J i) (hw : J 27 i = nI w) (hf : J 31 i = nI f) (hfw : f ≤ w) (w1 : w ≤ 1000) (hz : ∀ j, f ≤ j → j < 1000 → byt J i j = 0) (hc : F + C ≤ w) : IvS (spB0 J i F C) i := by
  have e31 := spB0_31 hw hf hfw w1 hc
  refine h.alt (fun r a b c e g _ => spB0_ne g c ▸ rfl) ⟨w, _, hw, e31, ?_, w1, fun j hj hj2 => ?_⟩ ?_ (fun j hj => ⟨?_, ?_⟩)
  · split <;> omega
  · rw [spB0_byt, if_neg (by split at hj <;> omega)]
    exact hz j (by split at hj <;> omega) hj2
  · obtain ⟨p, r, c1, c2, c3, c4⟩ := h.2.2.1
    exact ⟨p, r, by rw [spB0_ne (by decide) (by decide)]; exact c1, c2, c3, c4⟩
  · rw [spB0_byt]
    split
    · exact ⟨1, by decide, rfl⟩
    · exact (h.2.2.2.2.2 j hj).1
  · unfold cam
    rw [spB0_ne (by decide) (by decide)]; exact (h.2.2.2.2.2 j hj).2
theorem spBE_iv {i F C : Nat} (h : IvS (spB0 J i F C) i) : IvS (spBE J i F C) i := by
  unfold spBE
  split
  · exact (h.flag (r := 32) (by decide) (Or.inr rfl)).flag (r := 33) (by decide) (Or.inl rfl)
  · exact h
theorem spB0_hi {i F C : Nat} : agHi J (spB0 J i F C) := ⟨fun r a b => spB0_ne (by omega) (by omega), fun k _ => by rw [spB0_ne (by decide) (by decide)]⟩
theorem spBE_hi {i F C : Nat} : agHi J (spBE J i F C) := ⟨fun r a b => spBE_ne (by omega) (by omega) (by omega) (by omega), fun k _ => by rw [spBE_ne (by decide) (by decide) (by decide) (by decide)]⟩
theorem spB0_o {i i' F C : Nat} (hne : i' ≠ i) (hc : F + C ≤ 1000) : agS J (spB0 J i F C) i' := by
  refine ⟨fun r a b c e => ?_, fun j hj => ⟨?_, ?_⟩⟩
  · unfold spB0
    rw [uJ_off _ _ (Or.inr hne), zitB_ne c]
  · unfold byt spB0
    rw [uJ_ne (by decide), zitB_at, if_neg (by omega)]
  · unfold cam
    rw [spB0_ne (by decide) (by decide)]
theorem spBE_o {i i' F C : Nat} (hne : i' ≠ i) (hc : F + C ≤ 1000) : agS J (spBE J i F C) i' := by
  unfold spBE
  have h0 := spB0_o (J := J) hne hc
  split
  · refine ⟨fun r a b c e => ?_, fun j hj => ⟨?_, ?_⟩⟩
    · rw [uJ_off _ _ (Or.inr hne), uJ_off _ _ (Or.inr hne)]; exact h0.1 r a b c e
    · rw [← (h0.2 j hj).1]
      unfold byt
      rw [uJ_ne (by decide), uJ_ne (by decide)]
    · rw [← (h0.2 j hj).2]
      unfold cam
      rw [uJ_ne (by decide), uJ_ne (by decide)]
  · exact h0
theorem spB0_frs {i F C w f i' : Nat} (hw : J 27 i = nI w) (hf : J 31 i = nI f) (hfw : f ≤ w) (w1 : w ≤ 1000) (hc : F + C ≤ w) : frs J i' ≤ frs (spB0 J i F C) i' := by
  by_cases z : i' = i
  · subst z
    unfold frs
    rw [spB0_31 hw hf hfw w1 hc, hf, tnN (by omega), tnN (by split <;> omega)]
    split <;> omega
  · unfold frs spB0
    rw [uJ_off _ _ (Or.inr z), zitB_ne (by decide)]
    exact Nat.le_refl _
theorem spBE_31 {i F C : Nat} : spBE J i F C 31 = spB0 J i F C 31 := by
  unfold spBE
  split
  · rw [uJ_ne (by decide), uJ_ne (by decide)]
  · rfl
theorem spBE_frs {i F C w f i' : Nat} (hw : J 27 i = nI w) (hf : J 31 i = nI f) (hfw : f ≤ w) (w1 : w ≤ 1000) (hc : F + C ≤ w) : frs J i' ≤ frs (spBE J i F C) i' := by
  have h0 := spB0_frs (i' := i') hw hf hfw w1 hc
  unfold frs at h0 ⊢
  rw [spBE_31]; exact h0
/-- some store that says what the rows say -/
theorem Rel.rebuild {J' : Rows} {i : Nat} (h : Rel T J) (hi : i < 8) (ha : agHi J J') (h4 : is01 (J' 26 4)) (hx : ∀ i', i' < 8 → i' ≠ i → agS J J' i') (h2 : IvS J' i) (h3 : frs J i ≤ frs J' i) : ∃ T', gR T' = gR T ∧ sN T' = sN T ∧ (∀ a, a ≠ 3 + 2 * i → a ≠ 4 + 2 * i → gI T' a = gI T a) ∧ Rel T' J' := by
  refine ⟨(sN T, fun a => if a = 3 + 2 * i then (fun k => if k = 9 then eSt (J' 32 i) (J' 33 i) (J' 34 i) else if k = 6 then nI (cnt (byt J' i) 3 1000) else if k = 7 then nI (cnt (byt J' i) 2 1000) else if k = 10 then nI (cnt (cam J' i) 1 1000) else J' (rs k) i) else if a = 4 + 2 * i then (fun j => byt J' i j + 4 * cam J' i j) else gI T a, gR T), rfl, rfl, fun a h1 h2 => ?_, ?_⟩
  · show (if a = 3 + 2 * i then _ else if a = 4 + 2 * i then _ else gI T a) = gI T a
    rw [if_neg h1, if_neg h2]
  · refine h.str (h.f.same rfl rfl) rfl rfl (fun a h1 h2 => ?_) hi ha h4 hx ?_ h2 h3
    · show (if a = 3 + 2 * i then _ else if a = 4 + 2 * i then _ else gI T a) = gI T a
      rw [if_neg h1, if_neg h2]
    · show RSt (if 3 + 2 * i = 3 + 2 * i then _ else _) (if 4 + 2 * i = 3 + 2 * i then _ else if 4 + 2 * i = 4 + 2 * i then _ else _) J' i
      rw [if_pos rfl, if_neg (by omega), if_pos rfl]
      refine ⟨fun k hk => ?_, rfl, fun j _ => rfl, rfl, rfl, rfl⟩
      have t : ∀ k ∈ ksS, k ≠ 9 ∧ k ≠ 6 ∧ k ≠ 7 ∧ k ≠ 10 := by decide
      obtain ⟨t1, t2, t3, t4⟩ := t k hk
      show (if k = 9 then _ else if k = 6 then _ else if k = 7 then _ else if k = 10 then _ else J' (rs k) i) = J' (rs k) i
      rw [if_neg t1, if_neg t2, if_neg t3, if_neg t4]
theorem FQ.byPart {d p q m i F C w f : Nat} (h : FQ T (spBE J i F C) d p q m) (hd : d < 2) (hm : m < 16) (hi : i < 8) (hw : J 27 i = nI w) (hf : J 31 i = nI f) (hfw : f ≤ w) (w1 : w ≤ 1000) (hc : F + C ≤ w) (hfit : fits J q (nI (8 + C))) : FQ (adS T p m 4 (nI (8 + C)) (nI i) (nI F) (nI (C + 10000 * byE J i F C)) (J 68 q)) (spB1 J q i F C) d p q (m + 1) := by
  have e68 : spBE J i F C 68 = J 68 := spBE_ne (by decide) (by decide) (by decide) (by decide)
  have e26 : spBE J i F C 26 = J 26 := spBE_ne (by decide) (by decide) (by decide) (by decide)
  have hE : byE J i F C ≤ 1 := by unfold byE; split <;> omega
  have hfr : F + C ≤ frs (spBE J i F C) i := by
    unfold frs
    rw [spBE_31, spB0_31 hw hf hfw w1 hc, tnN (by split <;> omega)]
    split <;> omega
  have := h.add hd hm (z := 8 + C) (by omega) (by unfold fits; rw [e68, e26]; exact hfit) (kind := 4) (a := nI i) (b := nI F) (c := nI (C + 10000 * byE J i F C)) (Or.inr (Or.inr (Or.inr (Or.inl ⟨rfl, i, F, C, byE J i F C, hi, rfl, rfl, rfl, hfr, by omega, hE⟩)))) (by decide)
  rw [e68] at this
  exact this
theorem by_fit {d q m i : Nat} (hM : Mq J q m) (hok : byOK J d q i) : fits J q (nI (8 + byC J d q i)) ∧ byC J d q i ≤ byD J d i ∧ byC J d q i ≤ 1000 := by
  obtain ⟨r, w, a1, a2, a3, a4, a5, a6, a7⟩ := spc_int hM
  have h8 := hok.2.2
  have h9 : 8 ≤ rmL J q := by split at h8 <;> omega
  unfold byC mnN
  unfold fits
  rw [a6] at h9 ⊢
  rw [a1, a2, nI_add, nI_leI (by split <;> omega) (by omega)]
  split <;> omega
theorem EQ.b1 {d q M i : Nat} (h : EQ J d q M) (hd : d < 2) (hM : M < 16) (hi : i < 8) (hok : byOK J d q i) : EQ (spB1 J q i (byF J i) (byC J d q i)) d q (M + 1) := by
  obtain ⟨T, p, m, hm, F⟩ := h
  obtain ⟨w, f, b1, b2, b3, b4, b5, b6, b7, b8, b9, b10, b11⟩ := by_facts d (F.2.1.vs hi)
  obtain ⟨c1, c2, c3⟩ := by_fit (F.mq hd) hok
  have hc : byF J i + byC J d q i ≤ w := by omega
  obtain ⟨T', g1, g2, g3, g4⟩ := F.2.1.rebuild hi (spBE_hi (F := byF J i) (C := byC J d q i)) (by rw [spBE_ne (by decide) (by decide) (by decide) (by decide)]; exact F.2.1.vg.2.2.2.1) (fun i' _ hne => spBE_o hne (by omega)) (spBE_iv (spB0_iv (F.2.1.vs hi) b1 b2 b4 b5 b11 hc)) (spBE_frs b1 b2 b4 b5 hc)
  have F2 : FQ T' (spBE J i (byF J i) (byC J d q i)) d p q m := F.mv g4 (fun a ha => g3 a (by omega) (by omega)) g1 g2 (fun r hr => spBE_ne (by omega) (by omega) (by omega) (by omega)) (fun i' _ => spBE_frs b1 b2 b4 b5 hc)
  exact ⟨_, p, m + 1, by omega, F2.byPart hd (by omega) hi b1 b2 b4 b5 hc c1⟩
/-! the class -/
theorem row3 {i j : Nat} (h : Rel T J) (hi : i < 8) (hj : j < 1000) : (gI T (4 + 2 * i) j &&& 3) = byt J i j := by
  obtain ⟨b, c, b4, c2, e1, e2, e3⟩ := (zLS.of h hi).bit hj
  rw [e3, e1]; exact (bk b b4 c c2).1
theorem c_firstAgain {i f : Nat} {Q : Int32 → Sto → Prop} (hR : Rel T J) (hi : i < 8) (hf : J 31 i = nI f) (f1 : f ≤ 1000) (h : Q (nI (faF (byt J i) f 0)) T) : Ci K3_firstAgain [vr (3 + 2 * i)] T Q := by
  have e5 : gI T (3 + 2 * i) 5 = nI f := by rw [← hf]; exact (hR.s hi).1 5 (by decide)
  refine e3_firstAgain hR.f (hR.f.st hi) (fun X O => ?_)
  have loop : ∀ (b j : Nat), j + b = f → (∀ k, k < j → ¬ byt J i k = 2) → WP X 2 [(0, vr (3 + 2 * i)), (1, vi (nI j))] [] T 0 0 := by
    intro b
    induction b with
    | zero =>
      intro j hj hn
      have hjf : j = f := by omega
      subst hjf
      refine s3_firstAgain_2 hR.f (Nat.le_refl _) O (hR.f.st hi) ?_
      rw [e5]
      refine ⟨fun _ => ?_, fun hc => absurd (nle (Nat.le_refl _) (by omega)) hc⟩
      obtain ⟨a1, a2, a3, a4⟩ := faF_spec (byt J i) j 0
      have : faF (byt J i) j 0 = j := by
        rcases Nat.lt_or_ge (faF (byt J i) j 0) j with y | y
        · exact absurd (a3 (by omega)) (hn _ y)
        · omega
      rw [this] at h; exact h
    | succ b ih =>
      intro j hj hn
      refine s3_firstAgain_2 hR.f (Nat.le_refl _) O (hR.f.st hi) ?_
      rw [e5, tnN (show j < 2 ^ 31 by omega), show 3 + 2 * i + 1 = 4 + 2 * i by omega, row3 hR hi (by omega), nI_suc]
      refine ⟨fun hc => ?_, fun _ => ⟨ixN (by omega) (by decide), fun c => ?_, fun c => ih (j + 1) (by omega) (fun k hk => ?_)⟩⟩
      · rw [nI_leI (by omega) (by omega)] at hc; omega
      · have : faF (byt J i) f 0 = j := faF_eq (by omega) (by omega) c (fun k _ hk => hn k hk)
        rw [this] at h; exact h
      · rcases (show k = j ∨ k < j by omega) with rfl | y
        · exact c
        · exact hn k y
  exact loop f 0 (by omega) (fun k hk => by omega)
theorem c_countAgain {i f a : Nat} {Q : Int32 → Sto → Prop} (hR : Rel T J) (hi : i < 8) (hf : J 31 i = nI f) (f1 : f ≤ 1000) (ha : a ≤ f) (h : Q (nI (raF (byt J i) (f - a) a - a)) T) : Ci K3_countAgainFrom [vr (3 + 2 * i), vi (nI a)] T Q := by
  have e5 : gI T (3 + 2 * i) 5 = nI f := by rw [← hf]; exact (hR.s hi).1 5 (by decide)
  refine e3_countAgainFrom hR.f (hR.f.st hi) (fun X O => ?_)
  have loop : ∀ (b j : Nat), j + b = f → a ≤ j → (∀ k, a ≤ k → k < j → byt J i k = 2) → WP X 2 [(0, vr (3 + 2 * i)), (1, vi (nI a)), (2, vi (nI j))] [] T 0 0 := by
    intro b
    induction b with
    | zero =>
      intro j hj haj hn
      have hjf : j = f := by omega
      subst hjf
      refine s3_countAgainFrom_2 hR.f (Nat.le_refl _) O (hR.f.st hi) ?_
      rw [e5, pk_sub haj]
      refine ⟨fun _ => ?_, fun hc => absurd (nle (Nat.le_refl _) (by omega)) hc⟩
      have : raF (byt J i) (j - a) a = j := raF_eq haj (by omega) (Or.inl (by omega)) hn
      rw [this] at h; exact h
    | succ b ih =>
      intro j hj haj hn
      refine s3_countAgainFrom_2 hR.f (Nat.le_refl _) O (hR.f.st hi) ?_
      rw [e5, pk_sub haj, tnN (show j < 2 ^ 31 by omega), show 3 + 2 * i + 1 = 4 + 2 * i by omega, row3 hR hi (by omega), nI_suc]
      refine ⟨fun hc => ?_, fun _ => ⟨ixN (by omega) (by decide), fun c => ?_, fun c => ih (j + 1) (by omega) (by omega) (fun k hk hk2 => ?_)⟩⟩
      · rw [nI_leI (by omega) (by omega)] at hc; omega
      · have : raF (byt J i) (f - a) a = j := raF_eq haj (by omega) (Or.inr c) hn
        rw [this] at h; exact h
      · rcases (show k = j ∨ k < j by omega) with rfl | y
        · exact c
        · exact hn k hk y
  exact loop (f - a) a (by omega) (Nat.le_refl _) (fun k h1 h2 => by omega)
theorem c_newBytesOf {d i : Nat} {Q : Int32 → Sto → Prop} (hR : Rel T J) (hd : d < 2) (hi : i < 8) (h : Q (nwN J d i) T) : Ci K4_newBytesOf [vr 0, vr (20 + 3 * d), vr (3 + 2 * i)] T Q := by
  have g0 : gI T (20 + 3 * d) 0 = nI d := (hR.d hd).2.2.1
  have e8 : gI T (20 + 3 * d) 8 = J 57 d := (hR.d hd).1 8 (by decide)
  have s8 : gI T (3 + 2 * i) 8 = J 35 i := (hR.s hi).1 8 (by decide)
  have s1 : gI T (3 + 2 * i) 1 = J 27 i := (hR.s hi).1 1 (by decide)
  have s5 : gI T (3 + 2 * i) 5 = J 31 i := (hR.s hi).1 5 (by decide)
  refine e4_newBytesOf hR.f (hR.f.sd hd) (hR.f.st hi) (c_counted hR.f hd g0 ?_)
  rw [hR.sm31 hd, e8, s8, s1, s5]
  exact h
theorem c_addBytesOf {d p q m i : Nat} {Q : Int32 → Sto → Prop} (h : FQ T J d p q m) (hd : d < 2) (hm : m < 16) (hi : i < 8) (h0 : ¬ byOK J d q i → Q 0 T)
    (h1 : byOK J d q i → ∀ T', Ev T T' → (∀ k, gI T' (20 + 3 * d) k = gI T (20 + 3 * d) k) → FQ T' (spB1 J q i (byF J i) (byC J d q i)) d p q (m + 1) → Q 1 T') : Ci K4_addBytesOf [vr 0, vr (20 + 3 * d), vi (nI i), vr p] T Q := by
  have p79 := h.p79
  have hR := h.2.1
  have hM := h.mq hd
  have hal := h.2.2.1.1
  obtain ⟨w, f, b1, b2, b3, b4, b5, b6, b7, b8, b9, b10, b11⟩ := by_facts d (hR.vs hi)
  have g3 : gI T (3 + 2 * i) 3 = J 29 i := (hR.s hi).1 3 (by decide)
  have g7 : gI T (3 + 2 * i) 7 = nI (agn J i) := (hR.s hi).2.2.2.2.1
  have g5 : gI T (3 + 2 * i) 5 = nI f := by rw [← b2]; exact (hR.s hi).1 5 (by decide)
  have a1000 : agn J i ≤ 1000 := cnt_le _ _ _
  have le0 : nI (agn J i) ≤ 0 ↔ agn J i = 0 := by
    rw [show (0 : Int32) = nI 0 from rfl, nI_leI (by omega) (by omega)]; omega
  have p4 : gI T p 4 = J 26 0 := by
    obtain ⟨rfl, -, hP, -⟩ := h
    exact hP.2.2.2.2.2.1.2.2.2.2
  have p8 : gI T p 8 = J 68 q := by
    obtain ⟨rfl, -, hP, -⟩ := h
    exact hP.2.2.2.2.2.2.2.1.2.2.1
  have edv : ∀ (U : Sto) (K : Rows), Rel U K → (if gI U (3 + 2 * i) 2 = 0 then 0 else (if gI U (3 + 2 * i) 5 = gI U (3 + 2 * i) 1 then (if gI U (3 + 2 * i) 9 = 0 then 1 else (if gI U (3 + 2 * i) 9 = 2 then 1 else 0 : Int32) : Int32) else 0 : Int32) : Int32) = edW K i := fun U K R => by
    have u2 : gI U (3 + 2 * i) 2 = K 28 i := (R.s hi).1 2 (by decide)
    have u5 : gI U (3 + 2 * i) 5 = K 31 i := (R.s hi).1 5 (by decide)
    have u1 : gI U (3 + 2 * i) 1 = K 27 i := (R.s hi).1 1 (by decide)
    have u9 : gI U (3 + 2 * i) 9 = eSt (K 32 i) (K 33 i) (K 34 i) := (R.s hi).2.1
    rw [u2, u5, u1, u9]; rfl
  refine e4_addBytesOf hR.f (hR.f.sd hd) hal (fun X O => c_strA hR.f hi ⟨fun b hb => by cases hb; exact hR.f.st hi, fun b hb => ?_, fun hb => by cases hb⟩)
  cases hb
  rw [g3, g7, g5]
  -- it is sent
  have at118 : byOK J d q i → WP X 118 [(2, vi (nI i)), (3, vr p), (4, vr (3 + 2 * i)), (5, vi (nI (byF J i))), (7, vi (nI (byC J d q i)))] [] T 0 0 := by
    intro hok
    obtain ⟨c1, c2, c3⟩ := by_fit hM hok
    have hc : byF J i + byC J d q i ≤ w := by omega
    refine s4_addBytesOf_118 hR.f (Nat.le_refl _) O hal (hR.f.st hi) (c_markSent hR hi (by omega) (fun k hk => b8 k (by omega)) (fun T1 z => ?_))
    have z' : zLS T T1 (spB0 J i (byF J i) (byC J d q i)) i := z
    have R1 : Rel T1 (spB0 J i (byF J i) (byC J d q i)) := hR.ofz z' hi spB0_hi (by rw [spB0_ne (by decide) (by decide)]; exact hR.vg.2.2.2.1) (fun i' _ hne => spB0_o hne (by omega)) (spB0_iv (hR.vs hi) b1 b2 b4 b5 b11 hc) (spB0_frs b1 b2 b4 b5 hc)
    have F1 : FQ T1 (spB0 J i (byF J i) (byC J d q i)) d p q m := h.mv R1 (fun a ha => z'.2.2.1 a (by omega) (by omega)) z'.1 z'.2.1 (fun r hr => spB0_ne (by omega) (by omega)) (fun i' _ => spB0_frs b1 b2 b4 b5 hc)
    have E1 : Ev T T1 := Ev.z z' hi
    have sd1 : ∀ k, gI T1 (20 + 3 * d) k = gI T (20 + 3 * d) k := fun k => by rw [z'.2.2.1 _ (by omega) (by omega)]
    rw [edv T1 _ R1]
    have at145 : ∀ (U : Sto), Ev T U → (∀ k, gI U (20 + 3 * d) k = gI T (20 + 3 * d) k) → FQ U (spBE J i (byF J i) (byC J d q i)) d p q m → WP X 145 [(2, vi (nI i)), (3, vr p), (5, vi (nI (byF J i))), (7, vi (nI (byC J d q i))), (8, vi (edW (spB0 J i (byF J i) (byC J d q i)) i))] [] U 0 0 := by
      intro U E sd F
      refine s4_addBytesOf_145 F.2.1.f (by rw [E.2.1]; exact Nat.le_refl _) O F.2.2.1.1 (fun w1 hw1 => ?_)
      have hE : byE J i (byF J i) (byC J d q i) ≤ 1 := by unfold byE; split <;> omega
      have ew1 : w1 = nI (byC J d q i + 10000 * byE J i (byF J i) (byC J d q i)) := by
        rw [hw1]
        unfold byE
        by_cases y : edP (spB0 J i (byF J i) (byC J d q i)) i
        · rw [if_pos y, if_neg (fun v => edW0.mp v y), show (10000 : Int32) = nI 10000 from rfl, nI_add]
        · rw [if_neg y, if_pos (edW0.mpr y)]; rfl
      have ewf : wOf 4 w1 = nI (8 + byC J d q i) := by
        rw [ew1]
        show 8 + (nI (byC J d q i + 10000 * byE J i (byF J i) (byC J d q i)) - nI (byC J d q i + 10000 * byE J i (byF J i) (byC J d q i)) / 10000 * 10000) = _
        rw [remE (by omega) hE, show (8 : Int32) = nI 8 from rfl, nI_add]
      have hfit : fits (spBE J i (byF J i) (byC J d q i)) q (nI (8 + byC J d q i)) := by
        unfold fits
        rw [spBE_ne (by decide) (by decide) (by decide) (by decide), spBE_ne (by decide) (by decide) (by decide) (by decide)]
        exact c1
      refine c_addQ F (by omega) (by omega) ewf (fun v => absurd hfit v) (fun _ => ⟨Or.inr rfl, ?_⟩)
      rw [ew1, spBE_ne (r := 68) (by decide) (by decide) (by decide) (by decide)]
      refine h1 hok _ (E.tr (adS_ev p79)) (fun k => ?_) (F.byPart hd hm hi b1 b2 b4 b5 hc c1)
      rw [adS_o (by omega) (by omega)]; exact sd k
    refine ⟨fun y => at145 T1 E1 sd1 ?_, fun y => at145 _ (E1.p (by omega)) (fun k => by rw [gI_ne (by omega)]; exact sd1 k) ?_⟩
    · have e : spBE J i (byF J i) (byC J d q i) = spB0 J i (byF J i) (byC J d q i) := if_neg (edW0.mp y)
      rw [e]; exact F1
    · have hed : edP (spB0 J i (byF J i) (byC J d q i)) i := Classical.not_not.mp (fun v => y (edW0.mpr v))
      have e : spBE J i (byF J i) (byC J d q i) = uJ (uJ (spB0 J i (byF J i) (byC J d q i)) 32 i 1) 33 i 0 := if_pos hed
      rw [e]
      have R2 : Rel (pI T1 (3 + 2 * i) 9 1) (uJ (uJ (spB0 J i (byF J i) (byC J d q i)) 32 i 1) 33 i 0) := by
        refine R1.endS hi (fun r n1 n2 n3 => by rw [uJ_ne n2, uJ_ne n1]) (fun r k hk => by rw [uJ_off _ _ (Or.inr hk), uJ_off _ _ (Or.inr hk)]) ⟨?_, ?_, ?_⟩ ?_
        · rw [uJ_ne (by decide), uJ_same]; exact Or.inr rfl
        · rw [uJ_same]; exact Or.inl rfl
        · rw [uJ_ne (by decide), uJ_ne (by decide)]; exact Or.inl hed.2.2.1
        · rw [uJ_ne (show (32 : Nat) ≠ 33 by decide), uJ_same, uJ_same, uJ_ne (show (34 : Nat) ≠ 33 by decide), uJ_ne (show (34 : Nat) ≠ 32 by decide), hed.2.2.1]; rfl
      exact F1.mv R2 (fun a ha => gI_ne (by omega)) rfl rfl (fun r hr => by rw [uJ_ne (by omega), uJ_ne (by omega)]) (fun i' _ => frs_eq (by rw [uJ_ne (by decide), uJ_ne (by decide)]) i')
  have at72 : J 29 i = 0 → WP X 72 [(2, vi (nI i)), (3, vr p), (4, vr (3 + 2 * i)), (5, vi (nI (byF J i))), (6, vi (nI (byD J d i)))] [] T 0 0 := by
    intro h29
    refine s4_addBytesOf_72 hR.f (Nat.le_refl _) O hal (hR.f.st hi) (c_weightOf hR.f ?_)
    rw [edv T J hR, p4, p8, show wOf 4 0 = 8 by decide]
    show (nI (byD J d i) ≤ 0 → (edW J i = 0 → Q 0 T) ∧ (¬ edW J i = 0 → (0 ≤ (if spc J q < nI (byD J d i) then spc J q else nI (byD J d i)) → WP X 118 [(2, vi (nI i)), (3, vr p), (4, vr (3 + 2 * i)), (5, vi (nI (byF J i))), (7, vi (if spc J q < nI (byD J d i) then spc J q else nI (byD J d i)))] [] T 0 0) ∧ (¬ 0 ≤ (if spc J q < nI (byD J d i) then spc J q else nI (byD J d i)) → Q 0 T))) ∧
      (¬ nI (byD J d i) ≤ 0 → (1 ≤ (if spc J q < nI (byD J d i) then spc J q else nI (byD J d i)) → WP X 118 [(2, vi (nI i)), (3, vr p), (4, vr (3 + 2 * i)), (5, vi (nI (byF J i))), (7, vi (if spc J q < nI (byD J d i) then spc J q else nI (byD J d i)))] [] T 0 0) ∧ (¬ 1 ≤ (if spc J q < nI (byD J d i) then spc J q else nI (byD J d i)) → Q 0 T))
    have d0 : nI (byD J d i) ≤ 0 ↔ byD J d i = 0 := by
      rw [show (0 : Int32) = nI 0 from rfl, nI_leI (by omega) (by omega)]; omega
    refine ⟨fun c => ?_, fun c => ?_⟩
    · have c' := d0.mp c
      have s0 : (0 ≤ (if spc J q < nI (byD J d i) then spc J q else nI (byD J d i))) ↔ 8 ≤ rmL J q := by rw [c']; exact spc_0 hM
      refine ⟨fun y => h0 (fun ok => edW0.mp y (ok.2.1 c')), fun y => ⟨fun v => ?_, fun v => h0 (fun ok => ?_)⟩⟩
      · have v' := s0.mp v
        have hok : byOK J d q i := ⟨h29, fun _ => Classical.not_not.mp (fun t => y (edW0.mpr t)), by rw [if_pos c']; exact v'⟩
        rw [spc_min hM (by omega) v']
        exact at118 hok
      · have := ok.2.2
        rw [if_pos c'] at this
        exact v (s0.mpr this)
    · have c' : ¬ byD J d i = 0 := fun v => c (d0.mpr v)
      have s1 : (1 ≤ (if spc J q < nI (byD J d i) then spc J q else nI (byD J d i))) ↔ 9 ≤ rmL J q := spc_1 hM (by omega) (by omega)
      refine ⟨fun v => ?_, fun v => h0 (fun ok => ?_)⟩
      · have v' := s1.mp v
        have hok : byOK J d q i := ⟨h29, fun t => absurd t c', by rw [if_neg c']; exact v'⟩
        rw [spc_min hM (by omega) (by omega)]
        exact at118 hok
      · have := ok.2.2
        rw [if_neg c'] at this
        exact v (s1.mpr this)
  have at45 : J 29 i = 0 → WP X 45 [(0, vr 0), (1, vr (20 + 3 * d)), (2, vi (nI i)), (3, vr p), (4, vr (3 + 2 * i)), (5, vi (nI (byF J i)))] [] T 0 0 := by
    intro h29
    refine s4_addBytesOf_45 hR.f (Nat.le_refl _) O (hR.f.sd hd) hal (hR.f.st hi) ?_
    rw [g7]
    refine ⟨fun c => c_newBytesOf hR hd hi ?_, fun c => c_countAgain hR hi b2 (by omega) b6 ?_⟩
    · rw [(b10 (le0.mp c)).2.1]; exact at72 h29
    · obtain ⟨k1, k2, k3, k4, k5⟩ := b9 (fun v => c (le0.mpr v))
      rw [← k5, show byF J i + byD J d i - byF J i = byD J d i by omega]
      exact at72 h29
  refine ⟨fun c => ⟨fun c2 => ?_, fun c2 => ?_⟩, fun c => h0 (fun ok => c ok.1)⟩
  · have := at45 c
    rw [(b10 (le0.mp c2)).1] at this
    exact this
  · refine c_firstAgain hR hi b2 (by omega) ?_
    have := at45 c
    rw [(b9 (fun v => c2 (le0.mpr v))).2.1] at this
    exact this
end BYTESOF
