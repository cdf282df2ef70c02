section GETS
variable {T T0 : Sto} {J : Rows}
set_option maxHeartbeats 4000000 in
set_option maxRecDepth 100000 in
theorem e4_stateG {S : Sto} {Q : Int32 → Sto → Prop} (hF : Fx S) {p1 : Int32} {p2 : Int32}  (h : Co K4_streamAt [vr 0, vi p1] S (fun x1 S1 => (∀ b, x1 = some b → al S1 b 3) ∧ ((∀ b3 : Nat, x1 = some b3 → ((∀ w10 : Int32, w10 = (if p2 < 0 then (-1) else (if p2 < 1000 then (gI S1 (b3 + 1) p2.toNatClampNeg) else (-1) : Int32) : Int32) → (Q w10 S1)))) ∧ (x1 = none → (Q (-1) S1))))) : Ci K4_state [vr 0, vi p1, vi p2] S Q := by
  refine Ci.intro rfl (Nat.le_of_ble_eq_true rfl) (fun X O => ?_)
  have C := O.1
  have hn : sN S ≤ sN S := Nat.le_refl _
  show WP X 0 [(0, vr 0), (1, vi p1), (2, vi p2)] [] S 0 0
  refine r_aloadn C 0 dX4_state_0 rfl ?_
  refine r_iloadn C 1 dX4_state_1 rfl ?_
  refine r_callVo C K4_streamAt [vi p1] [] (hF.k (by decide) rfl) (by decide) rfl cl_4_68 rm_4_state_4_streamAt ⟨rfl, rfl⟩ (by decide) (by decide) rfl (Nat.le_of_ble_eq_true rfl) dX4_state_2 h (fun x1 S1 hF1 hn1 h => ?_)
  obtain ⟨hk2, h⟩ := h
  refine r_astoren C dX4_state_5 (by decide) rfl rfl ?_
  refine r_aloadn C 0 dX4_state_6 rfl ?_
  refine r_ifnull C dX4_state_7 (tgt := 21) (by decide) (fun hb4 => ?_) (fun b3 hb4 => ?_)
  · replace h := h.2 hb4
    refine r_iconst C (x := (-1)) dX4_state_21 (by decide) ?_
    refine r_goto C dX4_state_22 (tgt := 31) (by decide) ?_
    exact ri O ⟨_, rfl, rfl⟩ dX4_state_31 (by decide) (by decide) hF1 (Nat.le_trans hn hn1) h
  · replace h := h.1 b3 hb4
    try rw [hb4]
    refine r_iloadn C 3 dX4_state_10 rfl ?_
    have kJ11 : ∀ (w10 : Int32) (_ : w10 = (if p2 < 0 then (-1) else (if p2 < 1000 then (gI S1 (b3 + 1) p2.toNatClampNeg) else (-1) : Int32) : Int32)), WP X 31 [] [vi w10] S1 0 0 := by
      intro w10 hw10
      replace h := h w10 hw10
      exact ri O ⟨_, rfl, rfl⟩ dX4_state_31 (by decide) (by decide) hF1 (Nat.le_trans hn hn1) h
    refine r_if_lt C dX4_state_11 (tgt := 21) (by decide) (fun hc12 => ?_) (fun hc12 => ?_)
    · refine r_iconst C (x := (-1)) dX4_state_21 (by decide) ?_
      refine r_goto C dX4_state_22 (tgt := 31) (by decide) ?_
      refine r_perm [] rfl ?_
      exact kJ11 _ (if_pos hc12).symm
    · refine r_iloadn C 3 dX4_state_14 rfl ?_
      refine r_sipush C (x := 1000) dX4_state_15 (by decide) ?_
      have kJ13 : WP X 31 [] [vi (if p2 < 1000 then (gI S1 (b3 + 1) p2.toNatClampNeg) else (-1) : Int32)] S1 0 0 := by
        refine r_perm [] rfl ?_
        exact kJ11 _ (if_neg hc12).symm
      refine r_icmp_lt C dX4_state_18 (tgt := 25) (by decide) (fun hc14 => ?_) (fun hc14 => ?_)
      · have hi9 : 0 ≤ (p2 : Int32).toInt ∧ (p2 : Int32).toInt < (1000 : Nat) := by
          have a1 : ¬ p2.toInt < (0 : Int32).toInt := fun z => hc12 (Int32.lt_iff_toInt_lt.mpr z)
          have a2 : p2.toInt < (1000 : Int32).toInt := Int32.lt_iff_toInt_lt.mp hc14
          have a3 : (0 : Int32).toInt = 0 := rfl
          have a4 : (1000 : Int32).toInt = 1000 := rfl
          omega
        refine r_aloadn C 0 dX4_state_25 rfl ?_
        refine r_getR C (hk2 _ hb4) fl_4_217 rfl (hF1.rowR (hk2 _ hb4)) dX4_state_26 ?_
        refine r_iloadn C 3 dX4_state_29 rfl ?_
        refine r_bald C (hF1.row (hk2 _ hb4)) (ixL (n := 1000) (Fx.rowL (hk2 _ hb4)) hi9) dX4_state_30 ?_
        refine r_perm [] rfl ?_
        rw [show (if p2 < 1000 then (gI S1 (b3 + 1) p2.toNatClampNeg) else (-1) : Int32) = (gI S1 (b3 + 1) p2.toNatClampNeg) from if_pos hc14] at kJ13
        exact kJ13
      · refine r_iconst C (x := (-1)) dX4_state_21 (by decide) ?_
        refine r_goto C dX4_state_22 (tgt := 31) (by decide) ?_
        refine r_perm [] rfl ?_
        rw [show (if p2 < 1000 then (gI S1 (b3 + 1) p2.toNatClampNeg) else (-1) : Int32) = (-1) from if_neg hc14] at kJ13
        exact kJ13
def aStr (J : Rows) (i : Nat) (w : Int32) : Int32 := if w = 0 then J 27 i else if w = 1 then (if J 28 i = 0 then 0 else 1) else if w = 2 then (if J 29 i = 0 then 0 else 1) else if w = 3 then J 31 i else if w = 4 then nI (cnt (byt J i) 3 1000) else if w = 5 then nI (cnt (byt J i) 2 1000) else if w = 6 then J 35 i else if w = 7 then (if J 34 i = 0 then 0 else 1) else if w = 8 then nI (cnt (cam J i) 1 1000) else if w = 9 then J 38 i else if w = 10 then J 39 i else if w = 11 then J 40 i else if w = 12 then (if J 41 i = 0 then 0 else 1) else if w = 13 then J 42 i else if w = 14 then (if J 43 i = 0 then 0 else 1) else -2
def aSd (J : Rows) (d : Nat) (w : Int32) : Int32 := if w = 0 then J 44 d else if w = 1 then J 45 d else if w = 2 then J 46 d else if w = 3 then J 47 d else if w = 4 then J 48 d else if w = 5 then J 49 d else if w = 6 then J 50 d else if w = 7 then J 51 d else if w = 8 then J 52 d else if w = 9 then (if J 53 d = 0 then 0 else 1) else if w = 10 then J 54 d else if w = 11 then J 55 d else if w = 12 then (if J 56 d = 0 then 0 else 1) else if w = 13 then J 57 d else if w = 14 then sm (J 31) d else if w = 15 then (if J 58 d = 0 then 0 else 1) else if w = 16 then J 59 d else -2
def aPk (J : Rows) (q : Nat) (w : Int32) : Int32 := if w = 0 then J 66 q else if w = 1 then J 67 q else if w = 2 then J 68 q else if w = 3 then J 69 q else if w = 4 then (if J 70 q = 0 then 0 else 1) else if w = 5 then (if J 71 q = 0 then 0 else 1) else if w = 6 then (if J 72 q = 0 then 0 else 1) else if w = 7 then (if J 73 q = 0 then 0 else 1) else -2
def aSt (J : Rows) (i j : Nat) : Int32 := J 36 (1000 * i + j) + (if J 37 (1000 * i + j) = 0 then 0 else 4)
def aPt (J : Rows) (q k w : Nat) : Int32 := if w < 4 then prt J q k w else if prt J q k 0 = 1 ∧ nI ((w - 4) / 2) < prt J q k 3 then J 75 (8 * q + (w - 4)) else -6
theorem c_strG {w : Int32} {i : Nat} {Q : Int32 → Sto → Prop} (hR : Rel T J) (hi : i < 8) (h : Q (aStr J i w) T) : Ci K4_stream [vr 0, vi (nI i), vi w] T Q := by
  have s := (hR.s hi).1
  have v9 : gI T (3 + 2 * i) 9 = eSt (J 32 i) (J 33 i) (J 34 i) := (hR.s hi).2.1
  have v6 : gI T (3 + 2 * i) 6 = nI (cnt (byt J i) 3 1000) := (hR.s hi).2.2.2.1
  have v7 : gI T (3 + 2 * i) 7 = nI (cnt (byt J i) 2 1000) := (hR.s hi).2.2.2.2.1
  have v10 : gI T (3 + 2 * i) 10 = nI (cnt (cam J i) 1 1000) := (hR.s hi).2.2.2.2.2
  have v1 : gI T (3 + 2 * i) 1 = J 27 i := s 1 (by decide)
  have v2 : gI T (3 + 2 * i) 2 = J 28 i := s 2 (by decide)
  have v3 : gI T (3 + 2 * i) 3 = J 29 i := s 3 (by decide)
  have v5 : gI T (3 + 2 * i) 5 = J 31 i := s 5 (by decide)
  have v8 : gI T (3 + 2 * i) 8 = J 35 i := s 8 (by decide)
  have v11 : gI T (3 + 2 * i) 11 = J 38 i := s 11 (by decide)
  have v12 : gI T (3 + 2 * i) 12 = J 39 i := s 12 (by decide)
  have v13 : gI T (3 + 2 * i) 13 = J 40 i := s 13 (by decide)
  have v14 : gI T (3 + 2 * i) 14 = J 41 i := s 14 (by decide)
  have v15 : gI T (3 + 2 * i) 15 = J 42 i := s 15 (by decide)
  have v16 : gI T (3 + 2 * i) 16 = J 43 i := s 16 (by decide)
  refine e4_stream hR.f (c_strA hR.f hi ⟨fun b hb => (by cases hb; exact hR.f.st hi), fun b hb => ?_, fun hb => by cases hb⟩)
  cases hb
  rw [v1, v2, v3, v5, v6, v7, v8, v9, v10, v11, v12, v13, v14, v15, v16]
  refine ⟨fun e => ?_, fun e => ?_, fun e => ?_, fun e => ?_, fun e => ?_, fun e => ?_, fun e => ?_, fun e w8 hw8 => ?_, fun e => ?_, fun e => ?_, fun e => ?_, fun e => ?_, fun e => ?_, fun e => ?_, fun e => ?_, fun n0 n1 n2 n3 n4 n5 n6 n7 n8 n9 n10 n11 n12 n13 n14 => ?_⟩
  · subst e; exact h
  · subst e; exact h
  · subst e; exact h
  · subst e; exact h
  · subst e; exact h
  · subst e; exact h
  · subst e; exact h
  · subst e
    have h34 := (hR.vs hi).1.2.2.2.2.2.1
    have e8 : (if w8 = 0 then 0 else 1 : Int32) = (if J 34 i = 0 then 0 else 1 : Int32) := by
      rw [hw8]
      by_cases z : J 34 i = 0
      · rw [if_pos z, if_neg (fun y => (eSt3 h34).mp y z), if_pos rfl]
      · rw [if_neg z, if_pos ((eSt3 h34).mpr z), if_neg (by decide)]
    rw [e8]; exact h
  · subst e; exact h
  · subst e; exact h
  · subst e; exact h
  · subst e; exact h
  · subst e; exact h
  · subst e; exact h
  · subst e; exact h
  · have : aStr J i w = -2 := by
      unfold aStr
      rw [if_neg n0, if_neg n1, if_neg n2, if_neg n3, if_neg n4, if_neg n5, if_neg n6, if_neg n7, if_neg n8, if_neg n9, if_neg n10, if_neg n11, if_neg n12, if_neg n13, if_neg n14]
    rw [this] at h; exact h
theorem c_streamG {p w : Int32} {Q : Int32 → Sto → Prop} (hR : Rel T J) (h1 : ¬ (0 ≤ p.toInt ∧ p.toInt < 8) → Q (-1) T) (h2 : ∀ i, i < 8 → p = nI i → Q (aStr J i w) T) : Ci K4_stream [vr 0, vi p, vi w] T Q := by
  by_cases z : 0 ≤ p.toInt ∧ p.toInt < 8
  · obtain ⟨i, hi, rfl⟩ := ofIx2 (N := 8) z
    exact c_strG hR hi (h2 i hi rfl)
  · refine e4_stream hR.f (c_stream hR.f (fun _ => h1 z) (fun i hi e => ?_))
    exfalso
    refine z ?_
    rw [e]
    exact ixN (N := 8) hi (by decide)
theorem m_many {i : Nat} {x : Int32} {Q : Int32 → Sto → Prop} (hF : Fx T) (hi : i < 8) (h : Q (nI (cnt (byt J i) x 1000)) (wJ T J)) : Ci K5_many [vr 26, vi (nI i), vi x] (wJ T J) Q := by
  refine e5_many (FxJ hF) (fun X O => ?_)
  have loop : ∀ (b j : Nat), j + b = 1000 → WP X 5 [(0, vr 26), (1, vi (nI i)), (2, vi x), (3, vi (nI (cnt (byt J i) x j))), (4, vi (nI j))] [] (wJ T J) 0 0 := by
    intro b
    induction b with
    | zero =>
      intro j hj
      obtain rfl : j = 1000 := by omega
      exact s5_many_5 (S := wJ T J) (FxJ hF) (Nat.le_refl _) O ⟨fun _ => h, fun hc => absurd (nle (N := 1000) (Nat.le_refl _) (by decide)) hc⟩
    | succ b ih =>
      intro j hj
      have ih2 := ih (j + 1) (by omega)
      refine s5_many_5 (S := wJ T J) (FxJ hF) (Nat.le_refl _) O ⟨fun hc => absurd hc (nge (N := 1000) (by omega) (by decide)), fun _ => ?_⟩
      rw [show (1000 : Int32) = nI 1000 from rfl, pk_mul, nI_add, tnN (show 1000 * i + j < 2 ^ 31 by omega), gI_wm (a := 36) (by decide), nI_suc]
      refine ⟨ixN (by omega) (by decide), fun w hw => ?_⟩
      have e : (nI (cnt (byt J i) x j) + w : Int32) = nI (cnt (byt J i) x (j + 1)) := by
        rw [hw]
        show _ = nI (cnt (byt J i) x j + if byt J i j = x then 1 else 0)
        by_cases z : J 36 (1000 * i + j) = x
        · rw [if_pos z, if_pos (show byt J i j = x from z)]; exact nI_suc _
        · rw [if_neg z, if_neg (show ¬ byt J i j = x from z)]; exact nI_add _ 0
      rw [e]; exact ih2
  exact loop 1000 0 (by omega)
theorem m_cameMany {i : Nat} {Q : Int32 → Sto → Prop} (hF : Fx T) (hi : i < 8) (hc : ∀ j, j < 1000 → is01 (cam J i j)) (h : Q (nI (cnt (cam J i) 1 1000)) (wJ T J)) : Ci K5_cameMany [vr 26, vi (nI i)] (wJ T J) Q := by
  refine e5_cameMany (FxJ hF) (fun X O => ?_)
  have loop : ∀ (b j : Nat), j + b = 1000 → WP X 4 [(0, vr 26), (1, vi (nI i)), (2, vi (nI (cnt (cam J i) 1 j))), (3, vi (nI j))] [] (wJ T J) 0 0 := by
    intro b
    induction b with
    | zero =>
      intro j hj
      obtain rfl : j = 1000 := by omega
      exact s5_cameMany_4 (S := wJ T J) (FxJ hF) (Nat.le_refl _) O ⟨fun _ => h, fun hc => absurd (nle (N := 1000) (Nat.le_refl _) (by decide)) hc⟩
    | succ b ih =>
      intro j hj
      have ih2 := ih (j + 1) (by omega)
      refine s5_cameMany_4 (S := wJ T J) (FxJ hF) (Nat.le_refl _) O ⟨fun hc => absurd hc (nge (N := 1000) (by omega) (by decide)), fun _ => ?_⟩
      rw [show (1000 : Int32) = nI 1000 from rfl, pk_mul, nI_add, tnN (show 1000 * i + j < 2 ^ 31 by omega), gI_wm (a := 37) (by decide), nI_suc]
      refine ⟨ixN (by omega) (by decide), fun w hw => ?_⟩
      have e : (nI (cnt (cam J i) 1 j) + w : Int32) = nI (cnt (cam J i) 1 (j + 1)) := by
        rw [hw]
        show _ = nI (cnt (cam J i) 1 j + if cam J i j = 1 then 1 else 0)
        have hcj : is01 (J 37 (1000 * i + j)) := hc j (by omega)
        rcases hcj with z | z
        · rw [if_pos z, if_neg (show ¬ cam J i j = 1 by unfold cam; rw [z]; decide)]; exact nI_add _ 0
        · rw [if_neg (by rw [z]; decide), if_pos (show cam J i j = 1 from z)]; exact nI_suc _
      rw [e]; exact ih2
  exact loop 1000 0 (by omega)
theorem m_streamG {p w : Int32} {Q : Int32 → Sto → Prop} (hF : Fx T) (hc : ∀ i j, i < 8 → j < 1000 → is01 (cam J i j)) (h1 : ¬ (0 ≤ p.toInt ∧ p.toInt < 8) → Q (-1) (wJ T J)) (h2 : ∀ i, i < 8 → p = nI i → Q (aStr J i w) (wJ T J)) : Ci K5_stream [vr 26, vi p, vi w] (wJ T J) Q := by
  refine e5_stream (FxJ hF) ?_
  simp only [ite01, Classical.not_not]
  refine ⟨fun hp => ?_, h1⟩
  obtain ⟨i, hi, rfl⟩ := ofIx2 (N := 8) hp
  have h := h2 i hi rfl
  have ix := ixN hi (N := 8) (by decide)
  rw [tnN (show i < 2 ^ 31 by omega), gI_wm (a := 27) (by decide), gI_wm (a := 28) (by decide), gI_wm (a := 29) (by decide), gI_wm (a := 31) (by decide), gI_wm (a := 35) (by decide), gI_wm (a := 34) (by decide), gI_wm (a := 38) (by decide), gI_wm (a := 39) (by decide), gI_wm (a := 40) (by decide), gI_wm (a := 41) (by decide), gI_wm (a := 42) (by decide), gI_wm (a := 43) (by decide)]
  refine ⟨fun e => ⟨ix, ?_⟩, fun e => ⟨ix, ?_⟩, fun e => ⟨ix, ?_⟩, fun e => ⟨ix, ?_⟩, fun e => ?_, fun e => ?_, fun e => ⟨ix, ?_⟩, fun e => ⟨ix, ?_⟩, fun e => ?_, fun e => ⟨ix, ?_⟩, fun e => ⟨ix, ?_⟩, fun e => ⟨ix, ?_⟩, fun e => ⟨ix, ?_⟩, fun e => ⟨ix, ?_⟩, fun e => ⟨ix, ?_⟩, fun n0 n1 n2 n3 n4 n5 n6 n7 n8 n9 n10 n11 n12 n13 n14 => ?_⟩
  · subst e; exact h
  · subst e; exact h
  · subst e; exact h
  · subst e; exact h
  · subst e; exact m_many hF hi h
  · subst e; exact m_many hF hi h
  · subst e; exact h
  · subst e; exact h
  · subst e; exact m_cameMany hF hi (fun j hj => hc i j hi hj) h
  · subst e; exact h
  · subst e; exact h
  · subst e; exact h
  · subst e; exact h
  · subst e; exact h
  · subst e; exact h
  · have : aStr J i w = -2 := by
      unfold aStr
      rw [if_neg n0, if_neg n1, if_neg n2, if_neg n3, if_neg n4, if_neg n5, if_neg n6, if_neg n7, if_neg n8, if_neg n9, if_neg n10, if_neg n11, if_neg n12, if_neg n13, if_neg n14]
    rw [this] at h; exact h
theorem in999 (p : Int32) : (0 ≤ p.toInt ∧ p.toInt ≤ 999) ↔ ∃ j, j < 1000 ∧ p = nI j := by
  refine ⟨fun z => ofIx2 (N := 1000) ⟨z.1, by omega⟩, fun ⟨j, hj, e⟩ => ?_⟩
  rw [e, nI_toInt (by omega)]; omega
theorem c_stateG {p w : Int32} {Q : Int32 → Sto → Prop} (hR : Rel T J) (h1 : ¬ ((0 ≤ p.toInt ∧ p.toInt < 8) ∧ 0 ≤ w.toInt ∧ w.toInt ≤ 999) → Q (-1) T) (h2 : ∀ i j, i < 8 → j < 1000 → p = nI i → w = nI j → Q (aSt J i j) T) : Ci K4_state [vr 0, vi p, vi w] T Q := by
  refine e4_stateG hR.f (c_stream hR.f (fun z => h1 (fun y => z y.1)) (fun i hi e => fun w10 hw => ?_))
  by_cases z : 0 ≤ w.toInt ∧ w.toInt ≤ 999
  · obtain ⟨j, hj, rfl⟩ := (in999 w).mp z
    have r3 : gI T (3 + 2 * i + 1) j = byt J i j + 4 * cam J i j := by rw [show 3 + 2 * i + 1 = 4 + 2 * i by omega]; exact (hR.s hi).2.2.1 j hj
    rw [if_neg (fun y => ltle y (nI_ge0 (by omega))), if_pos (show nI j < 1000 from (nI_ltI (b := 1000) (by omega) (by decide)).mpr hj), tnN (by omega), r3] at hw
    have := h2 i j hi hj e rfl
    have ea : aSt J i j = byt J i j + 4 * cam J i j := by
      unfold aSt
      have hc := ((hR.vs hi).2.2.2.2.2 j hj).2
      show J 36 (1000 * i + j) + _ = J 36 (1000 * i + j) + 4 * J 37 (1000 * i + j)
      rcases hc with y | y
      · have y' : J 37 (1000 * i + j) = 0 := y
        rw [y', if_pos rfl]; rfl
      · have y' : J 37 (1000 * i + j) = 1 := y
        rw [y', if_neg (by decide)]; rfl
    rw [ea] at this
    rw [hw]; exact this
  · have h := h1 (fun y => z y.2)
    rw [hw]
    by_cases y : w < 0
    · rw [if_pos y]; exact h
    · rw [if_neg y, if_neg (fun v => z ?_)]
      · exact h
      · have a1 : ¬ w.toInt < (0 : Int32).toInt := fun u => y (Int32.lt_iff_toInt_lt.mpr u)
        have a2 : w.toInt < (1000 : Int32).toInt := Int32.lt_iff_toInt_lt.mp v
        have a3 : (0 : Int32).toInt = 0 := rfl
        have a4 : (1000 : Int32).toInt = 1000 := rfl
        omega
theorem m_stateG {p w : Int32} {Q : Int32 → Sto → Prop} (hF : Fx T) (h1 : ¬ ((0 ≤ p.toInt ∧ p.toInt < 8) ∧ 0 ≤ w.toInt ∧ w.toInt ≤ 999) → Q (-1) (wJ T J)) (h2 : ∀ i j, i < 8 → j < 1000 → p = nI i → w = nI j → Q (aSt J i j) (wJ T J)) : Ci K5_state [vr 26, vi p, vi w] (wJ T J) Q := by
  refine e5_state (FxJ hF) ?_
  simp only [ite01, Classical.not_not, ti64, l64_0, l64_999]
  refine ⟨fun z => h1 (fun y => z y.1), fun hp => ⟨fun hw => ?_, fun z => h1 (fun y => z y.2)⟩⟩
  obtain ⟨i, hi, rfl⟩ := ofIx2 (N := 8) hp
  obtain ⟨j, hj, rfl⟩ := (in999 w).mp hw
  rw [show (1000 : Int32) = nI 1000 from rfl, pk_mul, nI_add, tnN (show 1000 * i + j < 2 ^ 31 by omega), gI_wm (a := 36) (by decide), gI_wm (a := 37) (by decide)]
  exact ⟨ixN (by omega) (by decide), fun w6 h6 => by rw [h6]; exact h2 i j hi hj rfl rfl⟩
theorem c_sideG {p w : Int32} {Q : Int32 → Sto → Prop} (hR : Rel T J) (h1 : ¬ (0 ≤ p.toInt ∧ p.toInt < 2) → Q (-1) T) (h2 : ∀ d, d < 2 → p = nI d → Q (aSd J d w) T) : Ci K4_side [vr 0, vi p, vi w] T Q := by
  refine e4_side hR.f (c_side hR.f (fun z => h1 z) (fun d hd e => ?_))
  have h := h2 d hd e
  have g0 : gI T (20 + 3 * d) 0 = nI d := (hR.d hd).2.2.1
  have e2 : 20 + 3 * d + 2 = 22 + 3 * d := by omega
  have v3 : gI T (20 + 3 * d) 3 = J 44 d := (hR.d hd).1 3 (by decide)
  have v5 : gI T (20 + 3 * d) 5 = J 54 d := (hR.d hd).1 5 (by decide)
  have v6 : gI T (20 + 3 * d) 6 = J 55 d := (hR.d hd).1 6 (by decide)
  have v7 : gI T (20 + 3 * d) 7 = J 56 d := (hR.d hd).1 7 (by decide)
  have v8 : gI T (20 + 3 * d) 8 = J 57 d := (hR.d hd).1 8 (by decide)
  have v9 : gI T (20 + 3 * d) 9 = J 59 d := (hR.d hd).1 9 (by decide)
  have v10 : gI T (20 + 3 * d) 10 = J 58 d := (hR.d hd).1 10 (by decide)
  have p0 : gI T (20 + 3 * d + 2) 0 = J 45 d := by rw [e2]; exact (hR.d hd).2.1 0 (by decide)
  have p1 : gI T (20 + 3 * d + 2) 1 = J 46 d := by rw [e2]; exact (hR.d hd).2.1 1 (by decide)
  have p2 : gI T (20 + 3 * d + 2) 2 = J 47 d := by rw [e2]; exact (hR.d hd).2.1 2 (by decide)
  have p3 : gI T (20 + 3 * d + 2) 3 = J 48 d := by rw [e2]; exact (hR.d hd).2.1 3 (by decide)
  have p4 : gI T (20 + 3 * d + 2) 4 = J 49 d := by rw [e2]; exact (hR.d hd).2.1 4 (by decide)
  have p5 : gI T (20 + 3 * d + 2) 5 = J 50 d := by rw [e2]; exact (hR.d hd).2.1 5 (by decide)
  have p6 : gI T (20 + 3 * d + 2) 6 = J 51 d := by rw [e2]; exact (hR.d hd).2.1 6 (by decide)
  have p7 : gI T (20 + 3 * d + 2) 7 = J 52 d := by rw [e2]; exact (hR.d hd).2.1 7 (by decide)
  have p8 : gI T (20 + 3 * d + 2) 8 = J 53 d := by rw [e2]; exact (hR.d hd).2.1 8 (by decide)
  rw [v3, v5, v6, v7, v8, v9, v10, p0, p1, p2, p3, p4, p5, p6, p7, p8]
  refine ⟨fun e => ?_, fun e => ?_, fun e => ?_, fun e => ?_, fun e => ?_, fun e => ?_, fun e => ?_, fun e => ?_, fun e => ?_, fun e => ?_, fun e => ?_, fun e => ?_, fun e => ?_, fun e => ?_, fun e => ?_, fun e => ?_, fun e => ?_, fun n0 n1 n2 n3 n4 n5 n6 n7 n8 n9 n10 n11 n12 n13 n14 n15 n16 => ?_⟩
  · subst e; exact h
  · subst e; exact h
  · subst e; exact h
  · subst e; exact h
  · subst e; exact h
  · subst e; exact h
  · subst e; exact h
  · subst e; exact h
  · subst e; exact h
  · subst e; exact h
  · subst e; exact h
  · subst e; exact h
  · subst e; exact h
  · subst e; exact h
  · subst e; refine c_counted hR.f hd g0 ?_; rw [hR.sm31 hd]; exact h
  · subst e; exact h
  · subst e; exact h
  · have : aSd J d w = -2 := by
      unfold aSd
      rw [if_neg n0, if_neg n1, if_neg n2, if_neg n3, if_neg n4, if_neg n5, if_neg n6, if_neg n7, if_neg n8, if_neg n9, if_neg n10, if_neg n11, if_neg n12, if_neg n13, if_neg n14, if_neg n15, if_neg n16]
    rw [this] at h; exact h
theorem m_sideG {p w : Int32} {Q : Int32 → Sto → Prop} (hF : Fx T) (h1 : ¬ (0 ≤ p.toInt ∧ p.toInt < 2) → Q (-1) (wJ T J)) (h2 : ∀ d, d < 2 → p = nI d → Q (aSd J d w) (wJ T J)) : Ci K5_side [vr 26, vi p, vi w] (wJ T J) Q := by
  refine e5_side (FxJ hF) ?_
  simp only [ite01, Classical.not_not]
  refine ⟨fun hp => ?_, h1⟩
  obtain ⟨d, hd, rfl⟩ := ofIx2 (N := 2) hp
  have h := h2 d hd rfl
  have ix := ixN hd (N := 2) (by decide)
  rw [tnN (show d < 2 ^ 31 by omega), gI_wm (a := 44) (by decide), gI_wm (a := 45) (by decide), gI_wm (a := 46) (by decide), gI_wm (a := 47) (by decide), gI_wm (a := 48) (by decide), gI_wm (a := 49) (by decide), gI_wm (a := 50) (by decide), gI_wm (a := 51) (by decide), gI_wm (a := 52) (by decide), gI_wm (a := 53) (by decide), gI_wm (a := 54) (by decide), gI_wm (a := 55) (by decide), gI_wm (a := 56) (by decide), gI_wm (a := 57) (by decide), gI_wm (a := 58) (by decide), gI_wm (a := 59) (by decide)]
  refine ⟨fun e => ⟨ix, ?_⟩, fun e => ⟨ix, ?_⟩, fun e => ⟨ix, ?_⟩, fun e => ⟨ix, ?_⟩, fun e => ⟨ix, ?_⟩, fun e => ⟨ix, ?_⟩, fun e => ⟨ix, ?_⟩, fun e => ⟨ix, ?_⟩, fun e => ⟨ix, ?_⟩, fun e => ⟨ix, ?_⟩, fun e => ⟨ix, ?_⟩, fun e => ⟨ix, ?_⟩, fun e => ⟨ix, ?_⟩, fun e => ⟨ix, ?_⟩, fun e => ?_, fun e => ⟨ix, ?_⟩, fun e => ⟨ix, ?_⟩, fun n0 n1 n2 n3 n4 n5 n6 n7 n8 n9 n10 n11 n12 n13 n14 n15 n16 => ?_⟩
  · subst e; exact h
  · subst e; exact h
  · subst e; exact h
  · subst e; exact h
  · subst e; exact h
  · subst e; exact h
  · subst e; exact h
  · subst e; exact h
  · subst e; exact h
  · subst e; exact h
  · subst e; exact h
  · subst e; exact h
  · subst e; exact h
  · subst e; exact h
  · subst e; exact m_counted hF hd h
  · subst e; exact h
  · subst e; exact h
  · have : aSd J d w = -2 := by
      unfold aSd
      rw [if_neg n0, if_neg n1, if_neg n2, if_neg n3, if_neg n4, if_neg n5, if_neg n6, if_neg n7, if_neg n8, if_neg n9, if_neg n10, if_neg n11, if_neg n12, if_neg n13, if_neg n14, if_neg n15, if_neg n16]
    rw [this] at h; exact h
theorem c_pk {p1 p2 : Int32} {P1 : Nat → Sto → Prop} {P2 : Sto → Prop} (hR : Rel T J) (h1 : ¬ (∃ d n, d < 2 ∧ n < num J d ∧ p1 = nI d ∧ p2 = nI n) → P2 T) (h2 : ∀ d n a, d < 2 → n < num J d → p1 = nI d → p2 = nI n → gR T (21 + 3 * d) n = some a → P1 a T) : Co K4_packetOf [vr 0, vi p1, vi p2] T (fun x S1 => (∀ b, x = some b → al S1 b 1) ∧ ((∀ b, x = some b → P1 b S1) ∧ (x = none → P2 S1))) := by
  refine e4_packetOf hR.f (c_side hR.f (fun z => ⟨fun b hb => (by cases hb), fun b hb => (by cases hb), fun _ => h1 (fun ⟨d, n, hd, hn, e1, e2⟩ => z (by rw [e1]; exact ixN (N := 2) hd (by decide)))⟩) (fun d hd e => ?_))
  have n3 := hR.nle hd
  have e3 : gI T (20 + 3 * d) 3 = nI (num J d) := ((hR.d hd).1 3 (by decide)).trans (hR.vd hd).nm.1
  have nd : ∀ d' n, d' < 2 → p1 = nI d' → p2 = nI n → d' = d := fun d' n hd' h _ => nI_nj (by omega) (by omega) (h.symm.trans e)
  have no : (¬ ∃ n, n < num J d ∧ p2 = nI n) → (∀ b, (none : Option Nat) = some b → al T b 1) ∧ ((∀ b, (none : Option Nat) = some b → P1 b T) ∧ ((none : Option Nat) = none → P2 T)) := fun z => ⟨fun b hb => (by cases hb), fun b hb => (by cases hb), fun _ => h1 (fun ⟨d', n, hd', hn, q1, q2⟩ => z (by
    have := nd d' n hd' q1 q2
    subst this
    exact ⟨n, hn, q2⟩))⟩
  refine e2_packetAt hR.f (hR.f.sd hd) ?_
  rw [e3]
  refine ⟨fun c => ⟨fun b hb => (by cases hb), no (fun ⟨n, hn, q⟩ => ?_)⟩, fun c => ⟨fun c2 => ⟨fun b hb => (by cases hb), no (fun ⟨n, hn, q⟩ => ?_)⟩, fun c2 => ⟨fun c3 => ?_, fun c3 => ⟨fun b hb => (by cases hb), no (fun ⟨n, hn, q⟩ => c3 ?_)⟩⟩⟩⟩
  · rw [q] at c; exact ltle c (nI_ge0 (by omega))
  · rw [q, nI_leI (by omega) (by omega)] at c2; omega
  · have a1 : ¬ p2.toInt < (0 : Int32).toInt := fun z => c (Int32.lt_iff_toInt_lt.mpr z)
    have a2 : p2.toInt < num J d := (l32_lt _ _ (by omega)).mp (ile c2)
    have a3 : (0 : Int32).toInt = 0 := rfl
    obtain ⟨n, hn, rfl⟩ := ofIx2 (x := p2) (N := num J d) ⟨by omega, a2⟩
    obtain ⟨-, a, r1, r2, -⟩ := hR.pk hd hn
    rw [tnN (by omega), show 20 + 3 * d + 1 = 21 + 3 * d by omega, r1]
    exact ⟨ixN (by omega) (by decide), fun b hb => (by cases hb; exact r2), fun b hb => (by cases hb; exact r2), fun b hb => (by cases hb; exact h2 d n _ hd hn e rfl r1), fun hb => by cases hb⟩
  · rw [q, show (300 : Int32) = nI 300 from rfl, nI_ltI (by omega) (by omega)]; omega
theorem c_packetG {p1 p2 w : Int32} {Q : Int32 → Sto → Prop} (hR : Rel T J) (h1 : ¬ (∃ d n, d < 2 ∧ n < num J d ∧ p1 = nI d ∧ p2 = nI n) → Q (-1) T) (h2 : ∀ d n, d < 2 → n < num J d → p1 = nI d → p2 = nI n → Q (aPk J (300 * d + n) w) T) : Ci K4_packet [vr 0, vi p1, vi p2, vi w] T Q := by
  refine e4_packet hR.f (c_pk hR h1 (fun d n a hd hn q1 q2 q3 => ?_))
  have h := h2 d n hd hn q1 q2
  obtain ⟨-, a', r1, r2, r3⟩ := hR.pk hd hn
  rw [q3] at r1
  cases r1
  have v2 : gI T a 2 = J 66 (300 * d + n) := r3.1 2 (by decide)
  have v3 : gI T a 3 = J 67 (300 * d + n) := r3.1 3 (by decide)
  have v8 : gI T a 8 = J 68 (300 * d + n) := r3.1 8 (by decide)
  have v7 : gI T a 7 = J 69 (300 * d + n) := r3.1 7 (by decide)
  have v9 : gI T a 9 = J 70 (300 * d + n) := r3.1 9 (by decide)
  have v10 : gI T a 10 = J 71 (300 * d + n) := r3.1 10 (by decide)
  have v11 : gI T a 11 = J 72 (300 * d + n) := r3.1 11 (by decide)
  have v12 : gI T a 12 = J 73 (300 * d + n) := r3.1 12 (by decide)
  rw [v2, v3, v8, v7, v9, v10, v11, v12]
  refine ⟨fun e => ?_, fun e => ?_, fun e => ?_, fun e => ?_, fun e => ?_, fun e => ?_, fun e => ?_, fun e => ?_, fun n0 n1 n2 n3 n4 n5 n6 n7 => ?_⟩
  · subst e; exact h
  · subst e; exact h
  · subst e; exact h
  · subst e; exact h
  · subst e; exact h
  · subst e; exact h
  · subst e; exact h
  · subst e; exact h
  · have : aPk J (300 * d + n) w = -2 := by
      unfold aPk
      rw [if_neg n0, if_neg n1, if_neg n2, if_neg n3, if_neg n4, if_neg n5, if_neg n6, if_neg n7]
    rw [this] at h; exact h
theorem m_isPacket {p1 p2 : Int32} {Q : Int32 → Sto → Prop} (hF : Fx T) (hn : ∀ d, d < 2 → J 44 d = nI (num J d) ∧ num J d ≤ 300) (h1 : ¬ (∃ d n, d < 2 ∧ n < num J d ∧ p1 = nI d ∧ p2 = nI n) → Q 0 (wJ T J)) (h2 : ∀ d n, d < 2 → n < num J d → p1 = nI d → p2 = nI n → Q 1 (wJ T J)) : Ci K5_isPacket [vr 26, vi p1, vi p2] (wJ T J) Q := by
  refine e5_isPacket (FxJ hF) ?_
  simp only [ite01, Classical.not_not, ti64, l64_0]
  refine ⟨fun z => h1 (fun ⟨d, n, hd, hn, e1, e2⟩ => z (by rw [e1]; exact ixN (N := 2) hd (by decide))), fun hp => ⟨hp, ?_⟩⟩
  obtain ⟨d, hd, rfl⟩ := ofIx2 (N := 2) hp
  obtain ⟨n1, n2⟩ := hn d hd
  rw [tnN (show d < 2 ^ 31 by omega), gI_wm (a := 44) (by decide), n1]
  simp only [netIn (N := num J d) (p := p2) (by omega)]
  refine ⟨fun z => h1 (fun ⟨d', n, hd', hn', e1, e2⟩ => z ?_), fun ⟨n, hn', e⟩ => h2 d n hd hn' rfl e⟩
  have : d = d' := nI_nj (by omega) (by omega) e1
  subst this
  exact ⟨n, hn', e2⟩
theorem m_packetG {p1 p2 w : Int32} {Q : Int32 → Sto → Prop} (hF : Fx T) (hn : ∀ d, d < 2 → J 44 d = nI (num J d) ∧ num J d ≤ 300) (h1 : ¬ (∃ d n, d < 2 ∧ n < num J d ∧ p1 = nI d ∧ p2 = nI n) → Q (-1) (wJ T J)) (h2 : ∀ d n, d < 2 → n < num J d → p1 = nI d → p2 = nI n → Q (aPk J (300 * d + n) w) (wJ T J)) : Ci K5_packet [vr 26, vi p1, vi p2, vi w] (wJ T J) Q := by
  refine e5_packet (FxJ hF) (m_isPacket hF hn (fun z => ⟨fun y => absurd rfl y, fun _ => h1 z⟩) (fun d n hd hnn q1 q2 => ⟨fun _ => ?_, fun y => absurd y (by decide)⟩))
  have h := h2 d n hd hnn q1 q2
  have n3 := (hn d hd).2
  subst q1 q2
  have ix := ixN (n := 300 * d + n) (N := 600) (by omega) (by decide)
  rw [mix, tnN (show 300 * d + n < 2 ^ 31 by omega), gI_wm (a := 66) (by decide), gI_wm (a := 67) (by decide), gI_wm (a := 68) (by decide), gI_wm (a := 69) (by decide), gI_wm (a := 70) (by decide), gI_wm (a := 71) (by decide), gI_wm (a := 72) (by decide), gI_wm (a := 73) (by decide)]
  refine ⟨fun e => ⟨ix, ?_⟩, fun e => ⟨ix, ?_⟩, fun e => ⟨ix, ?_⟩, fun e => ⟨ix, ?_⟩, fun e => ⟨ix, ?_⟩, fun e => ⟨ix, ?_⟩, fun e => ⟨ix, ?_⟩, fun e => ⟨ix, ?_⟩, fun n0 n1 n2 n3 n4 n5 n6 n7 => ?_⟩
  · subst e; exact h
  · subst e; exact h
  · subst e; exact h
  · subst e; exact h
  · subst e; exact h
  · subst e; exact h
  · subst e; exact h
  · subst e; exact h
  · have : aPk J (300 * d + n) w = -2 := by
      unfold aPk
      rw [if_neg n0, if_neg n1, if_neg n2, if_neg n3, if_neg n4, if_neg n5, if_neg n6, if_neg n7]
    rw [this] at h; exact h
theorem in11 (p : Int32) : (0 ≤ p.toInt ∧ p.toInt ≤ 11) ↔ ∃ j, j < 12 ∧ p = nI j := by
  refine ⟨fun z => ofIx2 (N := 12) ⟨z.1, by omega⟩, fun ⟨j, hj, e⟩ => ?_⟩
  rw [e, nI_toInt (by omega)]; omega
theorem c_partG {p1 p2 p3 p4 : Int32} {Q : Int32 → Sto → Prop} (hR : Rel T J) (h1 : ¬ (∃ d n k, d < 2 ∧ n < num J d ∧ nI k < J 69 (300 * d + n) ∧ k < 16 ∧ p1 = nI d ∧ p2 = nI n ∧ p3 = nI k) → Q (-1) T)
    (h2 : ∀ d n k, d < 2 → n < num J d → nI k < J 69 (300 * d + n) → k < 16 → p1 = nI d → p2 = nI n → p3 = nI k → (¬ (0 ≤ p4.toInt ∧ p4.toInt ≤ 11) → Q (-2) T) ∧ ∀ w, w < 12 → p4 = nI w → Q (aPt J (300 * d + n) k w) T) : Ci K4_part [vr 0, vi p1, vi p2, vi p3, vi p4] T Q := by
  refine e4_part hR.f (c_pk hR (fun z => h1 (fun ⟨d, n, k, hd, hn, _, _, q1, q2, _⟩ => z ⟨d, n, hd, hn, q1, q2⟩)) (fun d n a hd hn q1 q2 q3 => ?_))
  obtain ⟨hv, a', r1, r2, r3⟩ := hR.pk hd hn
  rw [q3] at r1
  cases r1
  obtain ⟨-, -, -, -, -, -, ⟨m, m1, m2, m3, m4⟩, -⟩ := hv
  have v7 : gI T a 7 = nI m := (r3.1 7 (by decide)).trans m3
  have n3 := hR.nle hd
  have no : (¬ ∃ k, k < m ∧ p3 = nI k) → Q (-1) T := fun z => h1 (fun ⟨d', n', k, hd', hn', hk, hk2, y1, y2, y3⟩ => z (by
    have n3' := hR.nle hd'
    have e1 : d = d' := nI_nj (by omega) (by omega) (q1.symm.trans y1)
    subst e1
    have e2 : n = n' := nI_nj (by omega) (by omega) (q2.symm.trans y2)
    subst e2
    rw [m3, nI_ltI (by omega) (by omega)] at hk
    exact ⟨k, hk, y3⟩))
  rw [v7]
  refine ⟨fun c => no (fun ⟨k, hk, e⟩ => ?_), fun c => ⟨fun c2 => ?_, fun c2 => no (fun ⟨k, hk, e⟩ => c2 ?_)⟩⟩
  · rw [e] at c; exact ltle c (nI_ge0 (by omega))
  · have a1 : ¬ p3.toInt < (0 : Int32).toInt := fun z => c (Int32.lt_iff_toInt_lt.mpr z)
    have a2 : p3.toInt < m := (l32_lt _ _ (by omega)).mp c2
    have a3 : (0 : Int32).toInt = 0 := rfl
    obtain ⟨k, hk, rfl⟩ := ofIx2 (x := p3) (N := m) ⟨by omega, a2⟩
    obtain ⟨j1, j2⟩ := h2 d n k hd hn (by rw [m3]; exact c2) (by omega) q1 q2 rfl
    have hk2 : k < 16 := by omega
    have pv : ∀ w, w < 4 → gI T (a + 1) (4 * k + w) = prt J (300 * d + n) k w := fun w hw => r3.2.2.2.2.1 k w (by rw [m3]; exact c2) hk2 hw
    refine ⟨fun d4 => j1 (fun z => ?_), fun d4 => ⟨fun d5 => ?_, fun d5 => j1 (fun z => d5 ?_)⟩⟩
    · have := Int32.lt_iff_toInt_lt.mp d4
      omega
    · have b1 : ¬ p4.toInt < (0 : Int32).toInt := fun z => d4 (Int32.lt_iff_toInt_lt.mpr z)
      have b2 : p4.toInt ≤ (11 : Int32).toInt := Int32.le_iff_toInt_le.mp d5
      have b3 : (11 : Int32).toInt = 11 := rfl
      obtain ⟨w, hw, rfl⟩ := (in11 p4).mp ⟨by omega, by omega⟩
      have h := j2 w hw rfl
      have w4 : (4 : Int32) ≤ nI w ↔ 4 ≤ w := nI_leI (a := 4) (by omega) (by omega)
      refine ⟨fun c4 => ?_, fun c4 => ?_⟩
      · have hw4 := w4.mp c4
        have ew : (nI w - 4 : Int32) = nI (w - 4) := pk_sub (b := 4) hw4
        rw [ptv0 hk2, pv 0 (by decide), ew, tnN (by omega)]
        refine ⟨ptx (w := 0) hk2 (by decide), ixN (by omega) (by decide), fun w14 h14 => ?_⟩
        unfold aPt at h
        rw [if_neg (by omega)] at h
        rw [h14]
        by_cases z : prt J (300 * d + n) k 0 = 1
        · have k0 := (m4 k hk).2 z
          subst k0
          rw [if_pos z]
          have sp := r3.2.2.2.2.2 ((w - 4) / 2) (by omega)
          by_cases y : nI ((w - 4) / 2) < prt J (300 * d + n) 0 3
          · rw [if_pos ⟨z, y⟩] at h
            obtain ⟨t1, t2⟩ := sp.1 ⟨z, y⟩
            rcases (show w - 4 = 2 * ((w - 4) / 2) ∨ w - 4 = 2 * ((w - 4) / 2) + 1 by omega) with v | v
            · rw [v, t1, ← v]; exact h
            · rw [v, t2, Nat.add_assoc, ← v]; exact h
          · rw [if_neg (fun v => y v.2)] at h
            obtain ⟨t1, t2⟩ := sp.2 (fun v => y v.2)
            rcases (show w - 4 = 2 * ((w - 4) / 2) ∨ w - 4 = 2 * ((w - 4) / 2) + 1 by omega) with v | v
            · rw [v, t1]; exact h
            · rw [v, t2]; exact h
        · rw [if_neg (fun v => z v.1)] at h
          rw [if_neg z]; exact h
      · have hw4 : w < 4 := by
          rcases Nat.lt_or_ge w 4 with y | y
          · exact y
          · exact absurd (w4.mpr y) c4
        rw [ptv hk2 hw4, pv w hw4]
        refine ⟨ptx hk2 hw4, ?_⟩
        unfold aPt at h
        rw [if_pos hw4] at h
        exact h
    · have b3 : (11 : Int32).toInt = 11 := rfl
      exact Int32.le_iff_toInt_le.mpr (by omega)
  · rw [e, nI_ltI (by omega) (by omega)]; exact hk
theorem m_partG {p1 p2 p3 p4 : Int32} {Q : Int32 → Sto → Prop} (hF : Fx T) (hR : Rel T0 J) (h1 : ¬ (∃ d n k, d < 2 ∧ n < num J d ∧ nI k < J 69 (300 * d + n) ∧ k < 16 ∧ p1 = nI d ∧ p2 = nI n ∧ p3 = nI k) → Q (-1) (wJ T J))
    (h2 : ∀ d n k, d < 2 → n < num J d → nI k < J 69 (300 * d + n) → k < 16 → p1 = nI d → p2 = nI n → p3 = nI k → (¬ (0 ≤ p4.toInt ∧ p4.toInt ≤ 11) → Q (-2) (wJ T J)) ∧ ∀ w, w < 12 → p4 = nI w → Q (aPt J (300 * d + n) k w) (wJ T J)) : Ci K5_part [vr 26, vi p1, vi p2, vi p3, vi p4] (wJ T J) Q := by
  refine e5_part (FxJ hF) (m_isPacket hF (fun d hd => (hR.vd hd).nm) (fun z => ⟨fun _ => h1 (fun ⟨d, n, k, hd, hn, _, _, q1, q2, _⟩ => z ⟨d, n, hd, hn, q1, q2⟩), fun y => absurd rfl y⟩) (fun d n hd hn q1 q2 => ⟨fun y => absurd y (by decide), fun _ => ?_⟩))
  have n3 := hR.nle hd
  obtain ⟨hv, -⟩ := hR.pk hd hn
  obtain ⟨-, -, -, -, -, -, ⟨m, m1, m2, m3, m4⟩, -⟩ := hv
  have no : (¬ ∃ k, k < m ∧ p3 = nI k) → Q (-1) (wJ T J) := fun z => h1 (fun ⟨d', n', k, hd', hn', hk, hk2, y1, y2, y3⟩ => z (by
    have n3' := hR.nle hd'
    have e1 : d = d' := nI_nj (by omega) (by omega) (q1.symm.trans y1)
    subst e1
    have e2 : n = n' := nI_nj (by omega) (by omega) (q2.symm.trans y2)
    subst e2
    rw [m3, nI_ltI (by omega) (by omega)] at hk
    exact ⟨k, hk, y3⟩))
  have h2' := h2 d n
  subst q1 q2
  rw [mix, tnN (show 300 * d + n < 2 ^ 31 by omega), gI_wm (a := 69) (by decide), m3]
  simp only [ite01, Classical.not_not, ti64, l64_0, show (11 : Int64).toInt = 11 from rfl, netIn (N := m) (p := p3) (by omega)]
  refine ⟨ixN (by omega) (by decide), fun ⟨k, hk, e3⟩ => ?_, no⟩
  subst e3
  obtain ⟨j1, j2⟩ := h2' k hd hn (by rw [m3, nI_ltI (by omega) (by omega)]; exact hk) (by omega) rfl rfl rfl
  refine ⟨fun hp => ?_, j1⟩
  obtain ⟨w, hw, rfl⟩ := (in11 p4).mp hp
  have h := j2 w hw rfl
  have w4 : (4 : Int32) ≤ nI w ↔ 4 ≤ w := nI_leI (a := 4) (by omega) (by omega)
  unfold aPt at h
  rw [pix]
  refine ⟨fun c4 => ?_, fun c4 => ?_⟩
  · have hw4 := w4.mp c4
    rw [if_neg (by omega)] at h
    have ew : (nI w - 4 : Int32) = nI (w - 4) := pk_sub (b := 4) hw4
    have e8 : (8 * nI (300 * d + n) + nI w - 4 : Int32) = nI (8 * (300 * d + n) + (w - 4)) := by
      rw [show (8 : Int32) = nI 8 from rfl, pk_mul, nI_add, show (4 : Int32) = nI 4 from rfl, pk_sub (by omega)]; congr 1; omega
    rw [ew, e8, show (3 : Int32) = nI 3 from rfl, nI_add, tnN (show 4 * (24 * (300 * d + n) + k) < 2 ^ 31 by omega), tnN (show 4 * (24 * (300 * d + n) + k) + 3 < 2 ^ 31 by omega), tnN (show 8 * (300 * d + n) + (w - 4) < 2 ^ 31 by omega), gI_wm (a := 74) (by decide), gI_wm (a := 75) (by decide), show (2 : Int32) = nI 2 from rfl, pk_div (by omega) (by decide) (by decide)]
    refine ⟨ixN (by omega) (by decide), ixN (by omega) (by decide), fun w16 h16 => ⟨ixN (by omega) (by decide), fun w21 h21 => ?_⟩⟩
    have e16 : w16 = 0 ↔ ¬ (prt J (300 * d + n) k 0 = 1 ∧ nI ((w - 4) / 2) < prt J (300 * d + n) k 3) := by
      rw [h16]
      show (if prt J (300 * d + n) k 0 = 1 then (if prt J (300 * d + n) k 3 ≤ nI ((w - 4) / 2) then 0 else 1) else 0 : Int32) = 0 ↔ _
      by_cases z : prt J (300 * d + n) k 0 = 1
      · rw [if_pos z]
        by_cases y : prt J (300 * d + n) k 3 ≤ nI ((w - 4) / 2)
        · rw [if_pos y]; exact ⟨fun _ v => ltle v.2 y, fun _ => rfl⟩
        · rw [if_neg y]; exact ⟨fun v => absurd v (by decide), fun v => absurd ⟨z, ile y⟩ v⟩
      · rw [if_neg z]; exact ⟨fun _ v => z v.1, fun _ => rfl⟩
    rw [h21]
    by_cases z : prt J (300 * d + n) k 0 = 1 ∧ nI ((w - 4) / 2) < prt J (300 * d + n) k 3
    · rw [if_pos z] at h
      rw [if_neg (fun y => e16.mp y z)]; exact h
    · rw [if_neg z] at h
      rw [if_pos (e16.mpr z)]; exact h
  · have hw4 : w < 4 := by
      rcases Nat.lt_or_ge w 4 with y | y
      · exact y
      · exact absurd (w4.mpr y) c4
    rw [if_pos hw4] at h
    rw [nI_add, tnN (show 4 * (24 * (300 * d + n) + k) + w < 2 ^ 31 by omega), gI_wm (a := 74) (by decide)]
    exact ⟨ixN (by omega) (by decide), h⟩
end GETS
