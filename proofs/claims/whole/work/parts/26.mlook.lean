section MLOOK
variable {T : Sto} {J : Rows}
/-- what the reference's walks need of the rows -/
def Wk (J : Rows) : Prop := (∀ i j, i < 8 → j < 1000 → upTo (byt J i j) 3) ∧ (∀ d n, d < 2 → n < num J d → ∃ m, 1 ≤ m ∧ m ≤ 16 ∧ J 69 (300 * d + n) = nI m ∧ ∀ k, k < m → IvPart J d (prt J (300 * d + n) k 0) (prt J (300 * d + n) k 1) (prt J (300 * d + n) k 2) (prt J (300 * d + n) k 3)) ∧ ∀ d, d < 2 → num J d ≤ 300
theorem Rel.wk (h : Rel T J) : Wk J := ⟨fun i j hi hj => ((h.vs hi).2.2.2.2.2 j hj).1, fun d n hd hn => by
  obtain ⟨⟨-, -, -, -, -, -, ⟨m, m1, m2, m3, m4⟩, -⟩, -⟩ := h.pk hd hn
  exact ⟨m, m1, m2, m3, fun k hk => (m4 k hk).1⟩, fun d hd => h.nle hd⟩
theorem Wk.cp {J' : Rows} (h : Wk J) (hb : ∀ i j, i < 8 → j < 1000 → upTo (byt J' i j) 3) (h31 : J' 31 = J 31) (h44 : J' 44 = J 44) (h69 : J' 69 = J 69) (h74 : J' 74 = J 74) : Wk J' := by
  have n0 : ∀ d, num J' d = num J d := fun d => num_of (by rw [h44])
  refine ⟨hb, fun d n hd hn => ?_, fun d hd => by rw [n0]; exact h.2.2 d hd⟩
  rw [n0] at hn
  obtain ⟨m, m1, m2, m3, m4⟩ := h.2.1 d n hd hn
  unfold prt
  rw [h69, h74]
  exact ⟨m, m1, m2, m3, fun k hk => (m4 k hk).fr (fun i _ => frs_eq h31 i)⟩
theorem Wk.ne {J' : Rows} (h : Wk J) (h36 : J' 36 = J 36) (h31 : J' 31 = J 31) (h44 : J' 44 = J 44) (h69 : J' 69 = J 69) (h74 : J' 74 = J 74) : Wk J' :=
  h.cp (fun i j hi hj => by unfold byt; rw [h36]; exact h.1 i j hi hj) h31 h44 h69 h74
theorem spLoses_36 {d : Nat} {kind a b c : Int32} (h : ¬ kind = 4) : spLoses J d kind a b c 36 = J 36 := by
  unfold spLoses
  split
  · exact uJ_ne (by decide)
  split
  · exact uJ_ne (by decide)
  split
  · exact uJ_ne (by decide)
  split
  · split
    · rfl
    · split
      · rw [uJ_ne (by decide), uJ_ne (by decide)]
      · rfl
  split
  · rw [uJ_ne (by decide), uJ_ne (by decide)]
  · rfl
theorem Wk.loses {d : Nat} {kind a b c : Int32} (h : Wk J) : Wk (spLoses J d kind a b c) := by
  refine h.cp (fun i j hi hj => ?_) (spLoses_ne (by decide)) (spLoses_ne (by decide)) (spLoses_ne (by decide)) (spLoses_ne (by decide))
  by_cases e : kind = 4
  · subst e
    have e4 : spLoses J d 4 a b c 36 = zitA J (ntn a) (ntn b) (ntn c % 10000) 36 := by
      unfold spLoses
      rw [if_neg (by decide), if_neg (by decide), if_pos rfl, uJ_ne (by decide)]
    unfold byt
    rw [e4, zitA_at]
    split
    · exact ⟨2, by decide, rfl⟩
    · exact h.1 i j hi hj
  · unfold byt
    rw [spLoses_36 e]
    exact h.1 i j hi hj
theorem Wk.lp {d q m : Nat} (h : Wk J) : Wk (spLP J d q m) := by
  induction m with
  | zero => exact h
  | succ m ih => exact ih.loses
theorem Wk.l1 {d q : Nat} (h : Wk J) : Wk (spL1 J d q) := h.ne (spL1_ne (by decide) (by decide)) (spL1_ne (by decide) (by decide)) (spL1_ne (by decide) (by decide)) (spL1_ne (by decide) (by decide)) (spL1_ne (by decide) (by decide))
theorem Wk.fb {d : Nat} (h : Wk J) : Wk (spFB J d) := h.ne (spFB_ne (by decide) (by decide) (by decide)) (spFB_ne (by decide) (by decide) (by decide)) (spFB_ne (by decide) (by decide) (by decide)) (spFB_ne (by decide) (by decide) (by decide)) (spFB_ne (by decide) (by decide) (by decide))
theorem Wk.lose {d q : Nat} (h : Wk J) : Wk (spLose J d q) := by
  unfold spLose
  split
  · exact h.l1.lp
  · exact h.l1.lp.fb
theorem Wk.ll {d n : Nat} {hi lim : Int32} (h : Wk J) : Wk (spLL J d hi lim n) := by
  induction n with
  | zero => exact h
  | succ n ih =>
    unfold spLL
    split
    · exact ih
    · exact ih.lose
theorem ilt {a b : Int32} (h : ¬ a < b) : b ≤ a := by
  rw [Int32.lt_iff_toInt_lt] at h; rw [Int32.le_iff_toInt_le]; omega
theorem ile {a b : Int32} (h : ¬ a ≤ b) : b < a := by
  rw [Int32.le_iff_toInt_le] at h; rw [Int32.lt_iff_toInt_lt]; omega
theorem ltle {a b : Int32} (h : a < b) : ¬ b ≤ a := by
  rw [Int32.lt_iff_toInt_lt] at h; rw [Int32.le_iff_toInt_le]; omega
theorem maxA (a b : Int32) : (if b ≤ a then a else b) = (if a < b then b else a) := by
  by_cases h : a < b
  · rw [if_pos h, if_neg (ltle h)]
  · rw [if_neg h, if_pos (ilt h)]
theorem maxB (a b : Int32) : (if a ≤ b then b else a) = (if a < b then b else a) := by
  by_cases h : a < b
  · rw [if_pos h, if_pos (by rw [Int32.lt_iff_toInt_lt] at h; rw [Int32.le_iff_toInt_le]; omega)]
  · rw [if_neg h]
    by_cases h2 : a ≤ b
    · rw [if_pos h2]
      have := ilt h
      rw [Int32.le_iff_toInt_le] at h2 this
      exact Int32.toInt_inj.mp (by omega)
    · rw [if_neg h2]
theorem m_limit {Q : Int32 → Sto → Prop} {d : Nat} (hF : Fx T) (hd : d < 2) (h49 : J 49 d = -6 ∨ 0 ≤ J 49 d) (h : Q (lmt J d) (wJ T J)) : Ci K5_limit [vr 26, vi (nI d)] (wJ T J) Q := by
  refine e5_limit (FxJ hF) ⟨ixN hd (by decide), ?_⟩
  rw [tnN (by omega), gI_wm (a := 49) (by decide), gI_wm (a := 50) (by decide)]
  refine ⟨fun hc w hw v hv => ?_, fun hc => ?_⟩
  · rw [maxB] at hw
    rw [maxB] at hv
    have : v = lmt J d := by
      rw [hv, hw]
      unfold lmt
      rw [if_neg (show ¬ J 49 d = -6 from fun e => by rw [e] at hc; exact absurd hc (by decide))]
    rw [this]; exact h
  · have : lmt J d = 8 := if_pos (h49.resolve_right hc)
    rw [this] at h; exact h
theorem mix {d n : Nat} : (300 * nI d + nI n : Int32) = nI (300 * d + n) := by
  rw [show (300 : Int32) = nI 300 from rfl, pk_mul, nI_add]
theorem pix {q k : Nat} : (4 * (24 * nI q + nI k) : Int32) = nI (4 * (24 * q + k)) := by
  rw [show (24 : Int32) = nI 24 from rfl, show (4 : Int32) = nI 4 from rfl, pk_mul, nI_add, pk_mul]
theorem m_lookForLost {Q : Sto → Prop} {d : Nat} (hF : Fx T) (hW : Wk J) (hd : d < 2) (h49 : J 49 d = -6 ∨ 0 ≤ J 49 d) (h54 : J 54 d = -6 ∨ ∃ n, n < num J d ∧ J 54 d = nI n) (h : Q (wJ T (spLook J d))) : Cv K5_lookForLost [vr 26, vi (nI d)] (wJ T J) Q := by
  refine e5_lookForLost (FxJ hF) (fun X O => m_limit hF hd h49 ?_)
  have td : (nI d).toNatClampNeg = d := tnN (by omega)
  have hdx := ixN hd (by decide)
  have h0 : spLook J d = spLL J d (J 54 d) (lmt J d) (ntn (J 54 d)) := rfl
  rcases h54 with h6 | ⟨hi, hi1, h6⟩
  · refine s5_lookForLost_8 (S := wJ T J) (FxJ hF) (Nat.le_refl _) O ⟨hdx, ?_⟩
    rw [td, gI_wm (a := 54) (by decide), h6]
    refine ⟨fun _ => ?_, fun hc => absurd (by decide) hc⟩
    rw [h6] at h0
    rw [h0] at h
    exact h
  · have n3 := hW.2.2 d hd
    rw [h6, show ntn (nI hi) = hi from ntn_nI (by omega)] at h0
    rw [h0] at h
    generalize lmt J d = lim at h ⊢
    have loop : ∀ (j k : Nat), k + j = hi → WP X 8 [(0, vr 26), (1, vi (nI d)), (2, vi lim), (3, vi (nI k))] [] (wJ T (spLL J d (nI hi) lim k)) 0 0 := by
      intro j
      induction j with
      | zero =>
        intro k hk
        have hkm : k = hi := by omega
        subst hkm
        refine s5_lookForLost_8 (S := wJ T (spLL J d (nI k) lim k)) (FxJ hF) (Nat.le_refl _) O ⟨hdx, ?_⟩
        rw [td, gI_wm (a := 54) (by decide), spLL_ne (r := 54) (by decide), h6]
        exact ⟨fun _ => h, fun hc => absurd (nle (Nat.le_refl _) (by omega)) hc⟩
      | succ j ih =>
        intro k hk
        have W := hW.ll (d := d) (n := k) (hi := nI hi) (lim := lim)
        have hkn : k < num (spLL J d (nI hi) lim k) d := by rw [num_of (show spLL J d (nI hi) lim k 44 d = J 44 d by rw [spLL_ne (r := 44) (by decide)])]; omega
        obtain ⟨m, m1, m2, m3, m4⟩ := W.2.1 d k hd hkn
        have ih2 := ih (k + 1) (by omega)
        have e54 : spLL J d (nI hi) lim k 54 d = nI hi := by rw [spLL_ne (r := 54) (by decide)]; exact h6
        unfold spLL at ih2
        generalize spLL J d (nI hi) lim k = J1 at *
        have sk : skipL J1 d (nI hi) lim k → WP X 8 [(0, vr 26), (1, vi (nI d)), (2, vi lim), (3, vi (nI (k + 1)))] [] (wJ T J1) 0 0 := fun q => by rw [if_pos q] at ih2; exact ih2
        have ls : ¬ skipL J1 d (nI hi) lim k → WP X 111 [(0, vr 26), (1, vi (nI d)), (2, vi lim), (3, vi (nI k)), (4, vi (nI (300 * d + k))), (5, vi 0)] [] (wJ T (spL1 J1 d (300 * d + k))) 0 0 := fun q => by
          rw [if_neg q] at ih2
          have e69 : ∀ a, spLP (spL1 J1 d (300 * d + k)) d (300 * d + k) a 69 (300 * d + k) = nI m := fun a => by rw [spLP_ne (by decide), spL1_ne (by decide) (by decide)]; exact m3
          have qx : 300 * d + k < 600 := by omega
          have lp2 : ∀ (b a : Nat), a + b = m → WP X 111 [(0, vr 26), (1, vi (nI d)), (2, vi lim), (3, vi (nI k)), (4, vi (nI (300 * d + k))), (5, vi (nI a))] [] (wJ T (spLP (spL1 J1 d (300 * d + k)) d (300 * d + k) a)) 0 0 := by
            intro b
            induction b with
            | zero =>
              intro a ha
              have ham : a = m := by omega
              subst ham
              refine s5_lookForLost_111 (S := wJ T (spLP (spL1 J1 d (300 * d + k)) d (300 * d + k) a)) (FxJ hF) (Nat.le_refl _) O ⟨ixN qx (by decide), ?_⟩
              rw [tnN (show 300 * d + k < 2 ^ 31 by omega), td, gI_wm (a := 69) (by decide), e69]
              refine ⟨fun _ => ⟨hdx, ?_⟩, fun hc => absurd (nle (Nat.le_refl _) (by omega)) hc⟩
              rw [gI_wm (a := 66) (by decide), gI_wm (a := 48) (by decide), gI_wm (a := 26) (by decide), gI_wm (a := 46) (by decide), nI_suc]
              have em : ntn (J1 69 (300 * d + k)) = a := by rw [m3]; exact ntn_nI (by omega)
              unfold spLose at ih2
              rw [em] at ih2
              have e66 : spLP (spL1 J1 d (300 * d + k)) d (300 * d + k) a 66 (300 * d + k) = J1 66 (300 * d + k) := by rw [spLP_ne (by decide), spL1_ne (by decide) (by decide)]
              have e48 : spLP (spL1 J1 d (300 * d + k)) d (300 * d + k) a 48 d = J1 48 d := by rw [spLP_ne (by decide), spL1_ne (by decide) (by decide)]
              rw [e66, e48]
              refine ⟨fun hq => ?_, fun hq w hw => ?_⟩
              · rw [if_pos hq] at ih2; exact ih2
              · rw [if_neg hq] at ih2
                rw [pI_wJ (by decide), pI_wJ (by decide), gI_wm (a := 46) (by decide), uJ_same, pI_wJ (by decide)]
                have : w = fbV (spLP (spL1 J1 d (300 * d + k)) d (300 * d + k) a) d := by
                  rw [hw, maxA]
                  rfl
                rw [this]
                exact ih2
            | succ b ihb =>
              intro a ha
              have hp := m4 a (by omega)
              refine s5_lookForLost_111 (S := wJ T (spLP (spL1 J1 d (300 * d + k)) d (300 * d + k) a)) (FxJ hF) (Nat.le_refl _) O ⟨ixN qx (by decide), ?_⟩
              rw [tnN (show 300 * d + k < 2 ^ 31 by omega), gI_wm (a := 69) (by decide), e69]
              refine ⟨fun hc => ?_, fun _ => ?_⟩
              · rw [nI_leI (by omega) (by omega)] at hc; omega
              · rw [pix, show (1 : Int32) = nI 1 from rfl, show (2 : Int32) = nI 2 from rfl, show (3 : Int32) = nI 3 from rfl, nI_add, nI_add, nI_add, nI_add]
                refine ⟨ixN (by omega) (by decide), ixN (by omega) (by decide), ixN (by omega) (by decide), ixN (by omega) (by decide), ?_⟩
                rw [tnN (show 4 * (24 * (300 * d + k) + a) < 2 ^ 31 by omega), tnN (show 4 * (24 * (300 * d + k) + a) + 1 < 2 ^ 31 by omega), tnN (show 4 * (24 * (300 * d + k) + a) + 2 < 2 ^ 31 by omega), tnN (show 4 * (24 * (300 * d + k) + a) + 3 < 2 ^ 31 by omega), gI_wm (a := 74) (by decide), spLP_ne (r := 74) (by decide), spL1_ne (r := 74) (by decide) (by decide)]
                have W2 := (W.l1 (d := d) (q := 300 * d + k)).lp (d := d) (q := 300 * d + k) (m := a)
                refine m_loses (J := spLP (spL1 J1 d (300 * d + k)) d (300 * d + k) a) hF hd (hp.fr (fun i _ => frs_eq (by rw [spLP_ne (by decide), spL1_ne (by decide) (by decide)]) i)) (fun i hi j hj => W2.1 i j hi hj) ?_
                exact ihb (a + 1) (by omega)
          exact lp2 m 0 (by omega)
        refine s5_lookForLost_8 (S := wJ T J1) (FxJ hF) (Nat.le_refl _) O ⟨hdx, ?_⟩
        rw [td, mix, tnN (show 300 * d + k < 2 ^ 31 by omega)]
        simp only [gI_wm (S := T) (J := J1) (a := 54) (by decide), gI_wm (S := T) (J := J1) (a := 70) (by decide), gI_wm (S := T) (J := J1) (a := 71) (by decide), gI_wm (S := T) (J := J1) (a := 72) (by decide), gI_wm (S := T) (J := J1) (a := 26) (by decide), gI_wm (S := T) (J := J1) (a := 66) (by decide), gI_wm (S := T) (J := J1) (a := 45) (by decide), gI_wm (S := T) (J := J1) (a := 68) (by decide)]
        rw [e54, pI_wJ (by decide), pI_wJ (by decide), nI_suc, show (nI k + 3 : Int32) = nI (k + 3) from nI_add k 3]
        refine ⟨fun hc => ?_, fun _ => ⟨ixN (by omega) (by decide), fun q => sk (Or.inl q), fun n0 => ⟨fun q => sk (Or.inr (Or.inl q)), fun n1 => ⟨fun q => sk (Or.inr (Or.inr (Or.inl q))), fun n2 => ⟨fun q => ls ?_, fun q => ⟨fun q2 => sk (Or.inr (Or.inr (Or.inr ⟨q, q2⟩))), fun q2 => ls ?_⟩⟩⟩⟩⟩⟩
        · rw [nI_leI (by omega) (by omega)] at hc; omega
        · rintro (z | z | z | z)
          · exact n0 z
          · exact z n1
          · exact z n2
          · exact z.1 q
        · rintro (z | z | z | z)
          · exact n0 z
          · exact z n1
          · exact z n2
          · exact q2 z.2
    exact loop hi 0 (by omega)
end MLOOK
