section ARRIVE
variable {T : Sto} {J : Rows}
theorem uJ_comm {a b i j : Nat} {x y : Int32} (h : a ≠ b) : uJ (uJ J a i x) b j y = uJ (uJ J b j y) a i x := by
  funext r
  by_cases e : r = a
  · subst e
    rw [uJ_ne h]
    funext k
    rw [uJ_eq, uJ_eq, uJ_ne h]
  · rw [uJ_ne (a := a) (J := uJ J b j y) e]
    by_cases e2 : r = b
    · subst e2; funext k; rw [uJ_eq, uJ_eq, uJ_ne e]
    · rw [uJ_ne e2, uJ_ne e2, uJ_ne e]
theorem m_arrives {Q : Sto → Prop} {d q m : Nat} (hF : Fx T) (hq : q < 600) (hm : J 69 q = nI m) (hm2 : m ≤ 16) (hp : ∀ k, k < m → IvPart J d (prt J q k 0) (prt J q k 1) (prt J q k 2) (prt J q k 3)) (h : Q (wJ T (spArr J q m))) : Cv K5_arrives [vr 26, vi (nI q)] (wJ T J) Q := by
  refine e5_arrives (FxJ hF) (fun X O => ?_)
  have tq : (nI q).toNatClampNeg = q := tnN (by omega)
  have loop : ∀ (j k : Nat), k + j = m → WP X 2 [(0, vr 26), (1, vi (nI q)), (2, vi (nI k))] [] (wJ T (spArr J q k)) 0 0 := by
    intro j
    induction j with
    | zero =>
      intro k hk
      have hkm : k = m := by omega
      subst hkm
      refine s5_arrives_2 (S := wJ T (spArr J q k)) (FxJ hF) (Nat.le_refl _) O ⟨ixN hq (by decide), ?_⟩
      rw [tq, gI_wm (a := 69) (by decide), spArr_ne (r := 69) (by decide), hm]
      exact ⟨fun _ => h, fun hc => absurd (nle (Nat.le_refl _) (by omega)) hc⟩
    | succ j ih =>
      intro k hk
      have hIv := hp k (by omega)
      have ih2 := ih (k + 1) (by omega)
      have e0 : spArr J q (k + 1) = spArr1 (spArr J q k) (prt J q k 0) (prt J q k 1) (prt J q k 2) (prt J q k 3) := rfl
      rw [e0] at ih2
      refine s5_arrives_2 (S := wJ T (spArr J q k)) (FxJ hF) (Nat.le_refl _) O ⟨ixN hq (by decide), ?_⟩
      rw [tq, gI_wm (a := 69) (by decide), gI_wm (a := 74) (by decide), spArr_ne (r := 69) (by decide), spArr_ne (r := 74) (by decide), hm, pix, nI_suc]
      rw [show (3 : Int32) = nI 3 from rfl, show (nI (4 * (24 * q + k)) + 1 : Int32) = nI (4 * (24 * q + k) + 1) from nI_suc _, nI_add]
      rw [tnN (show 4 * (24 * q + k) < 2 ^ 31 by omega), tnN (show 4 * (24 * q + k) + 1 < 2 ^ 31 by omega), tnN (show 4 * (24 * q + k) + 3 < 2 ^ 31 by omega)]
      have p0 : J 74 (4 * (24 * q + k)) = prt J q k 0 := rfl
      have p1 : J 74 (4 * (24 * q + k) + 1) = prt J q k 1 := rfl
      have p2 : J 74 (4 * (24 * q + k) + 2) = prt J q k 2 := rfl
      have p3 : J 74 (4 * (24 * q + k) + 3) = prt J q k 3 := rfl
      rw [p0, p1, p3]
      generalize prt J q k 0 = kind at *
      generalize prt J q k 1 = a at *
      generalize prt J q k 2 = b at *
      generalize prt J q k 3 = c at *
      refine ⟨fun hc => ?_, fun _ => ⟨ixN (by omega) (by decide), fun n4 => ?_, fun e => ⟨ixN (by omega) (by decide), ixN (by omega) (by decide), ?_⟩⟩⟩
      · rw [nI_leI (by omega) (by omega)] at hc; omega
      · have : spArr1 (spArr J q k) kind a b c = spArr J q k := if_neg n4
        rw [this] at ih2; exact ih2
      · subst e
        obtain ⟨i, hi, rfl⟩ := hIv.a
        have ha : ∃ f n e, b = nI f ∧ c = nI (n + 10000 * e) ∧ f + n ≤ 1000 ∧ e ≤ 1 := by
          rcases hIv with h | h | h | ⟨-, i', f, n, e, h1, h2, h3, h4, h5, h6, h7⟩ | h | h | h | h
          · exact absurd h.1 (by decide)
          · exact absurd h.1 (by decide)
          · exact absurd h.1 (by decide)
          · exact ⟨f, n, e, h3, h4, h6, h7⟩
          all_goals exact absurd h.1 (by decide)
        obtain ⟨f, n, e, rfl, rfl, hfn, he⟩ := ha
        have hmm : ntn (nI (n + 10000 * e)) % 10000 = n := by rw [ntn_nI (by omega)]; omega
        have e4 : spArr1 (spArr J q k) 4 (nI i) (nI f) (nI (n + 10000 * e)) = if nI (n + 10000 * e) < 10000 then zitB (spArr J q k) i f 3 n else uJ (uJ (zitB (spArr J q k) i f 3 n) 34 i 1) 33 i 0 := by
          unfold spArr1
          rw [if_pos rfl, hmm, ntn_nI (by omega), ntn_nI (by omega)]
        rw [e4] at ih2
        rw [remE (by omega) he]
        have lp : ∀ (b a : Nat), a + b = n → WP X 58 [(0, vr 26), (1, vi (nI q)), (2, vi (nI k)), (3, vi (nI (4 * (24 * q + k)))), (4, vi (nI i)), (5, vi (nI n)), (6, vi (nI a))] [] (wJ T (zitB (spArr J q k) i f 3 a)) 0 0 := by
          intro b
          induction b with
          | zero =>
            intro a haa
            have : a = n := by omega
            subst this
            refine s5_arrives_58 (S := wJ T (zitB (spArr J q k) i f 3 a)) (FxJ hF) (Nat.le_refl _) O ⟨fun _ => ?_, fun hc => absurd (nle (Nat.le_refl _) (by omega)) hc⟩
            rw [show (nI (4 * (24 * q + k)) + 3 : Int32) = nI (4 * (24 * q + k) + 3) from nI_add _ 3, tnN (show 4 * (24 * q + k) + 3 < 2 ^ 31 by omega), gI_wm (a := 74) (by decide), zitB_ne (r := 74) (by decide), spArr_ne (r := 74) (by decide), p3, nI_suc]
            refine ⟨ixN (by omega) (by decide), fun hc => ?_, fun hc => ⟨ixN hi (by decide), ?_⟩⟩
            · rw [if_pos hc] at ih2; exact ih2
            · rw [if_neg hc] at ih2
              rw [tnN (by omega), pI_wJ (by decide), pI_wJ (by decide)]; exact ih2
          | succ b ihb =>
            intro a haa
            refine s5_arrives_58 (S := wJ T (zitB (spArr J q k) i f 3 a)) (FxJ hF) (Nat.le_refl _) O ⟨fun hc => ?_, fun _ => ?_⟩
            · rw [nI_leI (by omega) (by omega)] at hc; omega
            · rw [show (nI (4 * (24 * q + k)) + 2 : Int32) = nI (4 * (24 * q + k) + 2) from nI_add _ 2, tnN (show 4 * (24 * q + k) + 2 < 2 ^ 31 by omega), gI_wm (a := 74) (by decide), zitB_ne (r := 74) (by decide), spArr_ne (r := 74) (by decide), p2, nI_suc]
              have ex : (1000 * nI i + nI f + nI a : Int32) = nI (1000 * i + (f + a)) := by
                rw [show (1000 : Int32) = nI 1000 from rfl, pk_mul, nI_add, nI_add]; congr 1; omega
              rw [ex, tnN (show 1000 * i + (f + a) < 2 ^ 31 by omega)]
              refine ⟨ixN (by omega) (by decide), ixN (by omega) (by decide), ?_⟩
              rw [pI_wJ (by decide)]
              exact ihb (a + 1) (by omega)
        exact lp n 0 (by omega)
  exact loop m 0 (by omega)
def spM (J : Rows) (d : Nat) (took : Int32) : Rows :=
  if J 49 d = -6 then uJ (uJ (uJ J 49 d took) 50 d (8 * took)) 51 d (4 * took)
  else uJ (uJ (uJ J 49 d took) 51 d (((3 * J 51 d) + (if 0 ≤ J 50 d - 8 * took then J 50 d - 8 * took else 0 - (J 50 d - 8 * took))) / 4)) 50 d (((7 * J 50 d) + (8 * took)) / 8)
theorem spM_ne {d r : Nat} {t : Int32} (h1 : r ≠ 49) (h2 : r ≠ 50) (h3 : r ≠ 51) : spM J d t r = J r := by
  unfold spM
  split
  · rw [uJ_ne h3, uJ_ne h2, uJ_ne h1]
  · rw [uJ_ne h2, uJ_ne h3, uJ_ne h1]
theorem zsub32 (x : Int32) : -x = 0 - x := by simp
theorem m_measure {Q : Sto → Prop} {d : Nat} {t : Int32} (hF : Fx T) (hd : d < 2) (h5 : J 49 d = -6 ↔ ¬ 0 ≤ J 50 d) (h : Q (wJ T (spM J d t))) : Cv K5_measure [vr 26, vi (nI d), vi t] (wJ T J) Q := by
  refine e5_measure (FxJ hF) ⟨ixN hd (by decide), ?_⟩
  rw [tnN (by omega)]
  simp only [gI_wm (S := T) (J := J) (a := 50) (by decide), gI_wm (S := T) (J := J) (a := 51) (by decide)]
  refine ⟨fun hc w hw => ?_, fun hc => ?_⟩
  · rw [pI_wJ (by decide), pI_wJ (by decide), pI_wJ (by decide)]
    have : spM J d t = uJ (uJ (uJ J 49 d t) 51 d (((3 * J 51 d) + w) / 4)) 50 d (((7 * J 50 d) + (8 * t)) / 8) := by
      unfold spM
      rw [if_neg (show ¬ J 49 d = -6 from fun z => h5.mp z hc), hw, zsub32]
    rw [← this]; exact h
  · rw [pI_wJ (by decide), pI_wJ (by decide), pI_wJ (by decide)]
    have : spM J d t = uJ (uJ (uJ J 49 d t) 50 d (8 * t)) 51 d (4 * t) := if_pos (h5.mpr hc)
    rw [← this]; exact h
theorem c_measure {Q : Sto → Prop} {d : Nat} {t : Int32} (hR : Rel T J) (hd : d < 2) (h : ∀ T', Ev T T' → Rel T' (spM J d t) → Q T') : Cv K0_measure [vr (20 + 3 * d + 2), vi t] T Q := by
  have e4 : gI T (22 + 3 * d) 4 = J 49 d := (hR.d hd).2.1 4 (by decide)
  have e5 : gI T (22 + 3 * d) 5 = J 50 d := (hR.d hd).2.1 5 (by decide)
  have e6 : gI T (22 + 3 * d) 6 = J 51 d := (hR.d hd).2.1 6 (by decide)
  have hal : al T (22 + 3 * d) 0 := by have := hR.f.pace (hR.f.sd hd); rwa [show 20 + 3 * d + 2 = 22 + 3 * d by omega] at this
  rw [show 20 + 3 * d + 2 = 22 + 3 * d by omega]
  refine e0_measure hR.f hal ?_
  rw [e4, e5, e6, gI_eq, upd_at, if_neg (show ¬ (5 : Nat) = 6 by decide), e5]
  have put3 : ∀ (x y z : Int32), Rel (pI (pI (pI T (22 + 3 * d) 6 x) (22 + 3 * d) 5 y) (22 + 3 * d) 4 z) (uJ (uJ (uJ J 51 d x) 50 d y) 49 d z) := fun x y z => by
    have R1 := hR.putP hd (k := 6) (x := x) (by decide) ((hR.vd hd).free (r := 51) (by decide) hd)
    have R2 := R1.putP hd (k := 5) (x := y) (by decide) ((R1.vd hd).free (r := 50) (by decide) hd)
    exact R2.putP hd (k := 4) (x := z) (by decide) ((R2.vd hd).free (r := 49) (by decide) hd)
  have put3' : ∀ (x y z : Int32), Rel (pI (pI (pI T (22 + 3 * d) 5 y) (22 + 3 * d) 6 x) (22 + 3 * d) 4 z) (uJ (uJ (uJ J 50 d y) 51 d x) 49 d z) := fun x y z => by
    have R1 := hR.putP hd (k := 5) (x := y) (by decide) ((hR.vd hd).free (r := 50) (by decide) hd)
    have R2 := R1.putP hd (k := 6) (x := x) (by decide) ((R1.vd hd).free (r := 51) (by decide) hd)
    exact R2.putP hd (k := 4) (x := z) (by decide) ((R2.vd hd).free (r := 49) (by decide) hd)
  refine ⟨fun hc => h _ (((Ev.rf.p (by omega)).p (by omega)).p (by omega)) ?_, fun hc => h _ (((Ev.rf.p (by omega)).p (by omega)).p (by omega)) ?_⟩
  · have e : spM J d t = uJ (uJ (uJ J 51 d (((3 * J 51 d) + (if 0 ≤ J 50 d - 8 * t then J 50 d - 8 * t else 0 - (J 50 d - 8 * t))) / 4)) 50 d (((7 * J 50 d) + (8 * t)) / 8)) 49 d t := by
      unfold spM
      rw [if_neg hc, uJ_comm (a := 49) (b := 51) (by decide), uJ_comm (a := 49) (b := 50) (by decide)]
    rw [e]
    exact put3 _ _ _
  · have e : spM J d t = uJ (uJ (uJ J 50 d (8 * t)) 51 d (4 * t)) 49 d t := by
      unfold spM
      rw [if_pos hc, uJ_comm (a := 49) (b := 50) (by decide), uJ_comm (a := 49) (b := 51) (by decide)]
    rw [e]
    exact put3' _ _ _
end ARRIVE
