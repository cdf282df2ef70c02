section MTOLD
variable {T : Sto} {J : Rows}
theorem Wk.arr1 {kind a b c : Int32} (h : Wk J) : Wk (spArr1 J kind a b c) := by
  refine h.cp (fun i j hi hj => ?_) (spArr1_ne (by decide)) (spArr1_ne (by decide)) (spArr1_ne (by decide)) (spArr1_ne (by decide))
  have hz : upTo (zitB J (ntn a) (ntn b) 3 (ntn c % 10000) 36 (1000 * i + j)) 3 := by
    rw [zitB_at]
    split
    · exact ⟨3, by decide, rfl⟩
    · exact h.1 i j hi hj
  unfold byt spArr1
  split
  · split
    · exact hz
    · rw [uJ_ne (by decide), uJ_ne (by decide)]; exact hz
  · exact h.1 i j hi hj
theorem Wk.arr {q m : Nat} (h : Wk J) : Wk (spArr J q m) := by
  induction m with
  | zero => exact h
  | succ m ih => exact ih.arr1
theorem Wk.put {a k : Nat} {x : Int32} (h : Wk J) (h1 : a ≠ 36) (h2 : a ≠ 31) (h3 : a ≠ 44) (h4 : a ≠ 69) (h5 : a ≠ 74) : Wk (uJ J a k x) :=
  h.ne (uJ_ne (fun z => h1 z.symm)) (uJ_ne (fun z => h2 z.symm)) (uJ_ne (fun z => h3 z.symm)) (uJ_ne (fun z => h4 z.symm)) (uJ_ne (fun z => h5 z.symm))
theorem Wk.r {d n : Nat} (h : Wk J) : Wk (spR J d n) := by
  induction n with
  | zero => exact h
  | succ n ih =>
    unfold spR
    split
    · exact ih
    · exact (ih.put (a := 71) (by decide) (by decide) (by decide) (by decide) (by decide)).arr.put (by decide) (by decide) (by decide) (by decide) (by decide)
theorem Wk.w {f : Nat → Int32} (h : Wk J) : Wk (w78 J f) := h.ne (w78_ne (by decide)) (w78_ne (by decide)) (w78_ne (by decide)) (w78_ne (by decide)) (w78_ne (by decide))
theorem Wk.m {d : Nat} {t : Int32} (h : Wk J) : Wk (spM J d t) := h.ne (spM_ne (by decide) (by decide) (by decide)) (spM_ne (by decide) (by decide) (by decide)) (spM_ne (by decide) (by decide) (by decide)) (spM_ne (by decide) (by decide) (by decide)) (spM_ne (by decide) (by decide) (by decide))
theorem spM_46 {d : Nat} {t g : Int32} : spM (uJ J 46 d g) d t = uJ (spM J d t) 46 d g := by
  have e : ∀ r, r ≠ 46 → uJ J 46 d g r = J r := fun r hr => uJ_ne hr
  unfold spM
  rw [e 49 (by decide), e 50 (by decide), e 51 (by decide)]
  split
  · rw [uJ_comm (a := 46) (b := 49) (by decide), uJ_comm (a := 46) (b := 50) (by decide), uJ_comm (a := 46) (b := 51) (by decide)]
  · rw [uJ_comm (a := 46) (b := 49) (by decide), uJ_comm (a := 46) (b := 51) (by decide), uJ_comm (a := 46) (b := 50) (by decide)]
theorem uJ_w78 {f : Nat → Int32} {k : Nat} {x : Int32} : uJ (w78 J f) 78 k x = w78 J (upd f k x) := by
  funext r
  by_cases e : r = 78
  · subst e; rw [w78_at, uJ_at, if_pos rfl, w78_at]
  · rw [uJ_ne e, w78_ne e, w78_ne e]
def nowG (J : Rows) (d : Nat) (lo hi : Nat → Nat) (m n' : Nat) : Nat → Int32 := fun n => if n < 300 then (if (inSp lo hi m n = true ∨ (lo m ≤ n ∧ n < n')) ∧ J 71 (300 * d + n) = 0 then 1 else 0) else J 78 n
theorem nowG_0 {d m : Nat} {lo hi : Nat → Nat} : nowG J d lo hi m (lo m) = nowF J d lo hi m := by
  funext n
  unfold nowG nowF
  have : (inSp lo hi m n = true ∨ (lo m ≤ n ∧ n < lo m)) ↔ inSp lo hi m n = true := ⟨fun z => z.elim id (fun y => by omega), Or.inl⟩
  simp only [this]
theorem nowG_1 {d m : Nat} {lo hi : Nat → Nat} : nowG J d lo hi m (hi m + 1) = nowF J d lo hi (m + 1) := by
  funext n
  unfold nowG nowF
  have : (inSp lo hi m n = true ∨ (lo m ≤ n ∧ n < hi m + 1)) ↔ inSp lo hi (m + 1) n = true := by
    show _ ↔ (inSp lo hi m n || (decide (lo m ≤ n) && decide (n ≤ hi m))) = true
    rw [Bool.or_eq_true, Bool.and_eq_true, decide_eq_true_eq, decide_eq_true_eq]
    exact ⟨fun z => z.imp id (fun y => ⟨y.1, by omega⟩), fun z => z.imp id (fun y => ⟨y.1, by omega⟩)⟩
  simp only [this]
theorem nowG_s {d m n' : Nat} {lo hi : Nat → Nat} (h1 : lo m ≤ n') (h2 : n' < 300) : upd (nowG J d lo hi m n') n' (if J 71 (300 * d + n') = 0 then 1 else 0) = nowG J d lo hi m (n' + 1) := by
  funext n
  rw [upd_at]
  unfold nowG
  by_cases e : n = n'
  · subst e
    rw [if_pos rfl, if_pos h2]
    by_cases z : J 71 (300 * d + n) = 0
    · rw [if_pos z, if_pos ⟨Or.inr ⟨h1, by omega⟩, z⟩]
    · rw [if_neg z, if_neg (fun y => z y.2)]
  · rw [if_neg e]
    have : (inSp lo hi m n = true ∨ (lo m ≤ n ∧ n < n')) ↔ (inSp lo hi m n = true ∨ (lo m ≤ n ∧ n < n' + 1)) := ⟨fun z => z.imp id (fun y => ⟨y.1, by omega⟩), fun z => z.imp id (fun y => ⟨y.1, by omega⟩)⟩
    simp only [this]
theorem nowF_0 {d : Nat} {lo hi : Nat → Nat} : (fun n => if n < 300 then 0 else J 78 n) = nowF J d lo hi 0 := by
  funext n
  unfold nowF inSp
  simp
theorem qix {q j : Nat} : (8 * nI q + 2 * nI j : Int32) = nI (8 * q + 2 * j) := by
  rw [show (8 : Int32) = nI 8 from rfl, show (2 : Int32) = nI 2 from rfl, pk_mul, pk_mul, nI_add]
theorem m_toldComes {d q m : Nat} {lo hi : Nat → Nat} {Q : Sto → Prop} (hF : Fx T) (hW : Wk J) (hd : d < 2) (hq : q < 600) (m1 : 1 ≤ m) (m4 : m ≤ 4)
    (hl : ∀ j, j < m → J 75 (8 * q + 2 * j) = nI (lo j) ∧ J 75 (8 * q + 2 * j + 1) = nI (hi j) ∧ lo j ≤ hi j ∧ hi j < num J d)
    (h5 : J 49 d = -6 ↔ ¬ 0 ≤ J 50 d) (h49 : J 49 d = -6 ∨ 0 ≤ J 49 d) (h44 : J 44 d = nI (num J d)) (h54 : J 54 d = -6 ∨ ∃ n, n < num J d ∧ J 54 d = nI n) (h47 : ∃ b, 120 ≤ b ∧ b < 2 ^ 31 ∧ J 47 d = nI b) (htk : 0 ≤ J 26 3 - J 66 (300 * d + hi 0))
    (h : Q (wJ T (spTd J d lo hi m))) : Cv K5_toldComes [vr 26, vi (nI d), vi (nI q), vi (nI m)] (wJ T J) Q := by
  refine e5_toldComes (FxJ hF) (fun X O => ?_)
  have n3 := hW.2.2 d hd
  have td : (nI d).toNatClampNeg = d := tnN (by omega)
  have hdx := ixN hd (by decide)
  have hh := hl 0 m1
  obtain ⟨J0, hJ0⟩ : ∃ J0, J0 = w78 J (nowF J d lo hi m) := ⟨_, rfl⟩
  have e0 : ∀ r, r ≠ 78 → J0 r = J r := fun r hr => by rw [hJ0]; exact w78_ne hr
  have hW0 : Wk J0 := hJ0 ▸ hW.w
  have n0 : num J0 d = num J d := num_of (by rw [e0 44 (by decide)])
  -- the growth, and the end
  have grow : ∀ (M : Rows), Wk M → (∀ r, r ≠ 45 → r ≠ 71 → r ≠ 36 → r ≠ 34 → r ≠ 33 → r ≠ 54 → r ≠ 49 → r ≠ 50 → r ≠ 51 → M r = J0 r) → (M 49 d = -6 ∨ 0 ≤ M 49 d) → (M 54 d = -6 ∨ ∃ n, n < num J d ∧ M 54 d = nI n) →
      spTd J d lo hi m = spLook (if anyT J0 d (num J d) = 0 then uJ M 46 d (gT J0 d (num J d)) else uJ (uJ M 46 d (gT J0 d (num J d))) 52 d 0) d →
      WP X 319 [(0, vr 26), (1, vi (nI d)), (4, vi (anyT J0 d (num J d))), (6, vi 0)] [] (wJ T M) 0 0 := by
    intro M WM eM M49 M54 hsp
    have lp : ∀ (c n : Nat), n + c = num J d → WP X 319 [(0, vr 26), (1, vi (nI d)), (4, vi (anyT J0 d (num J d))), (6, vi (nI n))] [] (wJ T (uJ M 46 d (gT J0 d n))) 0 0 := by
      intro c
      induction c with
      | zero =>
        intro n hn
        have hn' : n = num J d := by omega
        subst hn'
        refine s5_toldComes_319 (S := wJ T (uJ M 46 d (gT J0 d (num J d)))) (FxJ hF) (Nat.le_refl _) O ⟨hdx, ?_⟩
        rw [td, gI_wm (a := 44) (by decide), uJ_ne (show (44 : Nat) ≠ 46 by decide), eM 44 (by decide) (by decide) (by decide) (by decide) (by decide) (by decide) (by decide) (by decide) (by decide), e0 44 (by decide), h44]
        refine ⟨fun _ w hw => ?_, fun hc => absurd (nle (Nat.le_refl _) (by omega)) hc⟩
        rw [pI_wJ (by decide)]
        rw [gI_wm (a := 52) (by decide)] at hw
        have hD : uJ (uJ M 46 d (gT J0 d (num J d))) 52 d w = (if anyT J0 d (num J d) = 0 then uJ M 46 d (gT J0 d (num J d)) else uJ (uJ M 46 d (gT J0 d (num J d))) 52 d 0) := by
          rw [hw]
          by_cases a : anyT J0 d (num J d) = 0
          · rw [if_pos a, if_pos a]; exact uJ_id
          · rw [if_neg a, if_neg a]
        refine m_lookForLost hF ((WM.put (by decide) (by decide) (by decide) (by decide) (by decide)).put (by decide) (by decide) (by decide) (by decide) (by decide)) hd ?_ ?_ ?_
        · rw [uJ_ne (by decide), uJ_ne (by decide)]; exact M49
        · rw [num_of (show uJ (uJ M 46 d (gT J0 d (num J d))) 52 d w 44 d = J 44 d by rw [uJ_ne (by decide), uJ_ne (by decide), eM 44 (by decide) (by decide) (by decide) (by decide) (by decide) (by decide) (by decide) (by decide) (by decide), e0 44 (by decide)]), uJ_ne (by decide), uJ_ne (by decide)]; exact M54
        · rw [hD, ← hsp]; exact h
      | succ c ih =>
        intro n hn
        have ih2 := ih (n + 1) (by omega)
        have nx : n < 300 := by omega
        have qx : 300 * d + n < 600 := by omega
        have eU : ∀ r, r ≠ 45 → r ≠ 71 → r ≠ 36 → r ≠ 34 → r ≠ 33 → r ≠ 54 → r ≠ 49 → r ≠ 50 → r ≠ 51 → r ≠ 46 → uJ M 46 d (gT J0 d n) r = J0 r := fun r a1 a2 a3 a4 a5 a6 a7 a8 a9 a10 => by rw [uJ_ne a10]; exact eM r a1 a2 a3 a4 a5 a6 a7 a8 a9
        have eg : gT J0 d (n + 1) = if J0 78 n = 0 ∨ J0 70 (300 * d + n) = 0 ∨ ¬ J0 72 (300 * d + n) = 0 ∨ J0 66 (300 * d + n) ≤ J0 48 d then gT J0 d n else gv J0 d (J0 68 (300 * d + n)) (gT J0 d n) := rfl
        rw [eg] at ih2
        refine s5_toldComes_319 (S := wJ T (uJ M 46 d (gT J0 d n))) (FxJ hF) (Nat.le_refl _) O ⟨hdx, ?_⟩
        rw [td, mix, tnN (show 300 * d + n < 2 ^ 31 by omega), tnN (show n < 2 ^ 31 by omega), nI_suc]
        simp only [gI_wm (S := T) (J := uJ M 46 d (gT J0 d n)) (a := 44) (by decide), gI_wm (S := T) (J := uJ M 46 d (gT J0 d n)) (a := 78) (by decide), gI_wm (S := T) (J := uJ M 46 d (gT J0 d n)) (a := 70) (by decide), gI_wm (S := T) (J := uJ M 46 d (gT J0 d n)) (a := 72) (by decide), gI_wm (S := T) (J := uJ M 46 d (gT J0 d n)) (a := 66) (by decide), gI_wm (S := T) (J := uJ M 46 d (gT J0 d n)) (a := 48) (by decide), gI_wm (S := T) (J := uJ M 46 d (gT J0 d n)) (a := 47) (by decide), gI_wm (S := T) (J := uJ M 46 d (gT J0 d n)) (a := 46) (by decide), gI_wm (S := T) (J := uJ M 46 d (gT J0 d n)) (a := 26) (by decide), gI_wm (S := T) (J := uJ M 46 d (gT J0 d n)) (a := 68) (by decide)]
        rw [eU 44 (by decide) (by decide) (by decide) (by decide) (by decide) (by decide) (by decide) (by decide) (by decide) (by decide), eU 78 (by decide) (by decide) (by decide) (by decide) (by decide) (by decide) (by decide) (by decide) (by decide) (by decide), eU 70 (by decide) (by decide) (by decide) (by decide) (by decide) (by decide) (by decide) (by decide) (by decide) (by decide), eU 72 (by decide) (by decide) (by decide) (by decide) (by decide) (by decide) (by decide) (by decide) (by decide) (by decide), eU 66 (by decide) (by decide) (by decide) (by decide) (by decide) (by decide) (by decide) (by decide) (by decide) (by decide), eU 48 (by decide) (by decide) (by decide) (by decide) (by decide) (by decide) (by decide) (by decide) (by decide) (by decide), eU 47 (by decide) (by decide) (by decide) (by decide) (by decide) (by decide) (by decide) (by decide) (by decide) (by decide), eU 26 (by decide) (by decide) (by decide) (by decide) (by decide) (by decide) (by decide) (by decide) (by decide) (by decide), eU 68 (by decide) (by decide) (by decide) (by decide) (by decide) (by decide) (by decide) (by decide) (by decide) (by decide), uJ_same]
        rw [pI_wJ (by decide), pI_wJ (by decide), uJ_uJ, uJ_uJ]
        have sk : (J0 78 n = 0 ∨ J0 70 (300 * d + n) = 0 ∨ ¬ J0 72 (300 * d + n) = 0 ∨ J0 66 (300 * d + n) ≤ J0 48 d) → WP X 319 [(0, vr 26), (1, vi (nI d)), (4, vi (anyT J0 d (num J d))), (6, vi (nI (n + 1)))] [] (wJ T (uJ M 46 d (gT J0 d n))) 0 0 := fun z => by rw [if_pos z] at ih2; exact ih2
        refine ⟨fun hc => ?_, fun _ => ⟨ixN nx (by decide), fun z => sk (Or.inl z), fun z1 => ⟨ixN qx (by decide), fun z => sk (Or.inr (Or.inl z)), fun z2 => ⟨fun z => sk (Or.inr (Or.inr (Or.inl z))), fun z3 => ⟨fun z => sk (Or.inr (Or.inr (Or.inr z))), fun z4 => ?_⟩⟩⟩⟩⟩
        · rw [e0 44 (by decide), h44, nI_leI (by omega) (by omega)] at hc; omega
        · rw [if_neg (fun z => z.elim z1 (fun z => z.elim z2 (fun z => z.elim (fun z => z z3) z4)))] at ih2
          unfold gv at ih2
          refine ⟨fun hc => ⟨?_, ?_⟩, fun hc => ?_⟩
          · obtain ⟨b, b1, b2, b3⟩ := h47
            intro z
            rw [z, e0 47 (by decide), b3, show (0 : Int32) = nI 0 from rfl, nI_leI (by omega) (by omega)] at hc
            omega
          · rw [if_neg (fun z => ltle z hc)] at ih2; exact ih2
          · rw [if_pos (ile hc)] at ih2; exact ih2
    have := lp (num J d) 0 (by omega)
    have e46 : uJ M 46 d (gT J0 d 0) = M := by
      show uJ M 46 d (J0 46 d) = M
      rw [← eM 46 (by decide) (by decide) (by decide) (by decide) (by decide) (by decide) (by decide) (by decide) (by decide)]
      exact uJ_id
    rw [e46] at this
    exact this
  have hspec : ∀ C, (if J0 78 (hi 0) = 0 ∨ J 70 (300 * d + hi 0) = 0 then uJ (spT J0 d (num J d)) 54 d (if J 54 d < nI (hi 0) then nI (hi 0) else J 54 d) else spM (uJ (spT J0 d (num J d)) 54 d (if J 54 d < nI (hi 0) then nI (hi 0) else J 54 d)) d (J 26 3 - J 66 (300 * d + hi 0))) = C → spTd J d lo hi m = spLook (if anyT J0 d (num J d) = 0 then C else uJ C 52 d 0) d := fun C e => by rw [← e, hJ0]; rfl
  have fo : ∀ (c n : Nat), n + c = num J d → WP X 129 [(0, vr 26), (1, vi (nI d)), (4, vi (anyT J0 d n)), (5, vi (nI (hi 0))), (6, vi (nI n))] [] (wJ T (spR J0 d n)) 0 0 := by
    intro c
    induction c with
    | zero =>
      intro n hn
      have hn' : n = num J d := by omega
      subst hn'
      have rR : ∀ r, r ≠ 45 → r ≠ 71 → r ≠ 36 → r ≠ 34 → r ≠ 33 → spR J0 d (num J d) r = J0 r := fun r a b c e f => spR_ne a b ⟨c, e, f⟩
      have hRT := spT_R (J := J0) d (num J d)
      rw [hRT] at hspec
      refine s5_toldComes_129 (S := wJ T (spR J0 d (num J d))) (FxJ hF) (Nat.le_refl _) O ⟨hdx, ?_⟩
      rw [td, gI_wm (a := 44) (by decide), rR 44 (by decide) (by decide) (by decide) (by decide) (by decide), e0 44 (by decide), h44]
      have hx : hi 0 < 300 := by have := hh.2.2.2; omega
      refine ⟨fun _ w hw => ⟨ixN hx (by decide), ?_⟩, fun hc => absurd (nle (Nat.le_refl _) (by omega)) hc⟩
      rw [gI_wm (a := 54) (by decide), rR 54 (by decide) (by decide) (by decide) (by decide) (by decide), e0 54 (by decide), maxA] at hw
      rw [mix, tnN (show 300 * d + hi 0 < 2 ^ 31 by omega), tnN (show hi 0 < 2 ^ 31 by omega)]
      simp only [gI_wm (S := T) (J := spR J0 d (num J d)) (a := 78) (by decide), gI_wm (S := T) (J := spR J0 d (num J d)) (a := 70) (by decide), gI_wm (S := T) (J := spR J0 d (num J d)) (a := 26) (by decide), gI_wm (S := T) (J := spR J0 d (num J d)) (a := 66) (by decide)]
      rw [rR 78 (by decide) (by decide) (by decide) (by decide) (by decide), rR 70 (by decide) (by decide) (by decide) (by decide) (by decide), rR 26 (by decide) (by decide) (by decide) (by decide) (by decide), rR 66 (by decide) (by decide) (by decide) (by decide) (by decide), e0 70 (by decide), e0 26 (by decide), e0 66 (by decide), pI_wJ (by decide)]
      rw [← hw] at hspec
      rw [uJ_comm (a := 46) (b := 54) (by decide), spM_46] at hspec
      have W1 : Wk (uJ (spR J0 d (num J d)) 54 d w) := hW0.r.put (by decide) (by decide) (by decide) (by decide) (by decide)
      have w54 : w = -6 ∨ ∃ n, n < num J d ∧ w = nI n := by
        rw [hw]
        by_cases z : J 54 d < nI (hi 0)
        · rw [if_pos z]; exact Or.inr ⟨hi 0, hh.2.2.2, rfl⟩
        · rw [if_neg z]; exact h54
      have plain : (J0 78 (hi 0) = 0 ∨ J 70 (300 * d + hi 0) = 0) → WP X 319 [(0, vr 26), (1, vi (nI d)), (4, vi (anyT J0 d (num J d))), (6, vi 0)] [] (wJ T (uJ (spR J0 d (num J d)) 54 d w)) 0 0 := fun z => by
        refine grow _ W1 (fun r a b c e f g _ _ _ => by rw [uJ_ne g]; exact rR r a b c e f) ?_ ?_ (hspec _ (if_pos z))
        · rw [uJ_ne (by decide), rR 49 (by decide) (by decide) (by decide) (by decide) (by decide), e0 49 (by decide)]; exact h49
        · rw [uJ_same]; exact w54
      refine ⟨fun z => plain (Or.inl z), fun z1 => ⟨ixN (by omega) (by decide), fun z => plain (Or.inr z), fun z2 => ?_⟩⟩
      refine m_measure hF hd ?_ ?_
      · rw [uJ_ne (by decide), uJ_ne (by decide), rR 49 (by decide) (by decide) (by decide) (by decide) (by decide), rR 50 (by decide) (by decide) (by decide) (by decide) (by decide), e0 49 (by decide), e0 50 (by decide)]; exact h5
      · refine grow _ W1.m (fun r a b c e f g i1 i2 i3 => by rw [spM_ne i1 i2 i3, uJ_ne g]; exact rR r a b c e f) ?_ ?_ (hspec _ (if_neg (fun z => z.elim z1 z2)))
        · refine Or.inr ?_
          unfold spM
          split
          · rw [uJ_ne (by decide), uJ_ne (by decide), uJ_same]; exact htk
          · rw [uJ_ne (by decide), uJ_ne (by decide), uJ_same]; exact htk
        · rw [spM_ne (by decide) (by decide) (by decide), uJ_same]; exact w54
    | succ c ih =>
      intro n hn
      have ih2 := ih (n + 1) (by omega)
      have nx : n < 300 := by omega
      have qx : 300 * d + n < 600 := by omega
      have rR : ∀ r, r ≠ 45 → r ≠ 71 → r ≠ 36 → r ≠ 34 → r ≠ 33 → spR J0 d n r = J0 r := fun r a b c e f => spR_ne a b ⟨c, e, f⟩
      refine s5_toldComes_129 (S := wJ T (spR J0 d n)) (FxJ hF) (Nat.le_refl _) O ⟨hdx, ?_⟩
      rw [td, mix (n := n), tnN (show 300 * d + n < 2 ^ 31 by omega), tnN (show n < 2 ^ 31 by omega), nI_suc, gI_wm (a := 44) (by decide), gI_wm (a := 78) (by decide), rR 44 (by decide) (by decide) (by decide) (by decide) (by decide), rR 78 (by decide) (by decide) (by decide) (by decide) (by decide), e0 44 (by decide), h44, pI_wJ (by decide)]
      refine ⟨fun hc => ?_, fun _ => ⟨ixN nx (by decide), fun z => ?_, fun z => ⟨ixN qx (by decide), ?_⟩⟩⟩
      · rw [nI_leI (by omega) (by omega)] at hc; omega
      · have e1 : spR J0 d (n + 1) = spR J0 d n := if_pos z
        have e2 : anyT J0 d (n + 1) = anyT J0 d n := if_pos z
        rw [e1, e2] at ih2
        exact ih2
      · have e1 : spR J0 d (n + 1) = spR1 (spR J0 d n) d (300 * d + n) := if_neg z
        have e2 : anyT J0 d (n + 1) = if anyT J0 d n = 0 then (if J0 70 (300 * d + n) = 0 then 0 else 1) else 1 := if_neg z
        rw [e1, e2] at ih2
        have W1 := (hW0.r (d := d) (n := n)).put (a := 71) (k := 300 * d + n) (x := 1) (by decide) (by decide) (by decide) (by decide) (by decide)
        obtain ⟨m', a1, a2, a3, a4⟩ := W1.2.1 d n hd (by rw [num_of (show uJ (spR J0 d n) 71 (300 * d + n) 1 44 d = J 44 d by rw [uJ_ne (by decide), rR 44 (by decide) (by decide) (by decide) (by decide) (by decide), e0 44 (by decide)])]; omega)
        refine m_arrives hF qx a3 a2 a4 ?_
        intro w27 hw27 w32 hw32
        have u : ∀ r, r ≠ 36 → r ≠ 34 → r ≠ 33 → r ≠ 71 → spArr (uJ (spR J0 d n) 71 (300 * d + n) 1) (300 * d + n) m' r = spR J0 d n r := fun r b1 b2 b3 b4 => by rw [spArr_ne ⟨b1, b2, b3⟩, uJ_ne b4]
        rw [gI_wm (a := 70) (by decide), u 70 (by decide) (by decide) (by decide) (by decide), rR 70 (by decide) (by decide) (by decide) (by decide) (by decide)] at hw27
        rw [gI_wm (a := 70) (by decide), gI_wm (a := 72) (by decide), gI_wm (a := 68) (by decide), u 70 (by decide) (by decide) (by decide) (by decide), u 72 (by decide) (by decide) (by decide) (by decide), u 68 (by decide) (by decide) (by decide) (by decide)] at hw32
        rw [gI_wm (a := 45) (by decide), u 45 (by decide) (by decide) (by decide) (by decide), pI_wJ (by decide), hw27, hw32]
        unfold spR1 at ih2
        have em : ntn (spR J0 d n 69 (300 * d + n)) = m' := by
          rw [uJ_ne (by decide)] at a3
          rw [a3]; exact ntn_nI (by omega)
        rw [em] at ih2
        exact ih2
  have sp : ∀ (c j : Nat), j + c = m → WP X 28 [(0, vr 26), (1, vi (nI d)), (2, vi (nI q)), (3, vi (nI m)), (4, vi (nI j))] [] (wJ T (w78 J (nowF J d lo hi j))) 0 0 := by
    intro c
    induction c with
    | zero =>
      intro j hj
      have hj' : j = m := by omega
      subst hj'
      refine s5_toldComes_28 (S := wJ T (w78 J (nowF J d lo hi j))) (FxJ hF) (Nat.le_refl _) O ⟨fun _ => ?_, fun hc => absurd (nle (Nat.le_refl _) (by omega)) hc⟩
      have ei : (8 * nI q + 1 : Int32) = nI (8 * q + 1) := by rw [show (8 : Int32) = nI 8 from rfl, pk_mul, nI_suc]
      rw [ei, tnN (show 8 * q + 1 < 2 ^ 31 by omega), gI_wm (a := 75) (by decide), w78_ne (by decide), show J 75 (8 * q + 1) = nI (hi 0) from hh.2.1]
      refine ⟨ixN (by omega) (by decide), ?_⟩
      have := fo (num J d) 0 (by omega)
      rw [← hJ0]
      exact this
    | succ c ih =>
      intro j hj
      have hj' : j < m := by omega
      have lk := hl j hj'
      refine s5_toldComes_28 (S := wJ T (w78 J (nowF J d lo hi j))) (FxJ hF) (Nat.le_refl _) O ⟨fun hc => ?_, fun _ => ?_⟩
      · rw [nI_leI (by omega) (by omega)] at hc; omega
      · rw [qix, tnN (show 8 * q + 2 * j < 2 ^ 31 by omega), gI_wm (a := 75) (by decide), w78_ne (by decide), lk.1]
        refine ⟨ixN (by omega) (by decide), ?_⟩
        have inr : ∀ (b n : Nat), n + b = hi j + 1 → lo j ≤ n → WP X 50 [(0, vr 26), (1, vi (nI d)), (2, vi (nI q)), (3, vi (nI m)), (4, vi (nI j)), (5, vi (nI n))] [] (wJ T (w78 J (nowG J d lo hi j n))) 0 0 := by
          intro b
          induction b with
          | zero =>
            intro n hn hln
            have hn' : n = hi j + 1 := by omega
            subst hn'
            refine s5_toldComes_50 (S := wJ T (w78 J (nowG J d lo hi j (hi j + 1)))) (FxJ hF) (Nat.le_refl _) O ?_
            rw [qix, nI_suc, nI_suc, tnN (show 8 * q + 2 * j + 1 < 2 ^ 31 by omega), gI_wm (a := 75) (by decide), w78_ne (by decide), lk.2.1, nowG_1]
            refine ⟨ixN (by omega) (by decide), fun _ => ih (j + 1) (by omega), fun hc => ?_⟩
            rw [nI_ltI (by omega) (by omega)] at hc; omega
          | succ b ihb =>
            intro n hn hln
            refine s5_toldComes_50 (S := wJ T (w78 J (nowG J d lo hi j n))) (FxJ hF) (Nat.le_refl _) O ?_
            have nx : n < 300 := by have := lk.2.2.2; omega
            rw [qix, mix, nI_suc, nI_suc, nI_suc, tnN (show 8 * q + 2 * j + 1 < 2 ^ 31 by omega), tnN (show 300 * d + n < 2 ^ 31 by omega), tnN (show n < 2 ^ 31 by omega), gI_wm (a := 75) (by decide), w78_ne (by decide), lk.2.1]
            refine ⟨ixN (by omega) (by decide), fun hc => ?_, fun _ => ⟨ixN (by omega) (by decide), fun w hw => ⟨ixN nx (by decide), ?_⟩⟩⟩
            · rw [nI_ltI (by omega) (by omega)] at hc; omega
            · rw [gI_wm (a := 71) (by decide), w78_ne (by decide)] at hw
              rw [pI_wJ (by decide), uJ_w78, hw, nowG_s hln nx]
              exact ihb (n + 1) (by omega) (by omega)
        have := inr (hi j + 1 - lo j) (lo j) (by have := lk.2.2.1; omega) (Nat.le_refl _)
        rw [nowG_0] at this
        exact this
  have cl : ∀ (c k : Nat), k + c = 300 → WP X 3 [(0, vr 26), (1, vi (nI d)), (2, vi (nI q)), (3, vi (nI m)), (4, vi (nI k))] [] (wJ T (w78 J (fun n => if n < k then 0 else J 78 n))) 0 0 := by
    intro c
    induction c with
    | zero =>
      intro k hk
      have hk' : k = 300 := by omega
      subst hk'
      refine s5_toldComes_3 (S := wJ T (w78 J (fun n => if n < 300 then 0 else J 78 n))) (FxJ hF) (Nat.le_refl _) O ⟨fun _ => ?_, fun hc => absurd (nle (N := 300) (Nat.le_refl _) (by omega)) hc⟩
      rw [nowF_0 (d := d) (lo := lo) (hi := hi)]
      exact sp m 0 (by omega)
    | succ c ih =>
      intro k hk
      refine s5_toldComes_3 (S := wJ T (w78 J (fun n => if n < k then 0 else J 78 n))) (FxJ hF) (Nat.le_refl _) O ⟨fun hc => absurd hc (nge (N := 300) (by omega) (by decide)), fun _ => ⟨ixN (by omega) (by decide), ?_⟩⟩
      rw [tnN (by omega), pI_wJ (by decide), uJ_w78, nI_suc]
      have e : upd (fun n => if n < k then 0 else J 78 n) k 0 = (fun n => if n < k + 1 then 0 else J 78 n) := by
        funext n
        rw [upd_at]
        by_cases e : n = k
        · rw [if_pos e, if_pos (by omega)]
        · rw [if_neg e]
          by_cases e2 : n < k
          · rw [if_pos e2, if_pos (by omega)]
          · rw [if_neg e2, if_neg (by omega)]
      rw [e]
      exact ih (k + 1) (by omega)
  have st : w78 J (fun n => if n < 0 then 0 else J 78 n) = J := by
    funext r
    by_cases e : r = 78
    · subst e
      rw [w78_at]
      funext n
      rw [if_neg (by omega)]
    · exact w78_ne e
  have := cl 300 0 (by omega)
  rw [st] at this
  exact this
end MTOLD
