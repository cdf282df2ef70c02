section LOSE
variable {T : Sto} {J : Rows}
def ntn (x : Int32) : Nat := x.toNatClampNeg
theorem ntn_nI {n : Nat} (h : n < 2 ^ 31) : ntn (nI n) = n := tnN h
def spLoses (J : Rows) (d : Nat) (kind a b c : Int32) : Rows :=
  if kind = 2 then uJ J 41 (ntn a) 1
  else if kind = 3 then uJ J 58 d 1
  else if kind = 4 then uJ (zitA J (ntn a) (ntn b) (ntn c % 10000)) 33 (ntn a) (if zitA J (ntn a) (ntn b) (ntn c % 10000) 33 (ntn a) = 0 then (if c < 10000 then 0 else (if zitA J (ntn a) (ntn b) (ntn c % 10000) 34 (ntn a) = 0 then 1 else 0)) else 1)
  else if kind = 5 then uJ J 30 (ntn a) 1
  else if kind = 6 then (if J 26 46 = 0 then J else if b = J 26 45 then uJ (uJ J 62 d 1) 63 d b else J)
  else if kind = 7 then uJ (uJ J 64 d 1) 65 d b
  else J
theorem zitA_ne {i f n r : Nat} (h : r ≠ 36) : zitA J i f n r = J r := by
  induction n with
  | zero => rfl
  | succ n ih => exact (uJ_ne h).trans ih
theorem zitB_ne {i f n r : Nat} {x : Int32} (h : r ≠ 36) : zitB J i f x n r = J r := by
  induction n with
  | zero => rfl
  | succ n ih => exact (uJ_ne h).trans ih
theorem zitC_ne {i f n r : Nat} (h : r ≠ 37) : zitC J i f n r = J r := by
  induction n with
  | zero => rfl
  | succ n ih => exact (uJ_ne h).trans ih
/-- a byte that 'is to be sent again' replaces one that was sent, nothing else changes -/
theorem zitA_at {i f n k : Nat} : zitA J i f n 36 k = if 1000 * i + f ≤ k ∧ k < 1000 * i + (f + n) ∧ J 36 k = 1 then 2 else J 36 k := by
  induction n with
  | zero => rw [if_neg (by omega)]; rfl
  | succ n ih =>
    show uJ (zitA J i f n) 36 (1000 * i + (f + n)) (if zitA J i f n 36 (1000 * i + (f + n)) = 1 then 2 else zitA J i f n 36 (1000 * i + (f + n))) 36 k = _
    rw [uJ_eq]
    by_cases e : k = 1000 * i + (f + n)
    · subst e
      rw [if_pos rfl]
      rw [if_neg (by omega)] at ih
      rw [ih]
      by_cases q : J 36 (1000 * i + (f + n)) = 1
      · rw [if_pos q, if_pos ⟨by omega, by omega, q⟩]
      · rw [if_neg q, if_neg (fun z => q z.2.2)]
    · rw [if_neg e, ih]
      by_cases q : 1000 * i + f ≤ k ∧ k < 1000 * i + (f + n) ∧ J 36 k = 1
      · rw [if_pos q, if_pos ⟨q.1, by omega, q.2.2⟩]
      · rw [if_neg q, if_neg (fun z => q ⟨z.1, by omega, z.2.2⟩)]
theorem zitB_at {i f n k : Nat} {x : Int32} : zitB J i f x n 36 k = if 1000 * i + f ≤ k ∧ k < 1000 * i + (f + n) then x else J 36 k := by
  induction n with
  | zero => rw [if_neg (by omega)]; rfl
  | succ n ih =>
    show uJ (zitB J i f x n) 36 (1000 * i + (f + n)) x 36 k = _
    rw [uJ_eq]
    by_cases e : k = 1000 * i + (f + n)
    · subst e; rw [if_pos rfl, if_pos ⟨by omega, by omega⟩]
    · rw [if_neg e, ih]
      by_cases q : 1000 * i + f ≤ k ∧ k < 1000 * i + (f + n)
      · rw [if_pos q, if_pos ⟨q.1, by omega⟩]
      · rw [if_neg q, if_neg (fun z => q ⟨z.1, by omega⟩)]
theorem zitC_at {i f n k : Nat} : zitC J i f n 37 k = if 1000 * i + f ≤ k ∧ k < 1000 * i + (f + n) then 1 else J 37 k := by
  induction n with
  | zero => rw [if_neg (by omega)]; rfl
  | succ n ih =>
    show uJ (zitC J i f n) 37 (1000 * i + (f + n)) 1 37 k = _
    rw [uJ_eq]
    by_cases e : k = 1000 * i + (f + n)
    · subst e; rw [if_pos rfl, if_pos ⟨by omega, by omega⟩]
    · rw [if_neg e, ih]
      by_cases q : 1000 * i + f ≤ k ∧ k < 1000 * i + (f + n)
      · rw [if_pos q, if_pos ⟨q.1, by omega⟩]
      · rw [if_neg q, if_neg (fun z => q ⟨z.1, by omega⟩)]
theorem i8s : ∀ b, b < 4 → ((nI b : Int32).toInt8.toInt32) = nI b := by decide
theorem remE {n e : Nat} (hn : n < 10000) (he : e ≤ 1) : (nI (n + 10000 * e) - nI (n + 10000 * e) / 10000 * 10000 : Int32) = nI n := by
  have := pk_rem (a := n + 10000 * e) (d := 10000) (by omega) (by decide) (by decide)
  rw [show (10000 : Int32) = nI 10000 from rfl, this]
  congr 1; omega
/-- the reference: what a lost part leads to -/
theorem m_loses {Q : Sto → Prop} {d : Nat} {kind a b c : Int32} (hF : Fx T) (hd : d < 2) (hv : IvPart J d kind a b c) (hS : ∀ i, i < 8 → ∀ j, j < 1000 → upTo (byt J i j) 3) (h : Q (wJ T (spLoses J d kind a b c))) : Cv K5_loses [vr 26, vi (nI d), vi kind, vi a, vi b, vi c] (wJ T J) Q := by
  refine e5_loses (FxJ hF) (fun X O => ?_)
  have hd2 := ixN hd (by decide)
  have td : (nI d).toNatClampNeg = d := tnN (by omega)
  refine ⟨fun e => ?_, fun e => ?_, fun e => ?_, fun e => ?_, fun e => ?_, fun e => ?_, fun n2 n3 n4 n5 n6 n7 => ?_⟩
  · subst e
    have ha : ∃ i, i < 8 ∧ a = nI i := by rcases hv with h | h | h | h | h | h | h | h <;> first | exact h.2.1 | exact absurd h.1 (by decide)
    obtain ⟨i, hi, rfl⟩ := ha
    refine ⟨ixN hi (by decide), ?_⟩
    rw [pI_wJ (by decide)]
    exact h
  · subst e
    refine ⟨hd2, ?_⟩
    rw [pI_wJ (by decide), td]
    exact h
  · subst e
    have ha : ∃ i f n e, i < 8 ∧ a = nI i ∧ b = nI f ∧ c = nI (n + 10000 * e) ∧ f + n ≤ 1000 ∧ e ≤ 1 := by
      rcases hv with h | h | h | ⟨-, i, f, n, e, h1, h2, h3, h4, h5, h6, h7⟩ | h | h | h | h
      · exact absurd h.1 (by decide)
      · exact absurd h.1 (by decide)
      · exact absurd h.1 (by decide)
      · exact ⟨i, f, n, e, h1, h2, h3, h4, h6, h7⟩
      all_goals exact absurd h.1 (by decide)
    obtain ⟨i, f, n, e, hi, rfl, rfl, rfl, hfn, he⟩ := ha
    have hm : ntn (nI (n + 10000 * e)) % 10000 = n := by rw [ntn_nI (by omega)]; omega
    have loop : ∀ m k, k + m = n → WP X 63 [(0, vr 26), (3, vi (nI i)), (4, vi (nI f)), (5, vi (nI (n + 10000 * e))), (6, vi (nI k))] [] (wJ T (zitA J i f k)) 0 0 := by
      intro m
      induction m with
      | zero =>
        intro k hk
        have hkn : k = n := by omega
        subst hkn
        refine s5_loses_63 (S := wJ T (zitA J i f k)) (FxJ hF) (Nat.le_refl _) O ?_
        rw [remE (by omega) he, tnN (by omega)]
        refine ⟨fun _ => ⟨ixN hi (by decide), fun w hw => ?_⟩, fun hc => absurd (by rw [nI_leI (by omega) (by omega)]; omega) hc⟩
        rw [gI_wm (a := 33) (by decide), gI_wm (a := 34) (by decide)] at hw
        rw [pI_wJ (by decide)]
        have e4 : spLoses J d 4 (nI i) (nI f) (nI (k + 10000 * e)) = uJ (zitA J i f k) 33 i w := by
          unfold spLoses
          rw [if_neg (by decide), if_neg (by decide), if_pos rfl, hm, ntn_nI (by omega), ntn_nI (by omega), hw]
        rw [← e4]; exact h
      | succ m ih =>
        intro k hk
        refine s5_loses_63 (S := wJ T (zitA J i f k)) (FxJ hF) (Nat.le_refl _) O ?_
        rw [remE (by omega) he]
        have ex : (1000 * nI i + nI f + nI k : Int32) = nI (1000 * i + (f + k)) := by
          rw [show (1000 : Int32) = nI 1000 from rfl, pk_mul, nI_add, nI_add]; congr 1; omega
        rw [ex, tnN (by omega)]
        refine ⟨fun hc => absurd hc (by rw [nI_leI (by omega) (by omega)]; omega), fun _ => ⟨ixN (by omega) (by decide), fun w hw => ?_⟩⟩
        rw [gI_wm (a := 36) (by decide), tnN (show 1000 * i + (f + k) < 2 ^ 31 by omega)] at hw
        rw [pI_wJ (by decide), nI_suc]
        obtain ⟨b3, hb3, eb3⟩ := hS i hi (f + k) (by omega)
        have eb4 : J 36 (1000 * i + (f + k)) = nI b3 := eb3
        have wv : ((w : Int32).toInt8.toInt32) = w := by
          rw [hw]
          by_cases q : zitA J i f k 36 (1000 * i + (f + k)) = 1
          · rw [if_pos q]; decide
          · rw [if_neg q, zitA_at, if_neg (by omega), eb4]; exact i8s b3 (by omega)
        rw [wv, hw, tnN (show 1000 * i + (f + k) < 2 ^ 31 by omega)]
        exact ih (k + 1) (by omega)
    exact loop n 0 (by omega)
  · subst e
    have ha : ∃ i, i < 8 ∧ a = nI i := by
      rcases hv with h | h | h | h | h | h | h | h <;> first | exact h.2.1 | exact absurd h.1 (by decide)
    obtain ⟨i, hi, rfl⟩ := ha
    refine ⟨ixN hi (by decide), ?_⟩
    rw [pI_wJ (by decide)]
    exact h
  · subst e
    rw [gI_wm (a := 26) (by decide), td]
    have e6 : spLoses J d 6 a b c = (if J 26 46 = 0 then J else if b = J 26 45 then uJ (uJ J 62 d 1) 63 d b else J) := rfl
    rw [e6] at h
    refine ⟨fun z => ?_, fun nz => ⟨fun nb => ?_, fun yb => ⟨hd2, ?_⟩⟩⟩
    · rw [if_pos z] at h; exact h
    · rw [if_neg nz, if_neg nb] at h; exact h
    · rw [if_neg nz, if_pos yb] at h
      rw [pI_wJ (by decide), pI_wJ (by decide)]; exact h
  · subst e
    refine ⟨hd2, ?_⟩
    rw [td, pI_wJ (by decide), pI_wJ (by decide)]
    exact h
  · have e0 : spLoses J d kind a b c = J := by
      unfold spLoses
      rw [if_neg n2, if_neg n3, if_neg n4, if_neg n5, if_neg n6, if_neg n7]
    rw [e0] at h; exact h
end LOSE
