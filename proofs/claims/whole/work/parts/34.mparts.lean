section MPARTS
variable {T : Sto} {J : Rows}
/-- what the reference needs before it takes what it is told of -/
def TdH (J : Rows) (d q m : Nat) : Prop := 1 ≤ m ∧ m ≤ 4 ∧ (∀ j, j < m → J 75 (8 * q + 2 * j) = nI (loOf J q j) ∧ J 75 (8 * q + 2 * j + 1) = nI (hiOf J q j) ∧ loOf J q j ≤ hiOf J q j ∧ hiOf J q j < num J d) ∧
  (J 49 d = -6 ↔ ¬ 0 ≤ J 50 d) ∧ (J 49 d = -6 ∨ 0 ≤ J 49 d) ∧ J 44 d = nI (num J d) ∧ (J 54 d = -6 ∨ ∃ n, n < num J d ∧ J 54 d = nI n) ∧ (∃ b, 120 ≤ b ∧ b < 2 ^ 31 ∧ J 47 d = nI b) ∧ 0 ≤ J 26 3 - J 66 (300 * d + hiOf J q 0)
theorem m_partComes {d q : Nat} {kind a b c : Int32} {Q : Sto → Prop} (hF : Fx T) (hW : Wk J) (hd : d < 2) (hq : q < 600) (hv : IvPart J (1 - d) kind a b c) (h38 : ∀ i, i < 8 → upTo (J 38 i) 1000) (h46 : is01 (J 26 46)) (h1 : kind = 1 → ∃ m, c = nI m ∧ TdH J d q m) (h : Q (wJ T (spPC J d q kind a b c))) : Cv K5_partComes [vr 26, vi (nI d), vi (nI q), vi kind, vi a, vi b, vi c] (wJ T J) Q := by
  obtain ⟨i, hi, hai⟩ := hv.a
  subst hai
  have ti : ntn (nI i) = i := ntn_nI (by omega)
  have ti2 : (nI i).toNatClampNeg = i := ti
  have td : (nI d).toNatClampNeg = d := tnN (by omega)
  refine e5_partComes (FxJ hF) ⟨fun e => ?_, fun e => ⟨ixN hi (by decide), fun w hw => ?_⟩, fun e => ⟨ixN hd (by decide), fun w hw => ?_⟩, fun e w hw => ?_, fun e => ⟨ixN hi (by decide), ?_⟩, fun e => ⟨ixN hd (by decide), ?_⟩, fun e w hw => ?_, fun n1 n2 n3 n4 n5 n6 n7 => ?_⟩
  · obtain ⟨m, hc, a1, a2, a3, a4, a5, a6, a7, a8, a9⟩ := h1 e
    subst e
    subst hc
    have tm : ntn (nI m) = m := ntn_nI (by omega)
    refine m_toldComes (lo := loOf J q) (hi := hiOf J q) hF hW hd hq a1 a2 a3 a4 a5 a6 a7 a8 a9 ?_
    have : spPC J d q 1 (nI i) b (nI m) = spTd J d (loOf J q) (hiOf J q) m := by
      unfold spPC
      rw [if_pos rfl, tm]
    rw [this] at h; exact h
  · subst e
    rw [ti2, gI_wm (a := 35) (by decide), maxA] at hw
    rw [ti2, pI_wJ (by decide), hw]
    have : spPC J d q 2 (nI i) b c = uJ J 35 i (if J 35 i < b then b else J 35 i) := by
      show uJ J 35 (ntn (nI i)) (if J 35 (ntn (nI i)) < b then b else J 35 (ntn (nI i))) = _
      rw [ti]
    rw [this] at h; exact h
  · subst e
    rw [td, gI_wm (a := 57) (by decide), maxA] at hw
    rw [td, pI_wJ (by decide), hw]
    exact h
  · subst e
    obtain ⟨f, n', e', hb, hc, hfn, he⟩ : ∃ f n e, b = nI f ∧ c = nI (n + 10000 * e) ∧ f + n ≤ 1000 ∧ e ≤ 1 := by
      rcases hv with h | h | h | ⟨-, i', f, n, e, h1, h2, h3, h4, h5, h6, h7⟩ | h | h | h | h
      · exact absurd h.1 (by decide)
      · exact absurd h.1 (by decide)
      · exact absurd h.1 (by decide)
      · exact ⟨f, n, e, h3, h4, h6, h7⟩
      all_goals exact absurd h.1 (by decide)
    subst hb
    subst hc
    have hm : ntn (nI (n' + 10000 * e')) % 10000 = n' := by rw [ntn_nI (by omega)]; omega
    have e4 : spPC J d q 4 (nI i) (nI f) (nI (n' + 10000 * e')) = spBC J i f n' (nI (n' + 10000 * e')) := by
      unfold spPC
      rw [if_neg (by decide), if_neg (by decide), if_neg (by decide), if_pos rfl, hm, ti, ntn_nI (by omega)]
    rw [e4] at h
    rw [remE (by omega) he]
    exact m_bytesCome hF hi hfn (h38 i hi) hw h
  · subst e
    rw [ti2, pI_wJ (by decide)]
    have : spPC J d q 5 (nI i) b c = uJ J 43 i 1 := by
      show uJ J 43 (ntn (nI i)) 1 = _
      rw [ti]
    rw [this] at h; exact h
  · subst e
    rw [td, pI_wJ (by decide), pI_wJ (by decide)]
    exact h
  · subst e
    rw [gI_wm (a := 26) (by decide)] at hw
    rw [pI_wJ (by decide)]
    have e7 : spPC J d q 7 (nI i) b c = (if d = 1 ∧ b = J 26 45 then uJ J 26 46 0 else J) := rfl
    have : uJ J 26 46 w = spPC J d q 7 (nI i) b c := by
      rw [e7, hw]
      have id46 : ∀ x, x = J 26 46 → uJ J 26 46 x = J := fun x hx => by rw [hx]; exact uJ_id
      by_cases z : J 26 46 = 0
      · rw [if_pos z]
        by_cases y : d = 1 ∧ b = J 26 45
        · rw [if_pos y]
        · rw [if_neg y]; exact id46 _ z.symm
      · have z1 : J 26 46 = 1 := is1 h46 z
        rw [if_neg z]
        rcases (show d = 0 ∨ d = 1 by omega) with rfl | rfl
        · rw [if_pos (show nI 0 = 0 from rfl), if_neg (fun y => absurd y.1 (by decide))]; exact id46 _ z1.symm
        · rw [if_neg (show ¬ nI 1 = 0 by decide)]
          by_cases y : b = J 26 45
          · rw [if_pos y, if_pos ⟨rfl, y⟩]
          · rw [if_neg y, if_neg (fun v => y v.2)]; exact id46 _ z1.symm
    rw [this]; exact h
  · have : spPC J d q kind (nI i) b c = J := by
      unfold spPC
      rw [if_neg n1, if_neg n2, if_neg n3, if_neg n4, if_neg n5, if_neg n6, if_neg n7]
    rw [this] at h; exact h
end MPARTS
