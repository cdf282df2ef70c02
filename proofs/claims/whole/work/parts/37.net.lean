section NET
variable {T : Sto} {J : Rows}
/-- what is under way moves up, from place i on -/
def spOutL (J : Rows) (i : Nat) : Nat → Rows
  | 0 => J
  | c + 1 => uJ (uJ (spOutL J i c) 76 (i + c) (spOutL J i c 76 (i + c + 1))) 77 (i + c) (spOutL J i c 77 (i + c + 1))
def spOut (J : Rows) (i : Nat) : Rows := spOutL (uJ J 26 62 (J 26 62 - 1)) i (ntn (J 26 62) - 1 - i)
theorem spOutL_ne {i c r : Nat} (h1 : r ≠ 76) (h2 : r ≠ 77) : spOutL J i c r = J r := by
  induction c with
  | zero => rfl
  | succ c ih =>
    show uJ (uJ (spOutL J i c) 76 _ _) 77 _ _ r = J r
    rw [uJ_ne h2, uJ_ne h1]; exact ih
theorem m_takeOut {i N : Nat} {Q : Sto → Prop} (hF : Fx T) (hN : J 26 62 = nI N) (h4 : N ≤ 400) (hi : i < N) (h : Q (wJ T (spOut J i))) : Cv K5_takeOut [vr 26, vi (nI i)] (wJ T J) Q := by
  refine e5_takeOut (FxJ hF) (fun X O => ?_)
  have en : ntn (J 26 62) = N := by rw [hN]; exact ntn_nI (by omega)
  have e1 : (J 26 62 - 1 : Int32) = nI (N - 1) := by rw [hN]; exact pk_sub (b := 1) (by omega)
  unfold spOut at h
  rw [en, e1] at h
  rw [gI_wm (a := 26) (by decide), pI_wJ (by decide), e1]
  have loop : ∀ (b c : Nat), i + c + b = N - 1 → WP X 12 [(0, vr 26), (2, vi (nI (i + c)))] [] (wJ T (spOutL (uJ J 26 62 (nI (N - 1))) i c)) 0 0 := by
    intro b
    induction b with
    | zero =>
      intro c hc
      refine s5_takeOut_12 (S := wJ T (spOutL (uJ J 26 62 (nI (N - 1))) i c)) (FxJ hF) (Nat.le_refl _) O ?_
      rw [gI_wm (a := 26) (by decide), spOutL_ne (by decide) (by decide), uJ_same]
      refine ⟨fun _ => ?_, fun hq => absurd (nle (by omega) (by omega)) hq⟩
      rw [show N - 1 - i = c by omega] at h; exact h
    | succ b ih =>
      intro c hc
      have ih2 := ih (c + 1) (by omega)
      refine s5_takeOut_12 (S := wJ T (spOutL (uJ J 26 62 (nI (N - 1))) i c)) (FxJ hF) (Nat.le_refl _) O ?_
      rw [gI_wm (a := 26) (by decide), spOutL_ne (by decide) (by decide), uJ_same, nI_suc, tnN (show i + c < 2 ^ 31 by omega), tnN (show i + c + 1 < 2 ^ 31 by omega), gI_wm (a := 76) (by decide), gI_wm (a := 77) (by decide), pI_wJ (by decide), pI_wJ (by decide)]
      refine ⟨fun hq => ?_, fun _ => ⟨ixN (by omega) (by decide), ixN (by omega) (by decide), ih2⟩⟩
      rw [nI_leI (by omega) (by omega)] at hq; omega
  exact loop (N - 1 - i) 0 (by omega)
end NET
