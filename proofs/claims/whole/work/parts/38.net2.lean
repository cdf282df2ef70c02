section NET2
variable {T : Sto} {J : Rows}
/-- a place under way, as the reference asks for it -/
theorem netIn {N : Nat} {p : Int32} (h4 : N ≤ 400) : (0 ≤ p.toInt ∧ p.toInt ≤ (nI N - 1).toInt) ↔ ∃ i, i < N ∧ p = nI i := by
  have e : (nI N - 1 : Int32).toInt = (N : Int) - 1 := by
    rw [show (1 : Int32) = nI 1 from rfl]; exact pk_sub_toInt (a := N) (b := 1) (by omega) (by omega)
  rw [e]
  refine ⟨fun z => ?_, fun ⟨i, hi, hp⟩ => ?_⟩
  · exact ofIx2 (N := N) ⟨z.1, by omega⟩
  · rw [hp, nI_toInt (by omega)]; omega
theorem m_drop {N : Nat} {p : Int32} {Q : Int32 → Sto → Prop} (hF : Fx T) (hN : J 26 62 = nI N) (h4 : N ≤ 400) (h1 : ¬ (∃ i, i < N ∧ p = nI i) → Q (-1) (wJ T J)) (h2 : ∀ i, i < N → p = nI i → Q (nI (N - 1)) (wJ T (spOut J i))) : Ci K5_drop [vr 26, vi p] (wJ T J) Q := by
  refine e5_drop (FxJ hF) ?_
  rw [gI_wm (a := 26) (by decide), hN]
  simp only [ite01, Classical.not_not, ti64, l64_0, netIn h4]
  refine ⟨fun ⟨i, hi, hp⟩ => ?_, h1⟩
  subst hp
  refine m_takeOut hF hN h4 hi ?_
  have e : spOut J i 26 62 = nI (N - 1) := by
    unfold spOut
    rw [spOutL_ne (by decide) (by decide), uJ_same, hN]
    exact pk_sub (b := 1) (by omega)
  rw [gI_wm (a := 26) (by decide), e]
  exact h2 i hi rfl
def spTw (J : Rows) (i N : Nat) : Rows := uJ (uJ (uJ J 76 N (J 76 i)) 77 N (J 77 i)) 26 62 (nI (N + 1))
theorem m_twice {N : Nat} {p : Int32} {Q : Int32 → Sto → Prop} (hF : Fx T) (hN : J 26 62 = nI N) (h4 : N ≤ 400) (h1 : ¬ (∃ i, i < N ∧ p = nI i) → Q (-1) (wJ T J)) (h2 : ∀ i, i < N → p = nI i → (N = 400 → Q (-4) (wJ T J)) ∧ (N < 400 → Q (nI (N + 1)) (wJ T (spTw J i N)))) : Ci K5_twice [vr 26, vi p] (wJ T J) Q := by
  refine e5_twice (FxJ hF) ?_
  rw [gI_wm (a := 26) (by decide), hN]
  simp only [ite01, Classical.not_not, ti64, l64_0, netIn h4]
  refine ⟨fun ⟨i, hi, hp⟩ => ?_, h1⟩
  subst hp
  obtain ⟨k1, k2⟩ := h2 i hi rfl
  refine ⟨fun hc => ?_, fun hc => k1 (nI_nj (b := 400) (by omega) (by omega) hc)⟩
  have hlt : N < 400 := by
    rcases Nat.lt_or_ge N 400 with z | z
    · exact z
    · exact absurd (show nI N = 400 by rw [show N = 400 by omega]; rfl) hc
  refine ⟨ixN (by omega) (by decide), ixN hlt (by decide), ?_⟩
  rw [tnN (show N < 2 ^ 31 by omega), tnN (show i < 2 ^ 31 by omega), gI_wm (a := 76) (by decide), gI_wm (a := 77) (by decide), pI_wJ (by decide), pI_wJ (by decide), pI_wJ (by decide), nI_suc]
  exact k2 hlt
end NET2
