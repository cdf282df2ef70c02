/-! numbers -/
theorem z32 (n : Nat) : (OfNat.ofNat n : Int32) = nI n := rfl
theorem ixN {n N : Nat} (h : n < N) (hN : N < 2 ^ 31) : 0 ≤ (nI n).toInt ∧ (nI n).toInt < (N : Nat) := by
  rw [nI_toInt (by omega)]; omega
theorem tnN {n : Nat} (h : n < 2 ^ 31) : (nI n).toNatClampNeg = n := nI_clamp h
theorem ofIx {x : Int32} {N : Nat} (h : 0 ≤ x.toInt ∧ x.toInt < (N : Nat)) : x.toNatClampNeg < N ∧ x = nI x.toNatClampNeg := by
  have h1 := ix_lt h
  refine ⟨h1, ?_⟩
  have h2 : x.toNatClampNeg = x.toInt.toNat := rfl
  have h3 := Int32.toInt_lt x
  apply Int32.toInt_inj.mp
  rw [nI_toInt (by omega)]
  omega
theorem ofIx2 {x : Int32} {N : Nat} (h : 0 ≤ x.toInt ∧ x.toInt < (N : Nat)) : ∃ n, n < N ∧ x = nI n := ⟨_, ofIx h⟩
theorem ite01 {c : Prop} [Decidable c] : ((if c then 1 else 0 : Int32) = 0) ↔ ¬ c := by
  by_cases h : c <;> simp [h]
theorem ti64 (x : Int32) : x.toInt64.toInt = x.toInt := Int32.toInt_toInt64 x
theorem l64_0 : (0 : Int64).toInt = 0 := rfl
theorem l64_1 : (1 : Int64).toInt = 1 := rfl
theorem l64_1000 : (1000 : Int64).toInt = 1000 := rfl
theorem l64_60 : (60 : Int64).toInt = 60 := rfl
theorem l64_50 : (50 : Int64).toInt = 50 := rfl
theorem l64_4000 : (4000 : Int64).toInt = 4000 := rfl
theorem l64_999 : (999 : Int64).toInt = 999 := rfl
theorem l32_le (x : Int32) (n : Nat) (h : n < 2 ^ 31) : (x ≤ nI n) ↔ x.toInt ≤ n := by rw [Int32.le_iff_toInt_le, nI_toInt h]
theorem l32_lt (x : Int32) (n : Nat) (h : n < 2 ^ 31) : (x < nI n) ↔ x.toInt < n := by rw [Int32.lt_iff_toInt_lt, nI_toInt h]
theorem l32_ge (x : Int32) (n : Nat) (h : n < 2 ^ 31) : (nI n ≤ x) ↔ (n : Int) ≤ x.toInt := by rw [Int32.le_iff_toInt_le, nI_toInt h]
theorem l32_gt (x : Int32) (n : Nat) (h : n < 2 ^ 31) : (nI n < x) ↔ (n : Int) < x.toInt := by rw [Int32.lt_iff_toInt_lt, nI_toInt h]
/-! the store with another model part -/
def uJ (J : Nat → Nat → Int32) (a k : Nat) (x : Int32) : Nat → Nat → Int32 := fun b => if b = a then upd (J a) k x else J b
def wJ (S : Sto) (J : Nat → Nat → Int32) : Sto := (sN S, fun a => if 26 ≤ a ∧ a < 79 then J a else gI S a, gR S)
theorem gI_wJ (S : Sto) (J : Nat → Nat → Int32) (a : Nat) : gI (wJ S J) a = if 26 ≤ a ∧ a < 79 then J a else gI S a := rfl
theorem gI_wm {S : Sto} {J : Nat → Nat → Int32} {a : Nat} (h : 26 ≤ a ∧ a < 79) : gI (wJ S J) a = J a := if_pos h
theorem gI_wc {S : Sto} {J : Nat → Nat → Int32} {a : Nat} (h : ¬ (26 ≤ a ∧ a < 79)) : gI (wJ S J) a = gI S a := if_neg h
theorem gR_wJ (S : Sto) (J : Nat → Nat → Int32) : gR (wJ S J) = gR S := rfl
theorem sN_wJ (S : Sto) (J : Nat → Nat → Int32) : sN (wJ S J) = sN S := rfl
theorem wJ_self (S : Sto) : wJ S (gI S) = S := by
  obtain ⟨n, i, r⟩ := S
  show (n, (fun a => if 26 ≤ a ∧ a < 79 then i a else i a), r) = (n, i, r)
  congr 2
  funext a
  split <;> rfl
theorem wJ_wJ (S : Sto) (J J' : Nat → Nat → Int32) : wJ (wJ S J) J' = wJ S J' := by
  show (sN S, (fun a => if 26 ≤ a ∧ a < 79 then J' a else if 26 ≤ a ∧ a < 79 then J a else gI S a), gR S) = _
  unfold wJ
  congr 2
  funext a
  split <;> rfl
theorem pI_wJ {S : Sto} {J : Nat → Nat → Int32} {a k : Nat} {x : Int32} (h : 26 ≤ a ∧ a < 79) : pI (wJ S J) a k x = wJ S (uJ J a k x) := by
  show (sN S, (fun b => if b = a then upd ((fun a => if 26 ≤ a ∧ a < 79 then J a else gI S a) a) k x else (if 26 ≤ b ∧ b < 79 then J b else gI S b)), gR S) = (sN S, (fun b => if 26 ≤ b ∧ b < 79 then uJ J a k x b else gI S b), gR S)
  congr 2
  funext b
  by_cases e : b = a
  · subst e; simp [h, uJ]
  · simp [e, uJ]
theorem pI_cJ {S : Sto} {J : Nat → Nat → Int32} {a k : Nat} {x : Int32} (h : ¬ (26 ≤ a ∧ a < 79)) : pI (wJ S J) a k x = wJ (pI S a k x) J := by
  show (sN S, (fun b => if b = a then upd ((fun a => if 26 ≤ a ∧ a < 79 then J a else gI S a) a) k x else (if 26 ≤ b ∧ b < 79 then J b else gI S b)), gR S) = (sN S, (fun b => if 26 ≤ b ∧ b < 79 then J b else gI (pI S a k x) b), gR S)
  congr 2
  funext b
  by_cases e : b = a
  · subst e; simp [h, gI_pI]
  · simp [e, gI_pI]
theorem pR_wJ {S : Sto} {J : Nat → Nat → Int32} {a k : Nat} {x : Option Nat} : pR (wJ S J) a k x = wJ (pR S a k x) J := rfl
theorem uJ_at (J : Nat → Nat → Int32) (a k : Nat) (x : Int32) (b : Nat) : uJ J a k x b = if b = a then upd (J a) k x else J b := rfl
theorem upd_at (f : Nat → Int32) (k : Nat) (x : Int32) (j : Nat) : upd f k x j = if j = k then x else f j := rfl
theorem FxJ {S : Sto} {J : Nat → Nat → Int32} (h : Fx S) : Fx (wJ S J) := h
theorem FxJ' {S : Sto} {J : Nat → Nat → Int32} (h : Fx (wJ S J)) : Fx S := h
/-! the reference, method by method, over the store with the model part J -/
section M1
variable {T : Sto} {J : Nat → Nat → Int32}
theorem m_end (hF : Fx T) {Q : Int32 → Sto → Prop} {p : Int32} (h1 : ¬ (0 ≤ p.toInt ∧ p.toInt < 8) → Q (-1) (wJ T J)) (h2 : ∀ s, s < 8 → p = nI s → (J 28 s = 0 ∧ J 29 s = 0 → Q 1 (wJ T (uJ (uJ J 28 s 1) 26 4 1))) ∧ (¬ (J 28 s = 0 ∧ J 29 s = 0) → Q (-3) (wJ T J))) : Ci K5_end [vr 26, vi p] (wJ T J) Q := by
  refine e5_end (FxJ hF) ⟨fun hc => ?_, fun hc => ?_⟩
  · rw [ite01, Classical.not_not] at hc
    obtain ⟨s, hs, rfl⟩ := ofIx2 (N := 8) hc
    obtain ⟨k1, k2⟩ := h2 s hs rfl
    refine ⟨hc, ?_⟩
    rw [tnN (by omega)]
    rw [gI_wm (a := 28) (by decide), gI_wm (a := 29) (by decide), pI_wJ (by decide), pI_wJ (by decide)]
    exact ⟨fun a => k2 (fun q => a q.1), fun a => ⟨fun b => k1 ⟨a, b⟩, fun b => k2 (fun q => b q.2)⟩⟩
  · rw [ite01] at hc
    exact h1 hc
end M1
