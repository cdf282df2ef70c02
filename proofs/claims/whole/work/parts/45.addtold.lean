section ADDTOLD
variable {T : Sto} {J : Rows}
/-- the highest that came below n, plus one; 0 if none -/
def dnF (f : Nat → Int32) : Nat → Nat
  | 0 => 0
  | n + 1 => if f n = 0 then dnF f n else n + 1
/-- the lowest of the row that reaches to n -/
def lwF (f : Nat → Int32) : Nat → Nat
  | 0 => 0
  | n + 1 => if f n = 0 then n + 1 else lwF f n
def hpF (f : Nat → Int32) (h : Nat) : Nat → Nat
  | 0 => h + 1
  | k + 1 => dnF f (lwF f (hpF f h k - 1))
def loF (f : Nat → Int32) (h k : Nat) : Nat := lwF f (hpF f h k - 1)
def hiF (f : Nat → Int32) (h k : Nat) : Nat := hpF f h k - 1
def mSp (f : Nat → Int32) (h : Nat) : Nat := if hpF f h 1 = 0 then 1 else if hpF f h 2 = 0 then 2 else if hpF f h 3 = 0 then 3 else 4
theorem dnF_le (f : Nat → Int32) : ∀ n, dnF f n ≤ n := fun n => by
  induction n with
  | zero => exact Nat.le_refl _
  | succ n ih =>
    unfold dnF
    split <;> omega
theorem lwF_le (f : Nat → Int32) : ∀ n, lwF f n ≤ n := fun n => by
  induction n with
  | zero => exact Nat.le_refl _
  | succ n ih =>
    unfold lwF
    split <;> omega
theorem hpF_s (f : Nat → Int32) (h k : Nat) : hpF f h (k + 1) = dnF f (loF f h k) := rfl
theorem mSp_eq {f : Nat → Int32} {h c : Nat} (c1 : 1 ≤ c) (c4 : c ≤ 4) (hp : ∀ j, j < c → 0 < hpF f h j) (he : c = 4 ∨ hpF f h c = 0) : mSp f h = c := by
  unfold mSp
  rcases (show c = 1 ∨ c = 2 ∨ c = 3 ∨ c = 4 by omega) with rfl | rfl | rfl | rfl
  · rw [if_pos (he.resolve_left (by decide))]
  · have := hp 1 (by decide)
    rw [if_neg (by omega), if_pos (he.resolve_left (by decide))]
  · have a1 := hp 1 (by decide)
    have a2 := hp 2 (by decide)
    rw [if_neg (by omega), if_neg (by omega), if_pos (he.resolve_left (by decide))]
  · have a1 := hp 1 (by decide)
    have a2 := hp 2 (by decide)
    have a3 := hp 3 (by decide)
    rw [if_neg (by omega), if_neg (by omega), if_neg (by omega)]
theorem mSp_1 (f : Nat → Int32) (h : Nat) : 1 ≤ mSp f h ∧ mSp f h ≤ 4 := by
  unfold mSp
  split
  · omega
  split
  · omega
  split <;> omega
/-- what the spans are -/
theorem spn_le {f : Nat → Int32} {h k : Nat} : loF f h k ≤ hiF f h k := lwF_le f _
theorem spn_lt {f : Nat → Int32} {h k : Nat} (hp : 0 < hpF f h (k + 1)) : hiF f h (k + 1) < loF f h k := by
  have := dnF_le f (loF f h k)
  unfold hiF
  rw [hpF_s] at hp ⊢
  omega
theorem spn_hi {f : Nat → Int32} {h : Nat} : ∀ k, hiF f h k ≤ h := fun k => by
  induction k with
  | zero => exact Nat.le_of_eq rfl
  | succ k ih =>
    have h1 := dnF_le f (loF f h k)
    have h2 := spn_le (f := f) (h := h) (k := k)
    have h3 : hiF f h (k + 1) = dnF f (loF f h k) - 1 := rfl
    omega
theorem hp_mono {f : Nat → Int32} {h c : Nat} (h0 : ∀ j, j < c → 0 < hpF f h j) : ∀ j, j + 1 < c → hiF f h (j + 1) < loF f h j := fun j hj => spn_lt (h0 _ hj)
/-- the rows of the spans -/
def spSp (J : Rows) (q : Nat) (f : Nat → Int32) (h : Nat) : Nat → Rows
  | 0 => J
  | k + 1 => uJ (uJ (spSp J q f h k) 75 (8 * q + 2 * k) (nI (loF f h k))) 75 (8 * q + 2 * k + 1) (nI (hiF f h k))
theorem spSp_ne {q h k r : Nat} {f : Nat → Int32} (hr : r ≠ 75) : spSp J q f h k r = J r := by
  induction k with
  | zero => rfl
  | succ k ih =>
    show uJ (uJ (spSp J q f h k) 75 _ _) 75 _ _ r = J r
    rw [uJ_ne hr, uJ_ne hr]; exact ih
theorem spSp_o {q h k x : Nat} {f : Nat → Int32} (hx : x < 8 * q ∨ 8 * q + 2 * k ≤ x) : spSp J q f h k 75 x = J 75 x := by
  induction k with
  | zero => rfl
  | succ k ih =>
    show uJ (uJ (spSp J q f h k) 75 _ _) 75 _ _ 75 x = J 75 x
    rw [uJ_off _ _ (Or.inr (by omega)), uJ_off _ _ (Or.inr (by omega))]
    exact ih (by omega)
theorem spSp_at {q h k : Nat} {f : Nat → Int32} : ∀ j, j < k → spSp J q f h k 75 (8 * q + 2 * j) = nI (loF f h j) ∧ spSp J q f h k 75 (8 * q + 2 * j + 1) = nI (hiF f h j) := by
  induction k with
  | zero => intro j hj; omega
  | succ k ih =>
    intro j hj
    show uJ (uJ (spSp J q f h k) 75 _ _) 75 _ _ 75 _ = _ ∧ uJ (uJ (spSp J q f h k) 75 _ _) 75 _ _ 75 _ = _
    by_cases z : j = k
    · subst z
      exact ⟨by rw [uJ_off _ _ (Or.inr (by omega))]; exact uJ_same, uJ_same⟩
    · obtain ⟨i1, i2⟩ := ih j (by omega)
      rw [uJ_off _ _ (Or.inr (by omega)), uJ_off _ _ (Or.inr (by omega)), uJ_off _ _ (Or.inr (by omega)), uJ_off _ _ (Or.inr (by omega))]
      exact ⟨i1, i2⟩
def tF (J : Rows) (d : Nat) : Nat → Int32 := fun x => J 73 (300 * (1 - d) + x)
def tH (J : Rows) (d : Nat) : Nat := ntn (J 55 d)
def tM (J : Rows) (d : Nat) : Nat := mSp (tF J d) (tH J d)
def spTl (J : Rows) (d q : Nat) : Rows := uJ (spPut (spSp J q (tF J d) (tH J d) (tM J d)) q 1 (nI (6 + 4 * (tM J d - 1))) 0 0 (nI (tM J d))) 56 d 0
theorem pre1_m (n : Nat) (h : n < 2 ^ 31) : (nI n + (-1) : Int32) = pre1 n := by
  cases n with
  | zero => decide
  | succ n =>
    show (nI (n + 1) + (-1) : Int32) = if n + 1 = 0 then -1 else nI (n + 1 - 1)
    rw [if_neg (by omega), show n + 1 - 1 = n by omega, ← nI_suc, Int32.add_assoc, show (1 + -1 : Int32) = 0 by decide, Int32.add_zero]
theorem pre1_neg (n : Nat) (h : n < 2 ^ 31) : pre1 n < 0 ↔ n = 0 := by
  unfold pre1
  by_cases z : n = 0
  · rw [if_pos z]; exact ⟨fun _ => z, fun _ => by decide⟩
  · rw [if_neg z]
    refine ⟨fun y => absurd y (fun y => ltle y (nI_ge0 (by omega))), fun y => absurd y z⟩
theorem tld_sz (c : Nat) (h1 : 1 ≤ c) (h4 : c ≤ 4) : (6 + 4 * (nI c - 1) : Int32) = nI (6 + 4 * (c - 1)) := by
  rcases (show c = 1 ∨ c = 2 ∨ c = 3 ∨ c = 4 by omega) with rfl | rfl | rfl | rfl <;> decide
theorem sub_one' : ∀ d, d < 2 → (1 - nI d : Int32) = nI (1 - d) := by decide
/-! the reference -/
theorem m_putTold {d q h r : Nat} {Q : Sto → Prop} (hF : Fx T) (hd : d < 2) (hM : Mq J q 0) (h55 : J 55 d = nI h) (h3 : h < 300) (h68 : J 68 q = nI 10) (h0 : J 26 0 = nI r) (r60 : 60 ≤ r) (r1 : r ≤ 1000) (hQ : Q (wJ T (spTl J d q))) : Cv K5_putTold [vr 26, vi (nI d)] (wJ T J) Q := by
  have td : (nI d).toNatClampNeg = d := tnN (by omega)
  have eH : tH J d = h := by unfold tH; rw [h55]; exact ntn_nI (by omega)
  unfold spTl at hQ
  have hM' := hM
  obtain ⟨e63, q6, e69, -, -⟩ := hM'
  have tM' : tM J d = mSp (tF J d) h := by unfold tM; rw [eH]
  rw [eH] at hQ
  refine e5_putTold (FxJ hF) (fun X O => ⟨ixN hd (by decide), ?_⟩)
  rw [td, gI_wm (a := 55) (by decide), h55]
  -- the end: the part is put
  have fin : ∀ c, 1 ≤ c → c ≤ 4 → (∀ j, j < c → 0 < hpF (tF J d) h j) → (c = 4 ∨ hpF (tF J d) h c = 0) → Ci K5_put [vr 26, vi 1, vi (6 + (4 * (nI c - 1))), vi 0, vi 0, vi (nI c)] (wJ T (spSp J q (tF J d) h c)) (fun x2 S2 => (x2 = 0 → (Q S2)) ∧ (¬ x2 = 0 → ((0 ≤ (nI d : Int32).toInt ∧ (nI d : Int32).toInt < (2 : Nat)) ∧ (Q (pI S2 56 (nI d).toNatClampNeg 0))))) := by
    intro c c1 c4 hp he
    have em : tM J d = c := by rw [tM']; exact mSp_eq c1 c4 hp he
    rw [em] at hQ
    rw [tld_sz c c1 c4]
    have M2 : Mq (spSp J q (tF J d) h c) q 0 := by
      unfold Mq
      rw [spSp_ne (by decide), spSp_ne (by decide), spSp_ne (by decide)]
      exact hM
    refine m_put hF M2 (by decide) (by omega) (fun hc => absurd ?_ hc) (fun _ => ⟨fun z => absurd z (by decide), fun _ => ⟨ixN hd (by decide), ?_⟩⟩)
    · unfold fits
      rw [spSp_ne (by decide), spSp_ne (by decide), h68, h0, nI_add, nI_leI (by omega) (by omega)]; omega
    · rw [td, pI_wJ (by decide)]
      exact hQ
  have l9 : ∀ (b k : Nat), k + b = 4 → (∀ j, j < k → 0 < hpF (tF J d) h j) → WP X 9 [(0, vr 26), (1, vi (nI d)), (2, vi (nI k)), (3, vi (pre1 (hpF (tF J d) h k)))] [] (wJ T (spSp J q (tF J d) h k)) 0 0 := by
    intro b
    induction b with
    | zero =>
      intro k hk hp
      have hk4 : k = 4 := by omega
      subst hk4
      have F := fin 4 (by decide) (by decide) hp (Or.inl rfl)
      refine s5_putTold_9 (S := wJ T (spSp J q (tF J d) h 4)) (FxJ hF) (Nat.le_refl _) O ⟨fun _ => F, fun _ => ⟨fun _ => F, fun hc => absurd (by decide) hc⟩⟩
    | succ b ih =>
      intro k hk hp
      have hk4 : k < 4 := by omega
      have hp3 : hpF (tF J d) h k ≤ 300 := by
        have := spn_hi (f := tF J d) (h := h) k
        unfold hiF at this
        omega
      refine s5_putTold_9 (S := wJ T (spSp J q (tF J d) h k)) (FxJ hF) (Nat.le_refl _) O ⟨fun hc => ?_, fun hc => ⟨fun h4 => ?_, fun _ => ?_⟩⟩
      · have z := (pre1_neg _ (by omega)).mp hc
        have k1 : 1 ≤ k := by
          rcases Nat.eq_zero_or_pos k with y | y
          · subst y; exact absurd z (by show ¬ h + 1 = 0; omega)
          · exact y
        exact fin k k1 (by omega) hp (Or.inr z)
      · exfalso
        rw [show (4 : Int32) = nI 4 from rfl, nI_leI (by omega) (by omega)] at h4; omega
      · have hpos : 0 < hpF (tF J d) h k := by
          rcases Nat.eq_zero_or_pos (hpF (tF J d) h k) with y | y
          · exact absurd ((pre1_neg _ (by omega)).mpr y) hc
          · exact y
        have ih2 := ih (k + 1) (by omega) (fun j hj => by
          by_cases y : j = k
          · subst y; exact hpos
          · exact hp j (by omega))
        -- down through what did not come
        have l92 : ∀ y, y ≤ 300 → dnF (tF J d) y = hpF (tF J d) h (k + 1) → WP X 92 [(0, vr 26), (1, vi (nI d)), (2, vi (nI (k + 1))), (3, vi (pre1 y))] [] (wJ T (spSp J q (tF J d) h (k + 1))) 0 0 := by
          intro y
          induction y with
          | zero =>
            intro _ he
            have he' : hpF (tF J d) h (k + 1) = 0 := he.symm
            rw [he'] at ih2
            refine s5_putTold_92 (S := wJ T (spSp J q (tF J d) h (k + 1))) (FxJ hF) (Nat.le_refl _) O ⟨fun _ => ih2, fun hc => absurd (by decide) hc⟩
          | succ y ihy =>
            intro hy he
            have ep : pre1 (y + 1) = nI y := by unfold pre1; rw [if_neg (by omega)]; rfl
            rw [ep]
            refine s5_putTold_92 (S := wJ T (spSp J q (tF J d) h (k + 1))) (FxJ hF) (Nat.le_refl _) O ⟨fun hc => absurd hc (fun z => ltle z (nI_ge0 (by omega))), fun _ => ?_⟩
            rw [sub_one' d hd, mix, tnN (show 300 * (1 - d) + y < 2 ^ 31 by omega), gI_wm (a := 73) (by decide), spSp_ne (by decide), pre1_m y (by omega)]
            refine ⟨ixN (by omega) (by decide), fun c => ?_, fun c => ?_⟩
            · have he2 : hpF (tF J d) h (k + 1) = y + 1 := by rw [← he]; exact if_neg c
              rw [he2, ep] at ih2
              exact ih2
            · exact ihy (by omega) (by rw [← he]; exact (if_pos c).symm)
        -- down to the lowest of the span
        have l21 : ∀ x, x < 300 → lwF (tF J d) x = loF (tF J d) h k → WP X 21 [(0, vr 26), (1, vi (nI d)), (2, vi (nI k)), (3, vi (nI x)), (4, vi (nI (hiF (tF J d) h k)))] [] (wJ T (spSp J q (tF J d) h k)) 0 0 := by
          intro x
          have wr : ∀ x, x < 300 → x = loF (tF J d) h k → WP X 92 [(0, vr 26), (1, vi (nI d)), (2, vi (nI (k + 1))), (3, vi (nI x + (-1)))] [] (pI (pI (wJ T (spSp J q (tF J d) h k)) 75 (8 * q + 2 * k) (nI x)) 75 (8 * q + 2 * k + 1) (nI (hiF (tF J d) h k))) 0 0 := by
            intro x hx he
            rw [pI_wJ (by decide), pI_wJ (by decide), pre1_m x (by omega), he]
            exact l92 _ (by omega) rfl
          have wq : ∀ x, x < 300 → x = loF (tF J d) h k → ((0 ≤ (((8 * (gI (wJ T (spSp J q (tF J d) h k)) 26 63)) + (2 * nI k)) : Int32).toInt ∧ (((8 * (gI (wJ T (spSp J q (tF J d) h k)) 26 63)) + (2 * nI k)) : Int32).toInt < (4800 : Nat)) ∧ ((0 ≤ ((((8 * (gI (wJ T (spSp J q (tF J d) h k)) 26 63)) + (2 * nI k)) + 1) : Int32).toInt ∧ ((((8 * (gI (wJ T (spSp J q (tF J d) h k)) 26 63)) + (2 * nI k)) + 1) : Int32).toInt < (4800 : Nat)) ∧ (WP X 92 [(0, vr 26), (1, vi (nI d)), (2, vi (nI k + 1)), (3, vi (nI x + (-1)))] [] (pI (pI (wJ T (spSp J q (tF J d) h k)) 75 ((8 * (gI (wJ T (spSp J q (tF J d) h k)) 26 63)) + (2 * nI k)).toNatClampNeg (nI x)) 75 (((8 * (gI (wJ T (spSp J q (tF J d) h k)) 26 63)) + (2 * nI k)) + 1).toNatClampNeg (nI (hiF (tF J d) h k))) 0 0))) := by
            intro x hx he
            rw [gI_wm (a := 26) (by decide), spSp_ne (r := 26) (by decide), e63, qix, nI_suc, nI_suc, tnN (show 8 * q + 2 * k < 2 ^ 31 by omega), tnN (show 8 * q + 2 * k + 1 < 2 ^ 31 by omega)]
            exact ⟨ixN (by omega) (by decide), ixN (by omega) (by decide), wr x hx he⟩
          induction x with
          | zero =>
            intro hx he
            refine s5_putTold_21 (S := wJ T (spSp J q (tF J d) h k)) (FxJ hF) (Nat.le_refl _) O ⟨fun _ => wq 0 hx (by rw [← he]; rfl), fun hc => absurd (by decide) hc⟩
          | succ x ihx =>
            intro hx he
            refine s5_putTold_21 (S := wJ T (spSp J q (tF J d) h k)) (FxJ hF) (Nat.le_refl _) O ⟨fun hc => ?_, fun _ => ?_⟩
            · exfalso
              rw [show (0 : Int32) = nI 0 from rfl, nI_leI (by omega) (by omega)] at hc; omega
            · rw [sub_one' d hd, show (nI (x + 1) - 1 : Int32) = nI x from pk_sub (b := 1) (by omega), mix, tnN (show 300 * (1 - d) + x < 2 ^ 31 by omega), gI_wm (a := 73) (by decide), spSp_ne (r := 73) (by decide)]
              refine ⟨ixN (by omega) (by decide), fun c => wq (x + 1) hx ?_, fun c => ?_⟩
              · rw [← he]; exact (if_pos c).symm
              · have e1 : pre1 (x + 1) = nI x := by unfold pre1; rw [if_neg (by omega)]; rfl
                rw [pre1_m (x + 1) (by omega), e1]
                exact ihx (by omega) (by rw [← he]; exact (if_neg c).symm)
        have ep : pre1 (hpF (tF J d) h k) = nI (hiF (tF J d) h k) := by unfold pre1 hiF; rw [if_neg (by omega)]
        rw [ep]
        have hx : hiF (tF J d) h k < 300 := by unfold hiF; omega
        exact l21 _ hx rfl
  have e0 : pre1 (hpF (tF J d) h 0) = nI h := by
    show pre1 (h + 1) = nI h
    unfold pre1
    rw [if_neg (by omega)]; rfl
  have := l9 4 0 (by omega) (fun j hj => by omega)
  rw [e0] at this
  exact this
end ADDTOLD
