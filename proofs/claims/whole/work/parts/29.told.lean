section TOLD
variable {J : Rows}
def inSp (lo hi : Nat → Nat) : Nat → Nat → Bool
  | 0, _ => false
  | m + 1, n => inSp lo hi m n || (decide (lo m ≤ n) && decide (n ≤ hi m))
theorem inSp_iff {lo hi : Nat → Nat} {m n : Nat} : inSp lo hi m n = true ↔ ∃ j, j < m ∧ lo j ≤ n ∧ n ≤ hi j := by
  induction m with
  | zero => exact ⟨fun h => by simp [inSp] at h, fun ⟨j, h, _⟩ => by omega⟩
  | succ m ih =>
    unfold inSp
    rw [Bool.or_eq_true, Bool.and_eq_true, decide_eq_true_eq, decide_eq_true_eq, ih]
    refine ⟨fun h => ?_, fun ⟨j, h1, h2, h3⟩ => ?_⟩
    · rcases h with ⟨j, h1, h2⟩ | h
      · exact ⟨j, by omega, h2⟩
      · exact ⟨m, by omega, h⟩
    · by_cases e : j = m
      · subst e; exact Or.inr ⟨h2, h3⟩
      · exact Or.inl ⟨j, by omega, h2, h3⟩
def w78 (J : Rows) (f : Nat → Int32) : Rows := fun r => if r = 78 then f else J r
theorem w78_ne {f : Nat → Int32} {r : Nat} (h : r ≠ 78) : w78 J f r = J r := if_neg h
theorem w78_at {f : Nat → Int32} : w78 J f 78 = f := if_pos rfl
/-- the reference's note of what is told of for the first time -/
def nowF (J : Rows) (d : Nat) (lo hi : Nat → Nat) (m : Nat) : Nat → Int32 := fun n => if n < 300 then (if inSp lo hi m n = true ∧ J 71 (300 * d + n) = 0 then 1 else 0) else J 78 n
/-- as the class goes: with the growth of OPEN -/
def spT (J : Rows) (d : Nat) : Nat → Rows
  | 0 => J
  | n + 1 => if J 78 n = 0 then spT J d n else spSet (spT J d n) d (300 * d + n)
/-- as the reference goes: first without -/
def spR1 (K : Rows) (d q : Nat) : Rows := uJ (spArr (uJ K 71 q 1) q (ntn (K 69 q))) 45 d (K 45 d - (if K 70 q = 0 then 0 else (if K 72 q = 0 then K 68 q else 0 : Int32) : Int32))
def spR (J : Rows) (d : Nat) : Nat → Rows
  | 0 => J
  | n + 1 => if J 78 n = 0 then spR J d n else spR1 (spR J d n) d (300 * d + n)
def gT (J : Rows) (d : Nat) : Nat → Int32
  | 0 => J 46 d
  | n + 1 => if J 78 n = 0 ∨ J 70 (300 * d + n) = 0 ∨ ¬ J 72 (300 * d + n) = 0 ∨ J 66 (300 * d + n) ≤ J 48 d then gT J d n else gv J d (J 68 (300 * d + n)) (gT J d n)
def anyT (J : Rows) (d : Nat) : Nat → Int32
  | 0 => 0
  | n + 1 => if J 78 n = 0 then anyT J d n else (if anyT J d n = 0 then (if J 70 (300 * d + n) = 0 then 0 else 1) else 1)
theorem anyT01 {d n : Nat} : is01 (anyT J d n) := by
  induction n with
  | zero => exact Or.inl rfl
  | succ n ih =>
    unfold anyT
    split
    · exact ih
    · split
      · split
        · exact Or.inl rfl
        · exact Or.inr rfl
      · exact Or.inr rfl
theorem zitB_uJ {a k i f n : Nat} {x v : Int32} (h : a ≠ 36) : zitB (uJ J a k x) i f v n = uJ (zitB J i f v n) a k x := by
  induction n with
  | zero => rfl
  | succ n ih =>
    show uJ (zitB (uJ J a k x) i f v n) 36 _ v = uJ (uJ (zitB J i f v n) 36 _ v) a k x
    rw [ih, uJ_comm h]
theorem spArr1_uJ {a k : Nat} {x kind p q c : Int32} (h1 : a ≠ 36) (h2 : a ≠ 34) (h3 : a ≠ 33) : spArr1 (uJ J a k x) kind p q c = uJ (spArr1 J kind p q c) a k x := by
  unfold spArr1
  by_cases e : kind = 4
  · rw [if_pos e, if_pos e]
    by_cases e2 : c < 10000
    · rw [if_pos e2, if_pos e2, zitB_uJ h1]
    · rw [if_neg e2, if_neg e2, zitB_uJ h1, uJ_comm h2, uJ_comm h3]
  · rw [if_neg e, if_neg e]
theorem spArr_uJ {a k q m : Nat} {x : Int32} (h1 : a ≠ 36) (h2 : a ≠ 34) (h3 : a ≠ 33) (h4 : a ≠ 74) : spArr (uJ J a k x) q m = uJ (spArr J q m) a k x := by
  induction m with
  | zero => rfl
  | succ m ih =>
    have e : ∀ w, prt (uJ J a k x) q m w = prt J q m w := fun w => by unfold prt; rw [uJ_ne (fun z => h4 z.symm)]
    show spArr1 (spArr (uJ J a k x) q m) _ _ _ _ = uJ (spArr1 (spArr J q m) _ _ _ _) a k x
    rw [ih, e, e, e, e, spArr1_uJ h1 h2 h3]
theorem spR1_ne {K : Rows} {d q r : Nat} (h1 : r ≠ 45) (h2 : r ≠ 71) (h3 : r ≠ 36 ∧ r ≠ 34 ∧ r ≠ 33) : spR1 K d q r = K r := by
  unfold spR1
  rw [uJ_ne h1, spArr_ne h3, uJ_ne h2]
theorem spR_ne {d n r : Nat} (h1 : r ≠ 45) (h2 : r ≠ 71) (h3 : r ≠ 36 ∧ r ≠ 34 ∧ r ≠ 33) : spR J d n r = J r := by
  induction n with
  | zero => rfl
  | succ n ih =>
    unfold spR
    split
    · exact ih
    · exact (spR1_ne h1 h2 h3).trans ih
theorem spT_ne {d n r : Nat} (h1 : r ≠ 45) (h2 : r ≠ 46) (h3 : r ≠ 71) (h4 : r ≠ 36 ∧ r ≠ 34 ∧ r ≠ 33) : spT J d n r = J r := by
  induction n with
  | zero => rfl
  | succ n ih =>
    unfold spT
    split
    · exact ih
    · exact (spSet_ne h1 h2 h3 h4).trans ih
theorem sub0 (x : Int32) : x - 0 = x := by simp
/-- the growth may come after -/
theorem spT_R (d : Nat) : ∀ n, spT J d n = uJ (spR J d n) 46 d (gT J d n) := by
  intro n
  induction n with
  | zero => exact uJ_id.symm
  | succ n ih =>
    unfold spT spR gT
    by_cases z : J 78 n = 0
    · rw [if_pos z, if_pos z, if_pos (Or.inl z)]; exact ih
    · rw [if_neg z, if_neg z, ih]
      have s70 : spR J d n 70 = J 70 := spR_ne (by decide) (by decide) (by decide)
      have s72 : spR J d n 72 = J 72 := spR_ne (by decide) (by decide) (by decide)
      have s66 : spR J d n 66 = J 66 := spR_ne (by decide) (by decide) (by decide)
      have s48 : spR J d n 48 = J 48 := spR_ne (by decide) (by decide) (by decide)
      have s68 : spR J d n 68 = J 68 := spR_ne (by decide) (by decide) (by decide)
      have s47 : spR J d n 47 = J 47 := spR_ne (by decide) (by decide) (by decide)
      have s26 : spR J d n 26 = J 26 := spR_ne (by decide) (by decide) (by decide)
      generalize spR J d n = K at *
      generalize gT J d n = g at *
      generalize 300 * d + n = q at *
      have hs : ∀ G, spG (uJ K 46 d g) d q = G → spSet (uJ K 46 d g) d q = spArr (uJ G 71 q 1) q (ntn (K 69 q)) := fun G e => by
        unfold spSet
        rw [e, uJ_ne (show (69 : Nat) ≠ 46 by decide)]
      have e70 : uJ K 46 d g 70 = J 70 := by rw [uJ_ne (by decide)]; exact s70
      have e72 : uJ K 46 d g 72 = J 72 := by rw [uJ_ne (by decide)]; exact s72
      have e66 : uJ K 46 d g 66 = J 66 := by rw [uJ_ne (by decide)]; exact s66
      have e48 : uJ K 46 d g 48 = J 48 := by rw [uJ_ne (by decide)]; exact s48
      have e68 : uJ K 46 d g 68 = J 68 := by rw [uJ_ne (by decide)]; exact s68
      have e45 : uJ K 46 d g 45 = K 45 := uJ_ne (by decide)
      have ev : ∀ w, gv (uJ K 46 d g) d w g = gv J d w g := fun w => by
        unfold gv
        rw [uJ_ne (show (47 : Nat) ≠ 46 by decide), uJ_ne (show (26 : Nat) ≠ 46 by decide), s47, s26]
      unfold spR1
      rw [s70, s72, s68]
      by_cases c1 : J 70 q = 0 ∨ ¬ J 72 q = 0
      · rw [hs (uJ K 46 d g) (by unfold spG; rw [e70, e72]; exact if_pos c1)]
        rw [if_pos (Or.inr (c1.imp id Or.inl))]
        have w0 : (if J 70 q = 0 then 0 else (if J 72 q = 0 then J 68 q else 0 : Int32) : Int32) = 0 := by
          by_cases a : J 70 q = 0
          · rw [if_pos a]
          · rw [if_neg a, if_neg (c1.resolve_left a)]
        rw [w0, sub0]
        have k45 : spArr (uJ K 71 q 1) q (ntn (K 69 q)) 45 d = K 45 d := by rw [spArr_ne (by decide), uJ_ne (by decide)]
        rw [← k45, uJ_id, uJ_comm (a := 46) (b := 71) (by decide), spArr_uJ (a := 46) (by decide) (by decide) (by decide) (by decide)]
      · have n70 : ¬ J 70 q = 0 := fun a => c1 (Or.inl a)
        have y72 : J 72 q = 0 := by
          by_cases a : J 72 q = 0
          · exact a
          · exact absurd (Or.inr a) c1
        rw [if_neg n70, if_pos y72]
        by_cases c2 : J 66 q ≤ J 48 d
        · rw [hs (uJ (uJ K 46 d g) 45 d (K 45 d - J 68 q)) (by unfold spG; rw [e70, e72, if_neg c1, e66, e48, if_pos c2, e45, e68])]
          rw [if_pos (Or.inr (Or.inr (Or.inr c2)))]
          rw [uJ_comm (a := 45) (b := 71) (by decide), spArr_uJ (a := 45) (by decide) (by decide) (by decide) (by decide), uJ_comm (a := 46) (b := 71) (by decide), spArr_uJ (a := 46) (by decide) (by decide) (by decide) (by decide), uJ_comm (a := 46) (b := 45) (by decide)]
        · rw [hs (uJ (uJ (uJ K 46 d g) 45 d (K 45 d - J 68 q)) 46 d (gv J d (J 68 q) g)) (by unfold spG; rw [e70, e72, if_neg c1, e66, e48, if_neg c2, e45, e68, uJ_same, ev])]
          rw [if_neg (fun z' => z'.elim z (fun z' => z'.elim n70 (fun z' => z'.elim (fun z' => z' y72) c2)))]
          rw [uJ_comm (a := 46) (b := 45) (x := g) (by decide), uJ_uJ]
          rw [uJ_comm (a := 46) (b := 71) (by decide), spArr_uJ (a := 46) (by decide) (by decide) (by decide) (by decide), uJ_comm (a := 45) (b := 71) (by decide), spArr_uJ (a := 45) (by decide) (by decide) (by decide) (by decide)]
/-- what is told of in one part: the rows behind it -/
def spTd (J : Rows) (d : Nat) (lo hi : Nat → Nat) (m : Nat) : Rows :=
  let J0 := w78 J (nowF J d lo hi m)
  let A := spT J0 d (num J d)
  let B := uJ A 54 d (if J 54 d < nI (hi 0) then nI (hi 0) else J 54 d)
  let C := if J0 78 (hi 0) = 0 ∨ J 70 (300 * d + hi 0) = 0 then B else spM B d (J 26 3 - J 66 (300 * d + hi 0))
  let D := if anyT J0 d (num J d) = 0 then C else uJ C 52 d 0
  spLook D d
end TOLD
