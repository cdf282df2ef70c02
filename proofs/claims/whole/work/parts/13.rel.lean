/-! the two sides, tied to the reference's own rows J -/
/-- which row of the model a field of a Stream, a Side, a Pace, a Packet, the carrier stands for -/
def rs : Nat → Nat
  | 1 => 27 | 2 => 28 | 3 => 29 | 4 => 30 | 5 => 31 | 8 => 35 | 11 => 38 | 12 => 39 | 13 => 40 | 14 => 41 | 15 => 42 | 16 => 43 | _ => 0
def rd : Nat → Nat
  | 3 => 44 | 5 => 54 | 6 => 55 | 7 => 56 | 8 => 57 | 9 => 59 | 10 => 58 | 11 => 62 | _ => 0
def rp : Nat → Nat
  | 0 => 45 | 1 => 46 | 2 => 47 | 3 => 48 | 4 => 49 | 5 => 50 | 6 => 51 | 7 => 52 | 8 => 53 | 9 => 60 | _ => 0
def rk : Nat → Nat
  | 2 => 66 | 3 => 67 | 7 => 69 | 8 => 68 | 9 => 70 | 10 => 71 | 11 => 72 | 12 => 73 | _ => 0
def rg : Nat → Nat
  | 3 => 62 | 4 => 3 | 5 => 0 | 6 => 1 | 7 => 2 | 8 => 44 | 9 => 45 | 10 => 46 | 11 => 47 | 12 => 48 | 13 => 49 | _ => 99
def ksS : List Nat := [1, 2, 3, 4, 5, 8, 11, 12, 13, 14, 15, 16]
def ksD : List Nat := [3, 5, 6, 7, 8, 9, 10, 11]
def ksP : List Nat := [0, 1, 2, 3, 4, 5, 6, 7, 8, 9]
def ksK : List Nat := [2, 3, 7, 8, 9, 10, 11, 12]
def ksG : List Nat := [3, 4, 5, 6, 7, 8, 9, 10, 11, 12, 13]
def EqF (c g : Nat → Int32) (ks : List Nat) : Prop := ∀ k ∈ ks, c k = g k
/-- how many of the first n places hold x -/
def cnt (f : Nat → Int32) (x : Int32) : Nat → Nat
  | 0 => 0
  | n + 1 => cnt f x n + if f n = x then 1 else 0
theorem cnt_le (f : Nat → Int32) (x : Int32) (n : Nat) : cnt f x n ≤ n := by
  induction n with
  | zero => exact Nat.le_refl 0
  | succ n ih => unfold cnt; split <;> omega
theorem cnt_congr {f g : Nat → Int32} {x : Int32} {n : Nat} (h : ∀ j, j < n → f j = g j) : cnt f x n = cnt g x n := by
  induction n with
  | zero => rfl
  | succ n ih => unfold cnt; rw [ih (fun j hj => h j (by omega)), h n (by omega)]
theorem cnt_upd {f : Nat → Int32} {x y : Int32} {k n : Nat} (hk : k < n) : cnt (upd f k y) x n + (if f k = x then 1 else 0) = cnt f x n + (if y = x then 1 else 0) := by
  induction n with
  | zero => omega
  | succ n ih =>
    unfold cnt
    by_cases e : k = n
    · subst e
      have h1 : cnt (upd f k y) x k = cnt f x k := cnt_congr (fun j hj => by rw [upd_at, if_neg (by omega)])
      rw [h1, upd_at, if_pos rfl]
      omega
    · rw [upd_at, if_neg (show ¬ n = k by omega)]
      have := ih (by omega)
      omega
theorem cnt_pos {f : Nat → Int32} {x : Int32} {n j : Nat} (hj : j < n) (h : f j = x) : 0 < cnt f x n := by
  induction n with
  | zero => omega
  | succ n ih =>
    unfold cnt
    by_cases e : j = n
    · subst e; rw [if_pos h]; omega
    · have := ih (by omega); omega
theorem cnt_zero {f : Nat → Int32} {x : Int32} {n : Nat} (h : cnt f x n = 0) : ∀ j, j < n → ¬ f j = x := fun j hj e => by
  have := cnt_pos hj e; omega
theorem cnt_ex {f : Nat → Int32} {x : Int32} {n : Nat} (h : 0 < cnt f x n) : ∃ j, j < n ∧ f j = x := by
  induction n with
  | zero => exact absurd h (by simp [cnt])
  | succ n ih =>
    by_cases e : f n = x
    · exact ⟨n, by omega, e⟩
    · unfold cnt at h
      rw [if_neg e] at h
      obtain ⟨j, hj, h2⟩ := ih (by omega)
      exact ⟨j, by omega, h2⟩
abbrev Rows : Type := Nat → Nat → Int32
def is01 (x : Int32) : Prop := x = 0 ∨ x = 1
def upTo (x : Int32) (N : Nat) : Prop := ∃ n, n ≤ N ∧ x = nI n
/-- what END is to the sender -/
def eSt (s a r : Int32) : Int32 := if r = 0 then (if a = 0 then (if s = 0 then 0 else 1) else 2) else 3
def byt (J : Rows) (i : Nat) : Nat → Int32 := fun j => J 36 (1000 * i + j)
def cam (J : Rows) (i : Nat) : Nat → Int32 := fun j => J 37 (1000 * i + j)
/-- a Stream object c with its row against the model's rows -/
def RSt (c row : Nat → Int32) (J : Rows) (i : Nat) : Prop :=
  EqF c (fun k => J (rs k) i) ksS ∧ c 9 = eSt (J 32 i) (J 33 i) (J 34 i) ∧ (∀ j, j < 1000 → row j = byt J i j + 4 * cam J i j) ∧
  c 6 = nI (cnt (byt J i) 3 1000) ∧ c 7 = nI (cnt (byt J i) 2 1000) ∧ c 10 = nI (cnt (cam J i) 1 1000)
/-- what the model's rows of a stream are -/
def IvS (J : Rows) (i : Nat) : Prop :=
  (is01 (J 28 i) ∧ is01 (J 29 i) ∧ is01 (J 30 i) ∧ is01 (J 32 i) ∧ is01 (J 33 i) ∧ is01 (J 34 i) ∧ is01 (J 41 i) ∧ is01 (J 43 i)) ∧
  (∃ w f, J 27 i = nI w ∧ J 31 i = nI f ∧ f ≤ w ∧ w ≤ 1000 ∧ ∀ j, f ≤ j → j < 1000 → byt J i j = 0) ∧
  (∃ p r, J 38 i = nI p ∧ J 39 i = nI r ∧ r ≤ p ∧ p ≤ 1000) ∧ upTo (J 35 i) 2000 ∧ upTo (J 40 i) 2000 ∧
  (∀ j, j < 1000 → upTo (byt J i j) 3 ∧ is01 (cam J i j))
def num (J : Rows) (d : Nat) : Nat := (J 44 d).toNatClampNeg
/-- a Side object c and its Pace pc -/
def RSd (c pc : Nat → Int32) (J : Rows) (d : Nat) : Prop :=
  EqF c (fun k => J (rd k) d) ksD ∧ EqF pc (fun k => J (rp k) d) ksP ∧ c 0 = nI d ∧ c 12 = (if J 64 d = 0 then -6 else J 65 d) ∧
  (∃ t, t < 4 ∧ c 13 = nI t ∧ J 61 d = nI (d + 2 * ((t + 3) % 4))) ∧
  (∃ s, c 4 = nI s ∧ (s ≤ 300 ∧ s ≤ num J d) ∧ ∀ n, n < s → J 70 (300 * d + n) = 0 ∨ J 71 (300 * d + n) = 1 ∨ J 72 (300 * d + n) = 1)
def IvD (J : Rows) (d : Nat) : Prop :=
  upTo (J 44 d) 300 ∧ is01 (J 53 d) ∧ is01 (J 56 d) ∧ is01 (J 58 d) ∧ is01 (J 62 d) ∧ is01 (J 64 d) ∧
  (J 54 d = -6 ∨ ∃ n, n < num J d ∧ J 54 d = nI n) ∧ (J 55 d = -6 ∨ ∃ n, n < num J (1 - d) ∧ J 55 d = nI n ∧ J 73 (300 * (1 - d) + n) = 1) ∧
  (J 56 d = 0 ∨ ¬ J 55 d = -6) ∧ upTo (J 57 d) 8000 ∧ upTo (J 59 d) 8000 ∧ upTo (J 65 d) 50 ∧ (J 62 d = 0 ∨ (d = 1 ∧ J 63 d = J 26 45)) ∧
  (∃ b, 120 ≤ b ∧ b < 2 ^ 31 ∧ J 47 d = nI b)
/-- how many bytes of a stream were sent -/
def frs (J : Rows) (i : Nat) : Nat := (J 31 i).toNatClampNeg
/-- one part of a PACKET of side d: kind, a, b, c -/
def IvPart (J : Rows) (d : Nat) (kind a b c : Int32) : Prop :=
  (kind = 1 ∧ a = 0 ∧ b = 0 ∧ ∃ j, 1 ≤ j ∧ j ≤ 4 ∧ c = nI j) ∨ (kind = 2 ∧ (∃ i, i < 8 ∧ a = nI i) ∧ upTo b 2000 ∧ c = 0) ∨ (kind = 3 ∧ a = 0 ∧ upTo b 8000 ∧ c = 0) ∨
  (kind = 4 ∧ ∃ i f n e, i < 8 ∧ a = nI i ∧ b = nI f ∧ c = nI (n + 10000 * e) ∧ f + n ≤ frs J i ∧ f + n ≤ 1000 ∧ e ≤ 1) ∨ (kind = 5 ∧ (∃ i, i < 8 ∧ a = nI i) ∧ b = 0 ∧ c = 0) ∨
  (kind = 6 ∧ d = 1 ∧ a = 0 ∧ upTo b 50 ∧ c = 0) ∨ (kind = 7 ∧ a = 0 ∧ upTo b 50 ∧ c = 0) ∨ (kind = 8 ∧ a = 0 ∧ b = 0 ∧ c = 0)
def prt (J : Rows) (q k w : Nat) : Int32 := J 74 (4 * (24 * q + k) + w)
/-- the model's rows of PACKET q of side d -/
def IvP (J : Rows) (d q : Nat) : Prop :=
  is01 (J 70 q) ∧ is01 (J 71 q) ∧ is01 (J 72 q) ∧ is01 (J 73 q) ∧ upTo (J 67 q) 50 ∧ (∃ w, 10 ≤ w ∧ w ≤ 1000 ∧ J 68 q = nI w) ∧
  (∃ m, 1 ≤ m ∧ m ≤ 16 ∧ J 69 q = nI m ∧ ∀ k, k < m → IvPart J d (prt J q k 0) (prt J q k 1) (prt J q k 2) (prt J q k 3) ∧ (prt J q k 0 = 1 → k = 0)) ∧
  (prt J q 0 0 = 1 → ∃ lo hi : Nat → Nat, (∀ j, nI j < prt J q 0 3 → j < 4 → J 75 (8 * q + 2 * j) = nI (lo j) ∧ J 75 (8 * q + 2 * j + 1) = nI (hi j) ∧ lo j ≤ hi j ∧ hi j < num J (1 - d)) ∧ ∀ j, nI (j + 1) < prt J q 0 3 → j < 3 → hi (j + 1) < lo j)
/-- a Packet object c, its parts and spans -/
def RPk (c pt sp : Nat → Int32) (J : Rows) (d n : Nat) : Prop :=
  EqF c (fun k => J (rk k) (300 * d + n)) ksK ∧ c 0 = nI d ∧ c 1 = nI n ∧ c 4 = J 26 0 ∧
  (∀ k w, nI k < J 69 (300 * d + n) → k < 16 → w < 4 → pt (4 * k + w) = prt J (300 * d + n) k w) ∧
  (∀ j, j < 4 → (prt J (300 * d + n) 0 0 = 1 ∧ nI j < prt J (300 * d + n) 0 3 → sp (2 * j) = J 75 (8 * (300 * d + n) + 2 * j) ∧ sp (2 * j + 1) = J 75 (8 * (300 * d + n) + 2 * j + 1)) ∧
    (¬ (prt J (300 * d + n) 0 0 = 1 ∧ nI j < prt J (300 * d + n) 0 3) → sp (2 * j) = -6 ∧ sp (2 * j + 1) = -6))
def RGl (c : Nat → Int32) (J : Rows) : Prop := EqF c (fun k => J 26 (rg k)) ksG
def IvG (J : Rows) : Prop :=
  (∃ r, 60 ≤ r ∧ r ≤ 1000 ∧ J 26 0 = nI r) ∧ (∃ w, 50 ≤ w ∧ w ≤ 1000 ∧ J 26 1 = nI w) ∧ (∃ w, 50 ≤ w ∧ w ≤ 4000 ∧ J 26 2 = nI w) ∧ is01 (J 26 4) ∧ is01 (J 26 46) ∧
  upTo (J 26 44) 50 ∧ upTo (J 26 45) 50 ∧ upTo (J 26 62) 400
/-- an object that was not used: what shape and the start leave -/
def IvU (J : Rows) : Prop :=
  (J 26 4 = 0 ↔ (∀ i, i < 8 → J 27 i = 0 ∧ J 28 i = 0 ∧ J 29 i = 0) ∧ J 44 0 = 0 ∧ J 44 1 = 0) ∧
  (J 26 4 = 0 → (∀ i, i < 8 → J 42 i = -6) ∧ ∀ d, d < 2 → J 47 d = 1000000 ∧ J 48 d = -1 ∧ J 49 d = -6 ∧ J 50 d = -6 ∧ J 51 d = -6 ∧ J 54 d = -6 ∧ J 55 d = -6 ∧ J 61 d = nI (d + 6))
/-- the net -/
def RNt (T : Sto) (J : Rows) : Prop := ∀ i, nI i < J 26 62 → i < 400 → ∃ d n, d < 2 ∧ n < num J d ∧ J 76 i = nI d ∧ J 77 i = nI n ∧ gR T 1 i = gR T (21 + 3 * d) n
def Rel (T : Sto) (J : Rows) : Prop :=
  Fx T ∧ (∀ i, i < 8 → RSt (gI T (3 + 2 * i)) (gI T (4 + 2 * i)) J i ∧ IvS J i) ∧ (∀ d, d < 2 → RSd (gI T (20 + 3 * d)) (gI T (22 + 3 * d)) J d ∧ IvD J d) ∧ RGl (gI T 0) J ∧ IvG J ∧
  (∀ d n, d < 2 → n < num J d → IvP J d (300 * d + n) ∧ ∃ p, gR T (21 + 3 * d) n = some p ∧ al T p 1 ∧ RPk (gI T p) (gI T (p + 1)) (gI T (p + 2)) J d n) ∧ RNt T J
/-- the model's part of the store stays -/
def Fr (S S' : Sto) : Prop := ∀ a, 26 ≤ a → a < 79 → gI S' a = gI S a
theorem Fr.rfl' {S : Sto} : Fr S S := fun _ _ _ => rfl
theorem Fr.p {S S1 : Sto} {a k : Nat} {x : Int32} (h : Fr S S1) (ha : a < 26 ∨ 79 ≤ a) : Fr S (pI S1 a k x) := fun b h1 h2 => by
  rw [gI_pI, if_neg (by omega)]; exact h b h1 h2
theorem Fr.tr {S S1 S2 : Sto} (h : Fr S S1) (h2 : Fr S1 S2) : Fr S S2 := fun b q1 q2 => (h2 b q1 q2).trans (h b q1 q2)
theorem Fr.w {S S1 : Sto} (h : Fr S S1) : wJ S1 (gI S) = S1 := by
  obtain ⟨n, i, r⟩ := S1
  show (n, (fun a => if 26 ≤ a ∧ a < 79 then gI S a else i a), r) = (n, i, r)
  congr 2
  funext a
  by_cases e : 26 ≤ a ∧ a < 79
  · rw [if_pos e]; exact (h a e.1 e.2).symm
  · rw [if_neg e]

/-! what each part of the relation depends on -/
theorem uJ_ne {J : Rows} {a k b : Nat} {x : Int32} (h : b ≠ a) : uJ J a k x b = J b := by rw [uJ_at, if_neg h]
theorem uJ_eq {J : Rows} {a k : Nat} {x : Int32} (j : Nat) : uJ J a k x a j = if j = k then x else J a j := by rw [uJ_at, if_pos rfl, upd_at]
theorem uJ_same {J : Rows} {a k : Nat} {x : Int32} : uJ J a k x a k = x := by rw [uJ_eq, if_pos rfl]
theorem uJ_off {J : Rows} {a k : Nat} {x : Int32} (b j : Nat) (h : b ≠ a ∨ j ≠ k) : uJ J a k x b j = J b j := by
  by_cases e : b = a
  · subst e
    rw [uJ_eq, if_neg (by omega)]
  · rw [uJ_ne e]
def agS (J J' : Rows) (i : Nat) : Prop := (∀ r, 27 ≤ r → r ≤ 43 → r ≠ 36 → r ≠ 37 → J' r i = J r i) ∧ ∀ j, j < 1000 → byt J' i j = byt J i j ∧ cam J' i j = cam J i j
theorem rs_in : ∀ k ∈ ksS, 27 ≤ rs k ∧ rs k ≤ 43 ∧ rs k ≠ 36 ∧ rs k ≠ 37 ∧ rs k ≠ 32 ∧ rs k ≠ 33 ∧ rs k ≠ 34 := by decide
theorem rs_inj : ∀ k ∈ ksS, ∀ k' ∈ ksS, rs k = rs k' → k = k' := by decide
theorem rd_in : ∀ k ∈ ksD, 44 ≤ rd k ∧ rd k ≤ 62 ∧ rd k ≠ 61 ∧ rd k ≠ 60 := by decide
theorem rd_inj : ∀ k ∈ ksD, ∀ k' ∈ ksD, rd k = rd k' → k = k' := by decide
theorem rp_in : ∀ k ∈ ksP, 45 ≤ rp k ∧ rp k ≤ 60 ∧ rp k ≠ 54 ∧ rp k ≠ 55 ∧ rp k ≠ 56 ∧ rp k ≠ 57 ∧ rp k ≠ 58 ∧ rp k ≠ 59 := by decide
theorem rp_inj : ∀ k ∈ ksP, ∀ k' ∈ ksP, rp k = rp k' → k = k' := by decide
theorem rk_in : ∀ k ∈ ksK, 66 ≤ rk k ∧ rk k ≤ 73 := by decide
theorem rk_inj : ∀ k ∈ ksK, ∀ k' ∈ ksK, rk k = rk k' → k = k' := by decide
theorem rg_inj : ∀ k ∈ ksG, ∀ k' ∈ ksG, rg k = rg k' → k = k' := by decide
theorem rp_rd : ∀ k ∈ ksP, ∀ k' ∈ ksD, rp k ≠ rd k' := by decide
theorem RSt.ag {c row : Nat → Int32} {J J' : Rows} {i : Nat} (h : RSt c row J i) (ha : agS J J' i) : RSt c row J' i := by
  obtain ⟨h1, h2, h3, h4, h5, h6⟩ := h
  obtain ⟨a1, a2⟩ := ha
  refine ⟨fun k hk => ?_, ?_, fun j hj => ?_, ?_, ?_, ?_⟩
  · obtain ⟨q1, q2, q3, q4, -⟩ := rs_in k hk
    rw [h1 k hk]
    exact (a1 _ q1 q2 q3 q4).symm
  · rw [h2, a1 32 (by decide) (by decide) (by decide) (by decide), a1 33 (by decide) (by decide) (by decide) (by decide), a1 34 (by decide) (by decide) (by decide) (by decide)]
  · rw [h3 j hj, (a2 j hj).1, (a2 j hj).2]
  · rw [h4, cnt_congr (fun j hj => ((a2 j hj).1).symm)]
  · rw [h5, cnt_congr (fun j hj => ((a2 j hj).1).symm)]
  · rw [h6, cnt_congr (fun j hj => ((a2 j hj).2).symm)]
theorem IvS.ag {J J' : Rows} {i : Nat} (h : IvS J i) (ha : agS J J' i) : IvS J' i := by
  obtain ⟨a1, a2⟩ := ha
  have q : ∀ r, 27 ≤ r ∧ r ≤ 43 ∧ r ≠ 36 ∧ r ≠ 37 → J' r i = J r i := fun r h => a1 r h.1 h.2.1 h.2.2.1 h.2.2.2
  unfold IvS
  rw [q 28 (by decide), q 29 (by decide), q 30 (by decide), q 32 (by decide), q 33 (by decide), q 34 (by decide), q 41 (by decide), q 43 (by decide), q 27 (by decide), q 31 (by decide), q 38 (by decide), q 39 (by decide), q 35 (by decide), q 40 (by decide)]
  obtain ⟨h1, ⟨w, f, h2, h3, h4, h5, h6⟩, h7, h8, h9, h10⟩ := h
  exact ⟨h1, ⟨w, f, h2, h3, h4, h5, fun j hj hj2 => by rw [(a2 j hj2).1]; exact h6 j hj hj2⟩, h7, h8, h9, fun j hj => by rw [(a2 j hj).1, (a2 j hj).2]; exact h10 j hj⟩
def agD (J J' : Rows) (d : Nat) : Prop := (∀ r, 44 ≤ r → r ≤ 65 → J' r d = J r d) ∧ ∀ n, n < 300 → J' 70 (300 * d + n) = J 70 (300 * d + n) ∧ J' 71 (300 * d + n) = J 71 (300 * d + n) ∧ J' 72 (300 * d + n) = J 72 (300 * d + n)
theorem RSd.ag {c pc : Nat → Int32} {J J' : Rows} {d : Nat} (h : RSd c pc J d) (ha : agD J J' d) : RSd c pc J' d := by
  obtain ⟨h1, h2, h3, h4, ⟨t, h5, h6, h7⟩, s, h8, h9, h10⟩ := h
  obtain ⟨a1, a2⟩ := ha
  refine ⟨fun k hk => ?_, fun k hk => ?_, h3, ?_, ⟨t, h5, h6, ?_⟩, s, h8, ⟨h9.1, by unfold num at h9 ⊢; rw [a1 44 (by decide) (by decide)]; exact h9.2⟩, fun n hn => ?_⟩
  · obtain ⟨q1, q2, -⟩ := rd_in k hk
    rw [h1 k hk]; exact (a1 _ q1 (by omega)).symm
  · obtain ⟨q1, q2, -⟩ := rp_in k hk
    rw [h2 k hk]; exact (a1 _ (by omega) (by omega)).symm
  · rw [h4, a1 64 (by decide) (by decide), a1 65 (by decide) (by decide)]
  · rw [a1 61 (by decide) (by decide)]; exact h7
  · obtain ⟨b1, b2, b3⟩ := a2 n (by omega)
    rw [b1, b2, b3]; exact h10 n hn
theorem IvD.ag {J J' : Rows} {d : Nat} (h : IvD J d) (ha : ∀ r, 44 ≤ r → r ≤ 65 → J' r d = J r d) (hn : num J' (1 - d) = num J (1 - d)) (hc : ∀ n, n < 300 → J' 73 (300 * (1 - d) + n) = J 73 (300 * (1 - d) + n)) (hp : J' 26 45 = J 26 45) (hb : num J (1 - d) ≤ 300) : IvD J' d := by
  have q : ∀ r, 44 ≤ r ∧ r ≤ 65 → J' r d = J r d := fun r h => ha r h.1 h.2
  unfold IvD
  rw [show num J' d = num J d by unfold num; rw [q 44 (by decide)], hn, hp, q 44 (by decide), q 53 (by decide), q 56 (by decide), q 58 (by decide), q 62 (by decide), q 64 (by decide), q 54 (by decide), q 55 (by decide), q 57 (by decide), q 59 (by decide), q 65 (by decide), q 63 (by decide), q 47 (by decide)]
  obtain ⟨h1, h2, h3, h4, h5, h6, h7, h8, h9, h10, h11, h12, h13, h14⟩ := h
  refine ⟨h1, h2, h3, h4, h5, h6, h7, ?_, h9, h10, h11, h12, h13, h14⟩
  rcases h8 with h8 | ⟨n, q1, q2, q3⟩
  · exact Or.inl h8
  · exact Or.inr ⟨n, q1, q2, by rw [hc n (by omega)]; exact q3⟩
def agK (J J' : Rows) (q : Nat) : Prop := (∀ r, 66 ≤ r → r ≤ 73 → J' r q = J r q) ∧ (∀ k w, k < 24 → w < 4 → prt J' q k w = prt J q k w) ∧ ∀ j, j < 8 → J' 75 (8 * q + j) = J 75 (8 * q + j)
theorem IvPart.fr {J J' : Rows} {d : Nat} {kind a b c : Int32} (h : IvPart J d kind a b c) (hf : ∀ i, i < 8 → frs J i ≤ frs J' i) : IvPart J' d kind a b c := by
  unfold IvPart at h ⊢
  rcases h with h | h | h | ⟨h1, i, f, n, e, h2, h3, h4, h5, h6, h7, h8⟩ | h | h | h | h
  · exact Or.inl h
  · exact Or.inr (Or.inl h)
  · exact Or.inr (Or.inr (Or.inl h))
  · exact Or.inr (Or.inr (Or.inr (Or.inl ⟨h1, i, f, n, e, h2, h3, h4, h5, Nat.le_trans h6 (hf i h2), h7, h8⟩)))
  · exact Or.inr (Or.inr (Or.inr (Or.inr (Or.inl h))))
  · exact Or.inr (Or.inr (Or.inr (Or.inr (Or.inr (Or.inl h)))))
  · exact Or.inr (Or.inr (Or.inr (Or.inr (Or.inr (Or.inr (Or.inl h))))))
  · exact Or.inr (Or.inr (Or.inr (Or.inr (Or.inr (Or.inr (Or.inr h))))))
theorem IvP.ag {J J' : Rows} {d q : Nat} (h : IvP J d q) (ha : agK J J' q) (hn : num J (1 - d) ≤ num J' (1 - d)) (hf : ∀ i, i < 8 → frs J i ≤ frs J' i) : IvP J' d q := by
  obtain ⟨a1, a2, a3⟩ := ha
  have e : ∀ r, 66 ≤ r ∧ r ≤ 73 → J' r q = J r q := fun r h => a1 r h.1 h.2
  unfold IvP
  rw [e 70 (by decide), e 71 (by decide), e 72 (by decide), e 73 (by decide), e 67 (by decide), e 68 (by decide), e 69 (by decide), a2 0 0 (by decide) (by decide), a2 0 3 (by decide) (by decide)]
  obtain ⟨h1, h2, h3, h4, h5, h6, ⟨m, m1, m2, m3, m4⟩, h8⟩ := h
  refine ⟨h1, h2, h3, h4, h5, h6, ⟨m, m1, m2, m3, fun k hk => ?_⟩, fun h0 => ?_⟩
  · rw [a2 k 0 (by omega) (by decide), a2 k 1 (by omega) (by decide), a2 k 2 (by omega) (by decide), a2 k 3 (by omega) (by decide)]
    exact ⟨(m4 k hk).1.fr hf, (m4 k hk).2⟩
  · obtain ⟨lo, hi, p1, p2⟩ := h8 h0
    refine ⟨lo, hi, fun j hj hj4 => ?_, p2⟩
    obtain ⟨b1, b2, b3, b4⟩ := p1 j hj hj4
    rw [a3 (2 * j) (by omega), show 8 * q + 2 * j + 1 = 8 * q + (2 * j + 1) by omega, a3 (2 * j + 1) (by omega)]
    exact ⟨b1, by rw [← b2]; congr 1, b3, by omega⟩
theorem RPk.ag {c pt sp : Nat → Int32} {J J' : Rows} {d n : Nat} (h : RPk c pt sp J d n) (ha : agK J J' (300 * d + n)) (hr : J' 26 0 = J 26 0) : RPk c pt sp J' d n := by
  obtain ⟨a1, a2, a3⟩ := ha
  obtain ⟨h1, h2, h3, h4, h5, h6⟩ := h
  refine ⟨fun k hk => ?_, h2, h3, h4.trans hr.symm, fun k w hk hk2 hw => ?_, fun j hj => ?_⟩
  · obtain ⟨q1, q2⟩ := rk_in k hk
    rw [h1 k hk]; exact (a1 _ q1 q2).symm
  · rw [a2 k w (by omega) hw]
    exact h5 k w (by rw [← a1 69 (by decide) (by decide)]; exact hk) hk2 hw
  · rw [a2 0 0 (by decide) (by decide), a2 0 3 (by decide) (by decide), a3 (2 * j) (by omega), show 8 * (300 * d + n) + 2 * j + 1 = 8 * (300 * d + n) + (2 * j + 1) by omega, a3 (2 * j + 1) (by omega)]
    have := h6 j hj
    rw [show 8 * (300 * d + n) + 2 * j + 1 = 8 * (300 * d + n) + (2 * j + 1) by omega] at this
    exact this
