section KEEPS
variable {T T0 : Sto} {J J' K : Rows} {t d e q : Nat}
/-- what the law's walk keeps of the rows, apart from Rel -/
def Unu (J : Rows) : Prop := (∀ i, i < 8 → J 27 i = 0 ∧ J 28 i = 0 ∧ J 29 i = 0) ∧ J 44 0 = 0 ∧ J 44 1 = 0
def IvC1 (J : Rows) : Prop := ∀ d n, d < 2 → n < num J (1 - d) → ¬ J 73 (300 * (1 - d) + n) = 0 → ¬ J 55 d = -6
def IvC2 (J : Rows) : Prop := ∀ d n, d < 2 → num J d ≤ n → n < 300 → J 71 (300 * d + n) = 0 ∧ J 72 (300 * d + n) = 0 ∧ J 73 (300 * d + n) = 0
def Iv (J : Rows) (t : Nat) : Prop := IvT J t ∧ IvC1 J ∧ IvC2 J ∧ (J 26 4 = 0 ↔ Unu J) ∧ (J 26 4 = 0 → Hu J)
theorem Iv.keep (h : Iv J t) (h3 : J' 26 3 = J 26 3) (h4 : J' 26 4 = J 26 4) (hr : ∀ r, r = 27 ∨ r = 28 ∨ r = 29 ∨ r = 44 ∨ r = 49 ∨ r = 50 ∨ r = 51 ∨ r = 52 ∨ r = 55 ∨ r = 60 ∨ r = 66 ∨ r = 71 ∨ r = 72 ∨ r = 73 → J' r = J r) (hH : J 26 4 = 0 → Hu J → Hu J') : Iv J' t := by
  obtain ⟨a, b, c, d, e⟩ := h
  have n44 : ∀ d, num J' d = num J d := fun d => num_of (by rw [hr 44 (by omega)])
  refine ⟨a.keep h3 (fun r h => hr r (by omega)), fun d n hd hn h => ?_, fun d n hd hn hl => ?_, ?_, fun z => hH (h4 ▸ z) (e (h4 ▸ z))⟩
  · rw [n44] at hn
    rw [hr 73 (by omega)] at h
    rw [hr 55 (by omega)]
    exact b d n hd hn h
  · rw [n44] at hn
    rw [hr 71 (by omega), hr 72 (by omega), hr 73 (by omega)]
    exact c d n hd hn hl
  · unfold Unu
    rw [h4, hr 27 (by omega), hr 28 (by omega), hr 29 (by omega), hr 44 (by omega)]
    exact d
/-- an operation that uses the object -/
theorem Iv.used (h : Iv J t) (h3 : J' 26 3 = J 26 3) (h4 : ¬ J' 26 4 = 0) (hr : ∀ r, r = 44 ∨ r = 49 ∨ r = 50 ∨ r = 51 ∨ r = 52 ∨ r = 55 ∨ r = 60 ∨ r = 66 ∨ r = 71 ∨ r = 72 ∨ r = 73 → J' r = J r) (hU : ¬ Unu J') : Iv J' t := by
  obtain ⟨a, b, c, d, e⟩ := h
  have n44 : ∀ d, num J' d = num J d := fun d => num_of (by rw [hr 44 (by omega)])
  refine ⟨a.keep h3 (fun r h => hr r (by omega)), fun d n hd hn h => ?_, fun d n hd hn hl => ?_, ⟨fun z => absurd z h4, fun z => absurd z hU⟩, fun z => absurd z h4⟩
  · rw [n44] at hn
    rw [hr 73 (by omega)] at h
    rw [hr 55 (by omega)]
    exact b d n hd hn h
  · rw [n44] at hn
    rw [hr 71 (by omega), hr 72 (by omega), hr 73 (by omega)]
    exact c d n hd hn hl
theorem Hu.keep (h : Hu J) (hr : ∀ r, r = 42 ∨ r = 47 ∨ r = 48 ∨ r = 49 ∨ r = 50 ∨ r = 51 ∨ r = 54 ∨ r = 55 ∨ r = 61 → J' r = J r) : Hu J' := by
  unfold Hu
  rw [hr 42 (by omega), hr 47 (by omega), hr 48 (by omega), hr 49 (by omega), hr 50 (by omega), hr 51 (by omega), hr 54 (by omega), hr 55 (by omega), hr 61 (by omega)]
  exact h
theorem Iv.kend {s : Nat} (h : Iv J t) (hs : s < 8) : Iv (uJ (uJ J 28 s 1) 26 4 1) t := by
  refine h.used (by rw [uJ_off _ _ (Or.inr (by decide)), uJ_ne (by decide)]) (by rw [uJ_same]; decide) (fun r hr => by rw [uJ_ne (by omega), uJ_ne (by omega)]) (fun z => ?_)
  have := (z.1 s hs).2.1
  rw [uJ_ne (by decide), uJ_same] at this
  exact absurd this (by decide)
theorem Iv.kcut {s : Nat} (h : Iv J t) (hs : s < 8) : Iv (uJ (uJ (uJ J 29 s 1) 30 s 1) 26 4 1) t := by
  refine h.used (by rw [uJ_off _ _ (Or.inr (by decide)), uJ_ne (by decide), uJ_ne (by decide)]) (by rw [uJ_same]; decide) (fun r hr => by rw [uJ_ne (by omega), uJ_ne (by omega), uJ_ne (by omega)]) (fun z => ?_)
  have := (z.1 s hs).2.2
  rw [uJ_ne (by decide), uJ_ne (by decide), uJ_same] at this
  exact absurd this (by decide)
theorem Iv.kwrite {s : Nat} {n : Int32} (h : Iv J t) (hR : Rel T J) (hs : s < 8) (h1 : 1 ≤ n.toInt) (h2 : n.toInt ≤ 1000) : Iv (uJ (uJ J 27 s (J 27 s + n)) 26 4 1) t := by
  refine h.used (by rw [uJ_off _ _ (Or.inr (by decide)), uJ_ne (by decide)]) (by rw [uJ_same]; decide) (fun r hr => by rw [uJ_ne (by omega), uJ_ne (by omega)]) (fun z => ?_)
  have := (z.1 s hs).1
  rw [uJ_ne (by decide), uJ_same] at this
  obtain ⟨-, ⟨w, f, w1, -, -, w2, -⟩, -⟩ := hR.vs hs
  obtain ⟨m, m1, m2, rfl, -⟩ := nI_wr w2 h1 h2
  rw [w1, nI_add] at this
  have := nI_nj (b := 0) (by omega) (by decide) this
  omega
theorem rd3_ne {s r : Nat} {n : Int32} (h : r ≠ 39 ∧ r ≠ 41 ∧ r ≠ 58) : rd3 J s n r = J r := by
  have e2 : rd2 J s n r = J r := by
    unfold rd2 rd1
    split
    · exact uJ_ne h.1
    · rw [uJ_ne h.2.1, uJ_ne h.1]
  unfold rd3
  split
  · exact e2
  · rw [uJ_ne h.2.2]; exact e2
theorem Iv.kread {s : Nat} {n : Int32} (h : Iv J t) : Iv (rd3 J s n) t :=
  h.keep (by rw [rd3_ne (by decide)]) (by rw [rd3_ne (by decide)]) (fun r hr => rd3_ne (by omega)) (fun _ z => z.keep (fun r hr => rd3_ne (by omega)))
theorem Iv.k26 {k : Nat} {x : Int32} (h : Iv J t) (h3 : k ≠ 3) (h4 : k ≠ 4) : Iv (uJ J 26 k x) t :=
  h.keep (uJ_off _ _ (Or.inr h3.symm)) (uJ_off _ _ (Or.inr h4.symm)) (fun r hr => uJ_ne (by omega)) (fun _ z => z.keep (fun r hr => uJ_ne (by omega)))
theorem Iv.kout {i : Nat} (h : Iv J t) : Iv (spOut J i) t :=
  h.keep (spOut_26 (by decide)) (spOut_26 (by decide)) (fun r hr => spOut_ne (by omega) (by omega) (by omega)) (fun _ z => z.keep (fun r hr => spOut_ne (by omega) (by omega) (by omega)))
theorem Iv.ktw {i N : Nat} (h : Iv J t) : Iv (spTw J i N) t := by
  unfold spTw
  refine Iv.k26 ?_ (by decide) (by decide)
  exact h.keep (by rw [uJ_ne (by decide), uJ_ne (by decide)]) (by rw [uJ_ne (by decide), uJ_ne (by decide)]) (fun r hr => by rw [uJ_ne (by omega), uJ_ne (by omega)]) (fun _ z => z.keep (fun r hr => by rw [uJ_ne (by omega), uJ_ne (by omega)]))
theorem Iv.kshape {a b c : Int32} {n8 : Nat} (h : Iv J t) : Iv (spSh J a b c n8) t := by
  have e : ∀ r, r ≠ 26 → r ≠ 35 → r ≠ 40 → r ≠ 46 → r ≠ 57 → r ≠ 59 → spSh J a b c n8 r = J r := fun r h1 h2 h3 h4 h5 h6 => by
    unfold spSh
    rw [spShD_ne ⟨h4, h5, h6⟩, spShD_ne ⟨h4, h5, h6⟩, spShS_ne h2 h3, spSh0_ne h1]
  have g : ∀ j, j ≠ 0 → j ≠ 1 → j ≠ 2 → spSh J a b c n8 26 j = J 26 j := fun j j0 j1 j2 => by
    unfold spSh
    rw [spShD_ne (by decide), spShD_ne (by decide), spShS_ne (by decide) (by decide)]
    unfold spSh0
    rw [uJ_off _ _ (Or.inr j2), uJ_off _ _ (Or.inr j1), uJ_off _ _ (Or.inr j0)]
  exact h.keep (g 3 (by decide) (by decide) (by decide)) (g 4 (by decide) (by decide) (by decide)) (fun r hr => e r (by omega) (by omega) (by omega) (by omega) (by omega) (by omega)) (fun _ z => z.keep (fun r hr => e r (by omega) (by omega) (by omega) (by omega) (by omega) (by omega)))
/-! tick -/
theorem spLL_72' {hi lim : Int32} {N k : Nat} (h : ∀ n, n < N → 300 * d + n ≠ k) : spLL J d hi lim N 72 k = J 72 k := by
  induction N with
  | zero => rfl
  | succ n ih =>
    unfold spLL
    split
    · exact ih (fun m hm => h m (by omega))
    · rw [spLose_72, upd_at, if_neg (fun z => h n (by omega) z.symm)]; exact ih (fun m hm => h m (by omega))
theorem spLL_0 {hi lim : Int32} : spLL J d hi lim 0 = J := rfl
theorem ntn_6 : ntn (-6) = 0 := by decide
/-- as far as highestTold -/
def HT (J : Rows) (d : Nat) : Prop := J 54 d = -6 ∨ ∃ n, n < num J d ∧ J 54 d = nI n
theorem HT.le (h : HT J d) (hn : num J d ≤ 300) : ntn (J 54 d) ≤ num J d := by
  rcases h with h | ⟨n, h1, h2⟩
  · rw [h, ntn_6]; omega
  · rw [h2, ntn_nI (by omega)]; omega
theorem look_72 {n : Nat} (h : HT J d) (hn : num J d ≤ 300) (he : e < 2) (hd : d < 2) (h1 : num J e ≤ n) (h3 : n < 300) : spLook J d 72 (300 * e + n) = J 72 (300 * e + n) := by
  have h2 := h.le hn
  unfold spLook
  refine spLL_72' (fun m hm z => ?_)
  have : d = e := by omega
  subst this
  omega
theorem look_0 (h : HT J d) (h0 : num J d = 0) : spLook J d = J := by
  have h2 := h.le (by omega)
  unfold spLook
  rw [show ntn (J 54 d) = 0 by omega]; rfl
/-- rows 54, 44, 71, 72, 73, 55 and what an object that was not used has, through one tick -/
def Kt (J J' : Rows) : Prop := (∀ r, r = 27 ∨ r = 28 ∨ r = 29 ∨ r = 44 ∨ r = 54 ∨ r = 55 ∨ r = 71 ∨ r = 73 → J' r = J r) ∧ J' 26 4 = J 26 4 ∧ (∀ e n, e < 2 → num J e ≤ n → n < 300 → J' 72 (300 * e + n) = J 72 (300 * e + n)) ∧ (num J 0 = 0 → num J 1 = 0 → ∀ r, r = 42 ∨ r = 47 ∨ r = 48 ∨ r = 49 ∨ r = 50 ∨ r = 51 ∨ r = 54 ∨ r = 55 ∨ r = 61 → J' r = J r)
theorem Kt.tr {J'' : Rows} (h : Kt J J') (h2 : Kt J' J'') : Kt J J'' := by
  have n44 : ∀ d, num J' d = num J d := fun d => num_of (by rw [h.1 44 (by omega)])
  refine ⟨fun r hr => (h2.1 r hr).trans (h.1 r hr), h2.2.1.trans h.2.1, fun e n he h1 h3 => (h2.2.2.1 e n he (by rw [n44]; exact h1) h3).trans (h.2.2.1 e n he h1 h3), fun z0 z1 r hr => (h2.2.2.2 (by rw [n44]; exact z0) (by rw [n44]; exact z1) r hr).trans (h.2.2.2 z0 z1 r hr)⟩
theorem HT.kt (h : HT J d) (k : Kt J J') : HT J' d := by
  unfold HT
  rw [k.1 54 (by omega), num_of (J := J) (by rw [k.1 44 (by omega)])]
  exact h
theorem Kt.look (hd : d < 2) (h : HT J d) (hn : num J d ≤ 300) : Kt J (spLook J d) := by
  refine ⟨fun r hr => spLook_ne (by rcases hr with rfl | rfl | rfl | rfl | rfl | rfl | rfl | rfl <;> decide), by rw [spLook_ne (by decide)], fun e n he h1 h3 => look_72 h hn he hd h1 h3, fun z0 z1 r _ => ?_⟩
  rw [look_0 h (by rcases (show d = 0 ∨ d = 1 by omega) with rfl | rfl <;> assumption)]
theorem Kt.pr : Kt J (spPr J d) := ⟨fun r hr => spPr_ne (by omega), by rw [spPr_ne (by decide)], fun e n _ _ _ => by rw [spPr_ne (by decide)], fun _ _ r hr => spPr_ne (by omega)⟩
theorem Kt.tk (hw : ∀ d, d < 2 → HT J d ∧ num J d ≤ 300) : Kt J (spTk1 J) := by
  have k0 : Kt J (uJ J 26 3 (J 26 3 + 1)) := ⟨fun r hr => uJ_ne (by omega), uJ_off _ _ (Or.inr (by decide)), fun e n _ _ _ => by rw [uJ_ne (by decide)], fun _ _ r hr => uJ_ne (by omega)⟩
  have st : ∀ (A : Rows) d, d < 2 → Kt J A → Kt J (spTk A d) := fun A d hd k => by
    have h1 := (hw d hd).1.kt k
    have h2 : num A d ≤ 300 := by rw [num_of (J := J) (by rw [k.1 44 (by omega)])]; exact (hw d hd).2
    exact k.tr ((Kt.look hd h1 h2).tr (Kt.pr (J := spLook A d)))
  unfold spTk1
  exact st _ 1 (by decide) (st _ 0 (by decide) k0)
theorem Kt.tks (hw : ∀ d, d < 2 → HT J d ∧ num J d ≤ 300) : ∀ n, Kt J (spTks J n) := fun n => by
  induction n with
  | zero => exact ⟨fun _ _ => rfl, rfl, fun _ _ _ _ _ => rfl, fun _ _ _ _ => rfl⟩
  | succ n ih =>
    refine ih.tr (Kt.tk fun d hd => ⟨(hw d hd).1.kt ih, ?_⟩)
    rw [num_of (J := J) (by rw [ih.1 44 (by omega)])]; exact (hw d hd).2
theorem num_0 (h : J 44 d = 0) : num J d = 0 := by unfold num; rw [h]; rfl
theorem Iv.ktick {n : Nat} (h : Iv J t) (hR : Rel T J) (ht : t + n ≤ 512000) : Iv (spTks J n) (t + n) := by
  have k := Kt.tks (J := J) (fun d hd => ⟨hR.tw.2 d hd, hR.nle hd⟩) n
  obtain ⟨a, b, c, d, e⟩ := h
  have n44 : ∀ d, num (spTks J n) d = num J d := fun d => num_of (by rw [k.1 44 (by omega)])
  refine ⟨(a.tks hR.tw n ht).1, fun d n' hd hn h => ?_, fun d n' hd hn hl => ?_, ?_, fun z => ?_⟩
  · rw [n44] at hn
    rw [k.1 73 (by omega)] at h
    rw [k.1 55 (by omega)]
    exact b d n' hd hn h
  · rw [n44] at hn
    rw [k.1 71 (by omega), k.1 73 (by omega), k.2.2.1 d n' hd hn hl]
    exact c d n' hd hn hl
  · unfold Unu
    rw [k.2.1, k.1 27 (by omega), k.1 28 (by omega), k.1 29 (by omega), k.1 44 (by omega)]
    exact d
  · rw [k.2.1] at z
    have u := d.mp z
    exact (e z).keep (fun r hr => k.2.2.2 (num_0 u.2.1) (num_0 u.2.2) r hr)
end KEEPS
