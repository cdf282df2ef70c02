section UPD
variable {T : Sto} {J : Rows}
theorem Rel.f (h : Rel T J) : Fx T := h.1
theorem Rel.s (h : Rel T J) {i : Nat} (hi : i < 8) : RSt (gI T (3 + 2 * i)) (gI T (4 + 2 * i)) J i := (h.2.1 i hi).1
theorem Rel.vs (h : Rel T J) {i : Nat} (hi : i < 8) : IvS J i := (h.2.1 i hi).2
theorem Rel.d (h : Rel T J) {d : Nat} (hd : d < 2) : RSd (gI T (20 + 3 * d)) (gI T (22 + 3 * d)) J d := (h.2.2.1 d hd).1
theorem Rel.vd (h : Rel T J) {d : Nat} (hd : d < 2) : IvD J d := (h.2.2.1 d hd).2
theorem Rel.g (h : Rel T J) : RGl (gI T 0) J := h.2.2.2.1
theorem Rel.vg (h : Rel T J) : IvG J := h.2.2.2.2.1
theorem Rel.pk (h : Rel T J) {d n : Nat} (hd : d < 2) (hn : n < num J d) : IvP J d (300 * d + n) ∧ ∃ p, gR T (21 + 3 * d) n = some p ∧ al T p 1 ∧ RPk (gI T p) (gI T (p + 1)) (gI T (p + 2)) J d n := h.2.2.2.2.2.1 d n hd hn
theorem Rel.n (h : Rel T J) : RNt T J := h.2.2.2.2.2.2
theorem IvD.nm {d : Nat} (h : IvD J d) : J 44 d = nI (num J d) ∧ num J d ≤ 300 := by
  obtain ⟨n, hn, e⟩ := h.1
  unfold num
  rw [e, tnN (by omega)]; exact ⟨rfl, hn⟩
theorem Rel.nle (h : Rel T J) {d : Nat} (hd : d < 2) : num J d ≤ 300 := (h.vd hd).nm.2
theorem al79 {S : Sto} {p : Nat} (h : al S p 1) : 79 ≤ p := (kd1 h.2).1
theorem Rel.chg {T' : Sto} {J' : Rows} (h : Rel T J) (hF : Fx T') (hn : ∀ d, d < 2 → num J' d = num J d) (hsn : sN T ≤ sN T') (hf : ∀ i, i < 8 → frs J i ≤ frs J' i)
    (hS : ∀ i, i < 8 → (gI T' (3 + 2 * i) = gI T (3 + 2 * i) ∧ gI T' (4 + 2 * i) = gI T (4 + 2 * i) ∧ agS J J' i) ∨ (RSt (gI T' (3 + 2 * i)) (gI T' (4 + 2 * i)) J' i ∧ IvS J' i))
    (hD : ∀ d, d < 2 → (gI T' (20 + 3 * d) = gI T (20 + 3 * d) ∧ gI T' (22 + 3 * d) = gI T (22 + 3 * d) ∧ agD J J' d) ∨ RSd (gI T' (20 + 3 * d)) (gI T' (22 + 3 * d)) J' d)
    (hV : ∀ d, d < 2 → IvD J' d) (hG : RGl (gI T' 0) J') (hVG : IvG J')
    (hK : ∀ d n p, d < 2 → n < num J d → gR T (21 + 3 * d) n = some p → al T p 1 → (gI T' p = gI T p ∧ gI T' (p + 1) = gI T (p + 1) ∧ gI T' (p + 2) = gI T (p + 2) ∧ agK J J' (300 * d + n) ∧ J' 26 0 = J 26 0) ∨ (IvP J' d (300 * d + n) ∧ RPk (gI T' p) (gI T' (p + 1)) (gI T' (p + 2)) J' d n))
    (hP : ∀ d n, d < 2 → n < num J d → gR T' (21 + 3 * d) n = gR T (21 + 3 * d) n) (hN : RNt T' J') : Rel T' J' := by
  refine ⟨hF, fun i hi => ?_, fun d hd => ⟨?_, hV d hd⟩, hG, hVG, fun d n hd hn' => ?_, hN⟩
  · rcases hS i hi with ⟨a, b, c⟩ | q
    · rw [a, b]; exact ⟨(h.s hi).ag c, (h.vs hi).ag c⟩
    · exact q
  · rcases hD d hd with ⟨a, b, c⟩ | q
    · rw [a, b]; exact (h.d hd).ag c
    · exact q
  · rw [hn d hd] at hn'
    obtain ⟨h1, p, h2, h3, h4⟩ := h.pk hd hn'
    rcases hK d n p hd hn' h2 h3 with ⟨a, b, c, e, f⟩ | ⟨q1, q2⟩
    · exact ⟨h1.ag e (by rw [hn (1 - d) (by omega)]; exact Nat.le_refl _) hf, p, by rw [hP d n hd hn']; exact h2, h3.mono hsn, by rw [a, b, c]; exact h4.ag e f⟩
    · exact ⟨q1, p, by rw [hP d n hd hn']; exact h2, h3.mono hsn, q2⟩
/-- the net rests on few rows -/
theorem RNt.ag {T' : Sto} {J' : Rows} (h : RNt T J) (h1 : J' 26 62 = J 26 62) (h2 : ∀ i, i < 400 → J' 76 i = J 76 i ∧ J' 77 i = J 77 i) (hn : ∀ d, d < 2 → num J' d = num J d) (hg : ∀ i, i < 400 → gR T' 1 i = gR T 1 i) (hg2 : ∀ d n, d < 2 → n < num J d → gR T' (21 + 3 * d) n = gR T (21 + 3 * d) n) : RNt T' J' := by
  intro i hi hi4
  rw [h1] at hi
  obtain ⟨d, n, q1, q2, q3, q4, q5⟩ := h i hi hi4
  exact ⟨d, n, q1, by rw [hn d q1]; exact q2, by rw [(h2 i hi4).1]; exact q3, by rw [(h2 i hi4).2]; exact q4, by rw [hg i hi4, hg2 d n q1 q2]; exact q5⟩
/-- the rows of the streams change, and the sides' rows do not: what the rest says stays -/
def agHi (J J' : Rows) : Prop := (∀ r, 44 ≤ r → r ≤ 77 → J' r = J r) ∧ ∀ k, k ≠ 4 → J' 26 k = J 26 k
theorem num_of {J' : Rows} {d : Nat} (h : J' 44 d = J 44 d) : num J' d = num J d := by unfold num; rw [h]
theorem agHi.n {J' : Rows} (h : agHi J J') (d : Nat) : num J' d = num J d := num_of (by rw [h.1 44 (by decide) (by decide)])
theorem agHi.d {J' : Rows} (h : agHi J J') (d : Nat) : agD J J' d := ⟨fun r h1 h2 => by rw [h.1 r h1 (by omega)], fun n _ => ⟨by rw [h.1 70 (by decide) (by decide)], by rw [h.1 71 (by decide) (by decide)], by rw [h.1 72 (by decide) (by decide)]⟩⟩
theorem agHi.k {J' : Rows} (h : agHi J J') (q : Nat) : agK J J' q := ⟨fun r h1 h2 => by rw [h.1 r (by omega) (by omega)], fun k w _ _ => by unfold prt; rw [h.1 74 (by decide) (by decide)], fun j _ => by rw [h.1 75 (by decide) (by decide)]⟩
theorem IvD.hi {J' : Rows} {d : Nat} (h : IvD J d) (a : agHi J J') (h2 : IvD J (1 - d)) : IvD J' d := h.ag (a.d d).1 (a.n _) (fun n _ => by rw [a.1 73 (by decide) (by decide)]) (a.2 45 (by decide)) h2.nm.2
theorem IvG.hi {J' : Rows} (h : IvG J) (a : agHi J J') (h4 : is01 (J' 26 4)) : IvG J' := by
  obtain ⟨h1, h2, h3, h4', h5, h6, h7, h8⟩ := h
  unfold IvG
  rw [a.2 0 (by decide), a.2 1 (by decide), a.2 2 (by decide), a.2 46 (by decide), a.2 44 (by decide), a.2 45 (by decide), a.2 62 (by decide)]
  exact ⟨h1, h2, h3, h4, h5, h6, h7, h8⟩
theorem RGl.hi {J' : Rows} {c : Nat → Int32} (h : RGl c J) (a : agHi J J') : RGl c J' := fun k hk => by
  have q : ∀ k ∈ ksG, rg k ≠ 4 := by decide
  rw [h k hk]; exact (a.2 _ (q k hk)).symm
theorem RNt.hi {T' : Sto} {J' : Rows} (h : RNt T J) (a : agHi J J') (hg : gR T' = gR T) : RNt T' J' := h.ag (a.2 62 (by decide)) (fun i _ => ⟨by rw [a.1 76 (by decide) (by decide)], by rw [a.1 77 (by decide) (by decide)]⟩) (fun d _ => a.n d) (fun _ _ => by rw [hg]) (fun _ _ _ _ => by rw [hg])
/-- a change of one stream alone (its object, its row, its rows in the model) -/
theorem Rel.str {T' : Sto} {J' : Rows} {i : Nat} (h : Rel T J) (hF : Fx T') (hsn : sN T' = sN T) (hg : gR T' = gR T) (ho : ∀ a, a ≠ 3 + 2 * i → a ≠ 4 + 2 * i → gI T' a = gI T a) (hi : i < 8) (ha : agHi J J') (h4 : is01 (J' 26 4)) (hx : ∀ i', i' < 8 → i' ≠ i → agS J J' i') (h1 : RSt (gI T' (3 + 2 * i)) (gI T' (4 + 2 * i)) J' i) (h2 : IvS J' i) (h3 : frs J i ≤ frs J' i) : Rel T' J' := by
  refine h.chg hF (fun d _ => ha.n d) (by omega) (fun i' hi' => ?_) (fun i' hi' => ?_) (fun d hd => Or.inl ⟨ho _ (by omega) (by omega), ho _ (by omega) (by omega), ha.d d⟩) (fun d hd => (h.vd hd).hi ha (h.vd (by omega))) (by rw [ho 0 (by omega) (by omega)]; exact h.g.hi ha) (h.vg.hi ha h4)
    (fun d n p hd hn hp hal => Or.inl ⟨ho _ (by have := al79 hal; omega) (by have := al79 hal; omega), ho _ (by have := al79 hal; omega) (by have := al79 hal; omega), ho _ (by have := al79 hal; omega) (by have := al79 hal; omega), ha.k _, ha.2 0 (by decide)⟩) (fun d n _ _ => by rw [hg]) (h.n.hi ha hg)
  · by_cases e : i' = i
    · subst e; exact h3
    · unfold frs; rw [(hx i' hi' e).1 31 (by decide) (by decide) (by decide) (by decide)]; exact Nat.le_refl _
  by_cases e : i' = i
  · subst e; exact Or.inr ⟨h1, h2⟩
  · exact Or.inl ⟨ho _ (by omega) (by omega), ho _ (by omega) (by omega), hx i' hi' e⟩
theorem EqF.put {c : Nat → Int32} {i k : Nat} {x : Int32} (h : EqF c (fun k => J (rs k) i) ksS) (hk : k ∈ ksS) : EqF (upd c k x) (fun k' => uJ J (rs k) i x (rs k') i) ksS := by
  intro k' hk'
  show upd c k x k' = uJ J (rs k) i x (rs k') i
  rw [upd_at]
  by_cases e : k' = k
  · subst e; rw [if_pos rfl, uJ_same]
  · rw [if_neg e, uJ_ne (fun q => e (rs_inj k' hk' k hk q))]; exact h k' hk'
theorem ks_no : ∀ k ∈ ksS, k ≠ 9 ∧ k ≠ 6 ∧ k ≠ 7 ∧ k ≠ 10 ∧ k ≠ 0 := by decide
/-- one field of a stream's object -/
theorem RSt.put {c row : Nat → Int32} {i k : Nat} {x : Int32} (h : RSt c row J i) (hk : k ∈ ksS) : RSt (upd c k x) row (uJ J (rs k) i x) i := by
  obtain ⟨h1, h2, h3, h4, h5, h6⟩ := h
  obtain ⟨r1, r2, r3, r4, r5, r6, r7⟩ := rs_in k hk
  obtain ⟨n1, n2, n3, n4, -⟩ := ks_no k hk
  have e36 : byt (uJ J (rs k) i x) i = byt J i := by funext j; unfold byt; rw [uJ_ne (fun q => r3 q.symm)]
  have e37 : cam (uJ J (rs k) i x) i = cam J i := by funext j; unfold cam; rw [uJ_ne (fun q => r4 q.symm)]
  refine ⟨h1.put hk, ?_, ?_, ?_, ?_, ?_⟩
  · rw [upd_at, if_neg (fun q => n1 q.symm), uJ_ne (fun q => r5 q.symm), uJ_ne (fun q => r6 q.symm), uJ_ne (fun q => r7 q.symm)]; exact h2
  · rw [e36, e37]; exact h3
  · rw [upd_at, if_neg (fun q => n2 q.symm), e36]; exact h4
  · rw [upd_at, if_neg (fun q => n3 q.symm), e36]; exact h5
  · rw [upd_at, if_neg (fun q => n4 q.symm), e37]; exact h6
theorem agHi.put {i r : Nat} {x : Int32} (h1 : 27 ≤ r) (h2 : r ≤ 43) : agHi J (uJ J r i x) := ⟨fun r' a b => uJ_ne (by omega), fun k hk => by rw [uJ_ne (by omega)]⟩
theorem agS.put {i i' r : Nat} {x : Int32} (h1 : 27 ≤ r) (h2 : r ≤ 43) (h3 : r ≠ 36 ∧ r ≠ 37) (hi : i' ≠ i) : agS J (uJ J r i x) i' := ⟨fun r' a b c d => uJ_off _ _ (Or.inr hi), fun j hj => ⟨by unfold byt; rw [uJ_ne (by omega)], by unfold cam; rw [uJ_ne (by omega)]⟩⟩
theorem Rel.putS {i k : Nat} {x : Int32} (h : Rel T J) (hi : i < 8) (hk : k ∈ ksS) (hv : IvS (uJ J (rs k) i x) i) (h5 : ¬ k = 5 := by decide) : Rel (pI T (3 + 2 * i) k x) (uJ J (rs k) i x) := by
  obtain ⟨r1, r2, r3, r4, -⟩ := rs_in k hk
  refine h.str (i := i) h.f rfl rfl (fun a h1 h2 => by rw [gI_pI, if_neg h1]) hi (agHi.put r1 r2) (by rw [uJ_ne (by omega)]; exact h.vg.2.2.2.1) (fun i' _ hne => agS.put r1 r2 ⟨r3, r4⟩ hne) ?_ hv (by unfold frs; rw [uJ_ne (show (31 : Nat) ≠ rs k from fun q => h5 (rs_inj k hk 5 (by decide) q.symm))]; exact Nat.le_refl _)
  rw [gI_pI, if_pos rfl, gI_pI, if_neg (by omega)]
  exact (h.s hi).put hk
/-- the flag 'used' -/
theorem Rel.used {x : Int32} (h : Rel T J) (hx : is01 x) : Rel T (uJ J 26 4 x) := by
  have ha : agHi J (uJ J 26 4 x) := ⟨fun r a b => uJ_ne (by omega), fun k hk => by rw [uJ_off _ _ (Or.inr hk)]⟩
  have hS : ∀ i, agS J (uJ J 26 4 x) i := fun i => ⟨fun r a b c d => by rw [uJ_ne (by omega)], fun j hj => ⟨by unfold byt; rw [uJ_ne (by omega)], by unfold cam; rw [uJ_ne (by omega)]⟩⟩
  exact h.str (i := 0) h.f rfl rfl (fun a _ _ => rfl) (by omega) ha (by rw [uJ_same]; exact hx) (fun i' _ _ => hS i') ((h.s (by omega)).ag (hS 0)) ((h.vs (by omega)).ag (hS 0)) (by unfold frs; rw [uJ_ne (by decide)]; exact Nat.le_refl _)
end UPD
/-! the carrier's lookups, and the first calls -/
section OPS
variable {T : Sto} {J : Rows}
theorem c_streamAt {Q : Option Nat → Sto → Prop} {p : Int32} (hF : Fx T) (h1 : ¬ (0 ≤ p.toInt ∧ p.toInt < 8) → Q none T) (h2 : ∀ s, s < 8 → p = nI s → Q (some (3 + 2 * s)) T) : Co K4_streamAt [vr 0, vi p] T Q := by
  refine e4_streamAt hF ⟨fun hc => ?_, fun hc => ⟨fun hd => ?_, fun hd => ?_⟩⟩
  · rw [Int32.lt_iff_toInt_lt] at hc
    exact h1 (fun q => by have := q.1; simp at hc; omega)
  · rw [Int32.lt_iff_toInt_lt] at hc hd
    have hh : 0 ≤ p.toInt ∧ p.toInt < (8 : Nat) := by simp at hc hd; omega
    obtain ⟨q1, q2⟩ := ofIx hh
    exact ⟨hh, h2 _ q1 q2⟩
  · rw [Int32.lt_iff_toInt_lt] at hd
    exact h1 (fun q => by have := q.2; simp at hd; omega)
theorem c_sideAt {Q : Option Nat → Sto → Prop} {p : Int32} (hF : Fx T) (h1 : ¬ (0 ≤ p.toInt ∧ p.toInt < 2) → Q none T) (h2 : ∀ s, s < 2 → p = nI s → Q (some (20 + 3 * s)) T) : Co K4_sideAt [vr 0, vi p] T Q := by
  refine e4_sideAt hF ⟨fun hc => ?_, fun hc => ⟨fun hd => ?_, fun hd => ?_⟩⟩
  · rw [Int32.lt_iff_toInt_lt] at hc
    exact h1 (fun q => by have := q.1; simp at hc; omega)
  · rw [Int32.le_iff_toInt_le] at hd
    rw [Int32.lt_iff_toInt_lt] at hc
    have hh : 0 ≤ p.toInt ∧ p.toInt < (2 : Nat) := by simp at hc hd; omega
    obtain ⟨q1, q2⟩ := ofIx hh
    exact ⟨hh, h2 _ q1 q2⟩
  · rw [Int32.le_iff_toInt_le] at hd
    exact h1 (fun q => by have := q.2; simp at hd; omega)
theorem IvS.flag {i r : Nat} {x : Int32} (h : IvS J i) (hr : r = 28 ∨ r = 29 ∨ r = 30 ∨ r = 32 ∨ r = 33 ∨ r = 34 ∨ r = 41 ∨ r = 43) (hx : is01 x) : IvS (uJ J r i x) i := by
  obtain ⟨⟨a1, a2, a3, a4, a5, a6, a7, a8⟩, ⟨w, f, b1, b2, b3, b4, b5⟩, ⟨p, q, c1, c2, c3, c4⟩, d1, d2, d3⟩ := h
  have e36 : byt (uJ J r i x) i = byt J i := by funext j; unfold byt; rw [uJ_ne (by omega)]
  have e37 : cam (uJ J r i x) i = cam J i := by funext j; unfold cam; rw [uJ_ne (by omega)]
  have fl : ∀ s, is01 (J s i) → is01 (uJ J r i x s i) := fun s hs => by
    by_cases e : s = r
    · subst e; rw [uJ_same]; exact hx
    · rw [uJ_ne e]; exact hs
  refine ⟨⟨fl _ a1, fl _ a2, fl _ a3, fl _ a4, fl _ a5, fl _ a6, fl _ a7, fl _ a8⟩, ⟨w, f, ?_, ?_, b3, b4, ?_⟩, ⟨p, q, ?_, ?_, c3, c4⟩, ?_, ?_, ?_⟩
  · rw [uJ_ne (by omega)]; exact b1
  · rw [uJ_ne (by omega)]; exact b2
  · rw [e36]; exact b5
  · rw [uJ_ne (by omega)]; exact c1
  · rw [uJ_ne (by omega)]; exact c2
  · rw [uJ_ne (by omega)]; exact d1
  · rw [uJ_ne (by omega)]; exact d2
  · rw [e36, e37]; exact d3
theorem c_stream {P1 : Nat → Sto → Prop} {P2 : Sto → Prop} {p : Int32} (hF : Fx T) (h1 : ¬ (0 ≤ p.toInt ∧ p.toInt < 8) → P2 T) (h2 : ∀ s, s < 8 → p = nI s → P1 (3 + 2 * s) T) : Co K4_streamAt [vr 0, vi p] T (fun x S1 => (∀ b, x = some b → al S1 b 3) ∧ ((∀ b, x = some b → P1 b S1) ∧ (x = none → P2 S1))) := by
  refine c_streamAt hF (fun hc => ?_) (fun s hs e => ?_)
  · exact ⟨fun b hb => (by cases hb), fun b hb => (by cases hb), fun _ => h1 hc⟩
  · exact ⟨fun b hb => by cases hb; exact hF.st hs, fun b hb => by cases hb; exact h2 s hs e, fun hb => by cases hb⟩
theorem c_side {P1 : Nat → Sto → Prop} {P2 : Sto → Prop} {p : Int32} (hF : Fx T) (h1 : ¬ (0 ≤ p.toInt ∧ p.toInt < 2) → P2 T) (h2 : ∀ s, s < 2 → p = nI s → P1 (20 + 3 * s) T) : Co K4_sideAt [vr 0, vi p] T (fun x S1 => (∀ b, x = some b → al S1 b 2) ∧ ((∀ b, x = some b → P1 b S1) ∧ (x = none → P2 S1))) := by
  refine c_sideAt hF (fun hc => ?_) (fun s hs e => ?_)
  · exact ⟨fun b hb => (by cases hb), fun b hb => (by cases hb), fun _ => h1 hc⟩
  · exact ⟨fun b hb => by cases hb; exact hF.sd hs, fun b hb => by cases hb; exact h2 s hs e, fun hb => by cases hb⟩
theorem c_end {Q : Int32 → Sto → Prop} {p : Int32} (hR : Rel T J) (h1 : ¬ (0 ≤ p.toInt ∧ p.toInt < 8) → Q (-1) T)
    (h2 : ∀ s, s < 8 → p = nI s → (J 28 s = 0 ∧ J 29 s = 0 → ∀ T', Fr T T' → Rel T' (uJ (uJ J 28 s 1) 26 4 1) → Q 1 T') ∧ (¬ (J 28 s = 0 ∧ J 29 s = 0) → Q (-3) T)) : Ci K4_end [vr 0, vi p] T Q := by
  refine e4_end hR.f (c_stream hR.f h1 (fun s hs e => ?_))
  obtain ⟨k1, k2⟩ := h2 s hs e
  rw [(hR.s hs).1 2 (by decide), (hR.s hs).1 3 (by decide)]
  refine ⟨fun hc => k2 (fun q => hc q.1), fun hc => ⟨fun hd => ?_, fun hd => k2 (fun q => hd q.2)⟩⟩
  exact k1 ⟨hc, hd⟩ _ (Fr.rfl'.p (by omega)) ((hR.putS hs (k := 2) (by decide) ((hR.vs hs).flag (Or.inl rfl) (Or.inr rfl))).used (Or.inr rfl))
theorem c_cut {Q : Int32 → Sto → Prop} {p : Int32} (hR : Rel T J) (h1 : ¬ (0 ≤ p.toInt ∧ p.toInt < 8) → Q (-1) T)
    (h2 : ∀ s, s < 8 → p = nI s → (J 29 s = 0 → ∀ T', Fr T T' → Rel T' (uJ (uJ (uJ J 29 s 1) 30 s 1) 26 4 1) → Q 1 T') ∧ (¬ J 29 s = 0 → Q (-3) T)) : Ci K4_cut [vr 0, vi p] T Q := by
  refine e4_cut hR.f (c_stream hR.f h1 (fun s hs e => ?_))
  obtain ⟨k1, k2⟩ := h2 s hs e
  rw [(hR.s hs).1 3 (by decide)]
  refine ⟨fun hc => ?_, fun hc => k2 hc⟩
  have h3 := hR.putS hs (k := 3) (x := 1) (by decide) ((hR.vs hs).flag (Or.inr (Or.inl rfl)) (Or.inr rfl))
  exact k1 hc _ ((Fr.rfl'.p (by omega)).p (by omega)) ((h3.putS hs (k := 4) (by decide) ((h3.vs hs).flag (Or.inr (Or.inr (Or.inl rfl))) (Or.inr rfl))).used (Or.inr rfl))
theorem nI_wr {w : Nat} {p : Int32} (hw : w ≤ 1000) (h1 : 1 ≤ p.toInt) (h2 : p.toInt ≤ 1000) : ∃ n, 1 ≤ n ∧ n ≤ 1000 ∧ p = nI n ∧ nI w + p = nI (w + n) := by
  obtain ⟨n, hn, e⟩ := ofIx2 (x := p) (N := 1001) ⟨by omega, by omega⟩
  subst e
  rw [nI_toInt (by omega)] at h1
  exact ⟨n, by omega, by omega, rfl, nI_add w n⟩
theorem c_write {Q : Int32 → Sto → Prop} {p n : Int32} (hR : Rel T J) (h1 : ¬ (0 ≤ p.toInt ∧ p.toInt < 8) → Q (-1) T)
    (h2 : ∀ s, s < 8 → p = nI s → (¬ (1 ≤ n.toInt ∧ n.toInt ≤ 1000) → Q (-2) T) ∧ (1 ≤ n.toInt ∧ n.toInt ≤ 1000 → (¬ (J 28 s = 0 ∧ J 29 s = 0) → Q (-3) T) ∧ (J 28 s = 0 ∧ J 29 s = 0 → (¬ J 27 s + n ≤ 1000 → Q (-4) T) ∧
      (J 27 s + n ≤ 1000 → ∀ T', Fr T T' → Rel T' (uJ (uJ J 27 s (J 27 s + n)) 26 4 1) → Q (J 27 s + n) T')))) : Ci K4_write [vr 0, vi p, vi n] T Q := by
  refine e4_write hR.f (c_stream hR.f h1 (fun s hs e => ?_))
  obtain ⟨k1, k2⟩ := h2 s hs e
  rw [(hR.s hs).1 1 (by decide), (hR.s hs).1 2 (by decide), (hR.s hs).1 3 (by decide)]
  refine ⟨fun hc => k1 (fun q => ?_), fun hc => ⟨fun hd => ?_, fun hd => k1 (fun q => ?_)⟩⟩
  · rw [show (1 : Int32) = nI 1 from rfl, l32_lt _ _ (by decide)] at hc; omega
  · rw [show (1 : Int32) = nI 1 from rfl, l32_lt _ _ (by decide)] at hc
    rw [show (1000 : Int32) = nI 1000 from rfl, l32_le _ _ (by decide)] at hd
    obtain ⟨a1, a2⟩ := k2 ⟨by omega, by omega⟩
    refine ⟨fun q => a1 (fun r => q r.1), fun q => ⟨fun r => ?_, fun r => a1 (fun t => r t.2)⟩⟩
    obtain ⟨b1, b2⟩ := a2 ⟨q, r⟩
    refine ⟨fun t => ?_, b1⟩
    rw [gI_pI, if_pos rfl, upd_at, if_pos rfl]
    refine b2 t _ (Fr.rfl'.p (by omega)) ((hR.putS hs (k := 1) (by decide) ?_).used (Or.inr rfl))
    obtain ⟨i1, ⟨w, f, i2, i3, i4, i5, i6⟩, i7, i8, i9, i10⟩ := hR.vs hs
    obtain ⟨n', n1, n2, n3, n4⟩ := nI_wr i5 (by omega : (1 : Int) ≤ n.toInt) (by omega)
    have hw : J 27 s + n = nI (w + n') := by show J 27 s + n = _; rw [i2]; exact n4
    have hle : w + n' ≤ 1000 := by
      have t2 : J 27 s + n ≤ 1000 := t
      rw [hw, show (1000 : Int32) = nI 1000 from rfl, nI_leI (by omega) (by omega)] at t2
      exact t2
    refine ⟨?_, ⟨w + n', f, ?_, ?_, by omega, hle, ?_⟩, ?_, ?_, ?_, ?_⟩
    · simpa [rs, uJ_at] using i1
    · rw [show rs 1 = 27 from rfl, uJ_same]; exact hw
    · rw [show rs 1 = 27 from rfl, uJ_ne (by decide)]; exact i3
    · intro j a b; have := i6 j a b; simpa [byt, rs, uJ_at] using this
    · simpa [rs, uJ_at] using i7
    · simpa [rs, uJ_at] using i8
    · simpa [rs, uJ_at] using i9
    · intro j a; have := i10 j a; simpa [byt, cam, rs, uJ_at] using this
  · rw [show (1000 : Int32) = nI 1000 from rfl, l32_le _ _ (by decide)] at hd; omega
end OPS
