section SETTLE
variable {T : Sto} {J : Rows}
def spArr1 (J : Rows) (kind a b c : Int32) : Rows :=
  if kind = 4 then (if c < 10000 then zitB J (ntn a) (ntn b) 3 (ntn c % 10000) else uJ (uJ (zitB J (ntn a) (ntn b) 3 (ntn c % 10000)) 34 (ntn a) 1) 33 (ntn a) 0) else J
/-- what a PACKET had is done with -/
def spArr (J : Rows) (q : Nat) : Nat → Rows
  | 0 => J
  | m + 1 => spArr1 (spArr J q m) (prt J q m 0) (prt J q m 1) (prt J q m 2) (prt J q m 3)
theorem spArr1_ne {kind a b c : Int32} {r : Nat} (h : r ≠ 36 ∧ r ≠ 34 ∧ r ≠ 33) : spArr1 J kind a b c r = J r := by
  unfold spArr1
  split
  · split
    · exact zitB_ne h.1
    · rw [uJ_ne h.2.2, uJ_ne h.2.1, zitB_ne h.1]
  · rfl
theorem spArr_ne {q m r : Nat} (h : r ≠ 36 ∧ r ≠ 34 ∧ r ≠ 33) : spArr J q m r = J r := by
  induction m with
  | zero => rfl
  | succ m ih => exact (spArr1_ne h).trans ih
theorem spArr_prt {q m k w q2 : Nat} : prt (spArr J q2 m) q k w = prt J q k w := by unfold prt; rw [spArr_ne (by decide)]
theorem byt_zB {i f n j : Nat} {x : Int32} : byt (zitB J i f x n) i j = if f ≤ j ∧ j < f + n then x else byt J i j := by
  unfold byt
  rw [zitB_at]
  by_cases q : f ≤ j ∧ j < f + n
  · rw [if_pos q, if_pos ⟨by omega, by omega⟩]
  · rw [if_neg q, if_neg (fun z => q ⟨by omega, by omega⟩)]
theorem cam_zB {i f n : Nat} {x : Int32} : cam (zitB J i f x n) i = cam J i := by funext j; unfold cam; rw [zitB_ne (by decide)]
theorem IvS.zB {i f n x : Nat} (h : IvS J i) (hf : f + n ≤ frs J i) (hx : x ≤ 3) : IvS (zitB J i f (nI x) n) i := by
  obtain ⟨w, f0, b1, b2, b3, b4, b5⟩ := h.2.1
  have e0 : frs J i = f0 := by unfold frs; rw [b2]; exact tnN (by omega)
  refine h.alt (fun r _ _ e _ _ _ => by rw [zitB_ne e]) ⟨w, f0, b1, by rw [zitB_ne (by decide)]; exact b2, b3, b4, fun j q1 q2 => ?_⟩ (by rw [zitB_ne (by decide)]; exact h.2.2.1) (fun j hj => ?_)
  · rw [byt_zB, if_neg (by omega)]; exact b5 j q1 q2
  · rw [cam_zB, byt_zB]
    refine ⟨?_, (h.2.2.2.2.2 j hj).2⟩
    split
    · exact ⟨x, hx, rfl⟩
    · exact (h.2.2.2.2.2 j hj).1
theorem agS.zB {i i' f n : Nat} {x : Int32} (hne : i' ≠ i) (hfn : f + n ≤ 1000) : agS J (zitB J i f x n) i' := ⟨fun r _ _ e _ => by rw [zitB_ne e], fun j hj => ⟨by unfold byt; rw [zitB_at, if_neg (by omega)], by unfold cam; rw [zitB_ne (by decide)]⟩⟩
theorem Rel.zB {T' : Sto} {i f n x : Nat} (h : Rel T J) (hi : i < 8) (hfn : f + n ≤ 1000) (hf : f + n ≤ frs J i) (hx : x ≤ 3) (z : zLS T T' (zitB J i f (nI x) n) i) : Rel T' (zitB J i f (nI x) n) :=
  h.ofz z hi (agHi.ne (fun r e _ => zitB_ne e)) (by rw [zitB_ne (by decide)]; exact h.vg.2.2.2.1) (fun i' _ hne => agS.zB hne hfn) ((h.vs hi).zB hf hx) (frs_eq (zitB_ne (by decide)) i)
theorem c_arrPart {X : Ctx} {S0 : Sto} {Q : Sto → Prop} {d n p k : Nat} (hR : Rel T J) (hd : d < 2) (hn : n < num J d) (hp : gR T (21 + 3 * d) n = some p) (hS : sN S0 ≤ sN T) (O : Ov X K4_settle S0 Q) (hk : nI k < J 69 (300 * d + n)) (hk2 : k < 16)
    (h : ∀ T', Ev T T' → Rel T' (spArr1 J (prt J (300 * d + n) k 0) (prt J (300 * d + n) k 1) (prt J (300 * d + n) k 2) (prt J (300 * d + n) k 3)) → WP X 59 [(0, vr 0), (2, vr p), (3, vi (nI (k + 1)))] [] T' 0 0) :
    WP X 59 [(0, vr 0), (2, vr p), (3, vi (nI k))] [] T 0 0 := by
  obtain ⟨hv, p', hp', hal, hK⟩ := hR.pk hd hn
  rw [hp] at hp'
  cases hp'
  obtain ⟨-, -, -, -, -, -, ⟨m, m1, m2, m3, m4⟩, -⟩ := hv
  have hkm : k < m := by rw [m3, nI_ltI (by omega) (by omega)] at hk; exact hk
  have hIv := (m4 k hkm).1
  have e7 : gI T p 7 = J 69 (300 * d + n) := hK.1 7 (by decide)
  have e0 : gI T (p + 1) (4 * k + 0) = prt J (300 * d + n) k 0 := hK.2.2.2.2.1 k 0 hk hk2 (by decide)
  have e1 : gI T (p + 1) (4 * k + 1) = prt J (300 * d + n) k 1 := hK.2.2.2.2.1 k 1 hk hk2 (by decide)
  have e2 : gI T (p + 1) (4 * k + 2) = prt J (300 * d + n) k 2 := hK.2.2.2.2.1 k 2 hk hk2 (by decide)
  have e3 : gI T (p + 1) (4 * k + 3) = prt J (300 * d + n) k 3 := hK.2.2.2.2.1 k 3 hk hk2 (by decide)
  generalize prt J (300 * d + n) k 0 = kind at *
  generalize prt J (300 * d + n) k 1 = a at *
  generalize prt J (300 * d + n) k 2 = b at *
  generalize prt J (300 * d + n) k 3 = c at *
  refine s4_settle_59 hR.f hS O hal ⟨fun hc => ?_, fun _ => ⟨ptx (w := 1) hk2 (by decide), ?_⟩⟩
  · rw [e7, m3, nI_leI (by omega) (by omega)] at hc; omega
  rw [ptv1 hk2, e1]
  obtain ⟨i, hi, rfl⟩ := hIv.a
  have ti : ntn (nI i) = i := ntn_nI (by omega)
  refine c_strA hR.f hi ⟨fun b' hb => by cases hb; exact hR.f.st hi, ptx (w := 0) hk2 (by decide), ?_⟩
  rw [ptv0 hk2, ptv2 hk2, ptv3 hk2, e0, e2, e3, nI_suc]
  refine ⟨fun n4 => ?_, fun e => ⟨fun b' hb => ?_, fun hb => by cases hb⟩⟩
  · have : spArr1 J kind (nI i) b c = J := if_neg n4
    rw [this] at h
    exact h T Ev.rf hR
  · cases hb
    subst e
    have ha : ∃ f n e, b = nI f ∧ c = nI (n + 10000 * e) ∧ f + n ≤ frs J i ∧ f + n ≤ 1000 ∧ e ≤ 1 := by
      rcases hIv with h | h | h | ⟨-, i', f, n, e, h1, h2, h3, h4, h5, h6, h7⟩ | h | h | h | h
      · exact absurd h.1 (by decide)
      · exact absurd h.1 (by decide)
      · exact absurd h.1 (by decide)
      · have : i = i' := nI_nj (by omega) (by omega) h2
        exact ⟨f, n, e, h3, h4, this ▸ h5, h6, h7⟩
      all_goals exact absurd h.1 (by decide)
    obtain ⟨f, n', e, rfl, rfl, hf, hfn, he⟩ := ha
    have hm : ntn (nI (n' + 10000 * e)) % 10000 = n' := by rw [ntn_nI (by omega)]; omega
    have e4 : spArr1 J 4 (nI i) (nI f) (nI (n' + 10000 * e)) = if nI (n' + 10000 * e) < 10000 then zitB J i f 3 n' else uJ (uJ (zitB J i f 3 n') 34 i 1) 33 i 0 := by
      unfold spArr1
      rw [if_pos rfl, hm, ti, ntn_nI (by omega)]
    rw [e4] at h
    refine ⟨ptx (w := 3) hk2 (by decide), ptx (w := 2) hk2 (by decide), ?_⟩
    rw [remE (by omega) he]
    refine c_markArrived hR hi hfn (fun T' hz => ?_)
    have R1 := hR.zB hi hfn hf (x := 3) (by decide) hz
    have E1 : Ev T T' := Ev.z hz hi
    refine ⟨fun hc => h T' E1 ?_, fun hc => h _ (E1.p (by omega)) ?_⟩
    · rw [if_pos hc]; exact R1
    · rw [if_neg hc]
      refine R1.endS hi (fun r _ q2 q3 => by rw [uJ_ne q2, uJ_ne q3]; rfl) (fun r k' hk' => by rw [uJ_off _ _ (Or.inr hk'), uJ_off _ _ (Or.inr hk')]; rfl) ⟨?_, ?_, ?_⟩ ?_
      · rw [uJ_ne (by decide), uJ_ne (by decide)]; exact (R1.vs hi).1.2.2.2.1
      · rw [uJ_same]; exact Or.inl rfl
      · rw [uJ_ne (by decide), uJ_same]; exact Or.inr rfl
      · rw [uJ_ne (show (34 : Nat) ≠ 33 by decide), uJ_same (a := 34)]
        unfold eSt
        rw [if_neg (by decide)]
/-- how OPEN grows -/
def gv (J : Rows) (d : Nat) (w o : Int32) : Int32 := if o < J 47 d then o + w else o + J 26 0 * w / o
theorem c_grow {d : Nat} {w : Int32} {Q : Sto → Prop} (hR : Rel T J) (hd : d < 2) (h : ∀ T', Ev T T' → Rel T' (uJ J 46 d (gv J d w (J 46 d))) → Q T') : Cv K0_grow [vr (20 + 3 * d + 2), vi w, vi (gI T 0 5)] T Q := by
  have e5 : gI T 0 5 = J 26 0 := hR.g 5 (by decide)
  have e1 : gI T (22 + 3 * d) 1 = J 46 d := (hR.d hd).2.1 1 (by decide)
  have e2 : gI T (22 + 3 * d) 2 = J 47 d := (hR.d hd).2.1 2 (by decide)
  have hal : al T (22 + 3 * d) 0 := by have := hR.f.pace (hR.f.sd hd); rwa [show 20 + 3 * d + 2 = 22 + 3 * d by omega] at this
  rw [e5, show 20 + 3 * d + 2 = 22 + 3 * d by omega]
  refine e0_grow hR.f hal ?_
  rw [e1, e2]
  obtain ⟨b, b1, b2, b3⟩ := (hR.vd hd).2.2.2.2.2.2.2.2.2.2.2.2.2
  have put : ∀ x, x = gv J d w (J 46 d) → Q (pI T (22 + 3 * d) 1 x) := fun x e => by
    subst e
    exact h _ (Ev.rf.p (by omega)) (hR.putP hd (k := 1) (by decide) ((hR.vd hd).free (r := 46) (by decide) hd))
  refine ⟨fun hc => ?_, fun hc => put _ ?_⟩
  · have pos : 120 ≤ (J 46 d).toInt := by
      rw [b3, Int32.le_iff_toInt_le, nI_toInt b2] at hc; omega
    refine ⟨fun h0 => ?_, fun h0 => ⟨fun z => ?_, put _ ?_⟩⟩
    · rw [Int32.le_iff_toInt_le] at h0
      have : (0 : Int32).toInt = 0 := by decide
      omega
    · rw [z] at pos
      have : (0 : Int32).toInt = 0 := by decide
      omega
    · unfold gv
      rw [if_neg (fun q => ltle q hc)]
  · unfold gv
    rw [if_pos (ile hc)]
def spG (J : Rows) (d q : Nat) : Rows := if J 70 q = 0 ∨ ¬ J 72 q = 0 then J else if J 66 q ≤ J 48 d then uJ J 45 d (J 45 d - J 68 q) else uJ (uJ J 45 d (J 45 d - J 68 q)) 46 d (gv J d (J 68 q) (J 46 d))
def spSet (J : Rows) (d q : Nat) : Rows := spArr (uJ (spG J d q) 71 q 1) q (ntn (J 69 q))
theorem spG_ne {d q r : Nat} (h1 : r ≠ 45) (h2 : r ≠ 46) : spG J d q r = J r := by
  unfold spG
  split
  · rfl
  · split
    · exact uJ_ne h1
    · rw [uJ_ne h2, uJ_ne h1]
theorem spSet_ne {d q r : Nat} (h1 : r ≠ 45) (h2 : r ≠ 46) (h3 : r ≠ 71) (h4 : r ≠ 36 ∧ r ≠ 34 ∧ r ≠ 33) : spSet J d q r = J r := by
  unfold spSet
  rw [spArr_ne h4, uJ_ne h3, spG_ne h1 h2]
theorem c_settle {d n p : Nat} {Q : Sto → Prop} (hR : Rel T J) (hd : d < 2) (hn : n < num J d) (hp : gR T (21 + 3 * d) n = some p) (h71 : J 71 (300 * d + n) = 0) (h : ∀ T', Ev T T' → Rel T' (spSet J d (300 * d + n)) → Q T') : Cv K4_settle [vr 0, vr (20 + 3 * d), vr p] T Q := by
  obtain ⟨hv, p', hp', hal, hK⟩ := hR.pk hd hn
  rw [hp] at hp'
  cases hp'
  have p79 := al79 hal
  obtain ⟨-, -, -, -, -, -, ⟨m, m1, m2, m3, m4⟩, -⟩ := hv
  have em : ntn (J 69 (300 * d + n)) = m := by rw [m3]; exact ntn_nI (by omega)
  have loop : ∀ {X : Ctx} (_ : Ov X K4_settle T Q) (J1 : Rows), num J1 d = num J d → J1 69 = J 69 → spArr J1 (300 * d + n) m = spSet J d (300 * d + n) → ∀ (j k : Nat) (T' : Sto), k + j = m → Ev T T' → Rel T' (spArr J1 (300 * d + n) k) → WP X 59 [(0, vr 0), (2, vr p), (3, vi (nI k))] [] T' 0 0 := by
    intro X O J1 c44 c69 hJ j
    induction j with
    | zero =>
      intro k T' hk E R
      have hkm : k = m := by omega
      subst hkm
      have hal' : al T' p 1 := hal.mono (by rw [E.2.1]; exact Nat.le_refl _)
      obtain ⟨-, p2, hp2, -, hK2⟩ := R.pk hd (show n < num _ d by rw [num_of (show spArr J1 (300 * d + n) k 44 d = J1 44 d by rw [spArr_ne (by decide)]), c44]; exact hn)
      rw [E.2.2, hp] at hp2
      cases hp2
      have e7 : gI T' p 7 = nI k := by rw [← m3]; exact (hK2.1 7 (by decide)).trans (by show spArr J1 _ k 69 _ = _; rw [spArr_ne (by decide), c69])
      refine s4_settle_59 R.f (by rw [E.2.1]; exact Nat.le_refl _) O hal' ⟨fun _ => h T' E (hJ ▸ R), fun hc => ?_⟩
      rw [e7, nI_leI (by omega) (by omega)] at hc; omega
    | succ j ih =>
      intro k T' hk E R
      refine c_arrPart R hd (show n < num _ d by rw [num_of (show spArr J1 (300 * d + n) k 44 d = J1 44 d by rw [spArr_ne (by decide)]), c44]; exact hn) (by rw [E.2.2]; exact hp) (by rw [E.2.1]; exact Nat.le_refl _) O (by rw [spArr_ne (by decide), c69, m3, nI_ltI (by omega) (by omega)]; omega) (by omega) (fun T2 E2' R2' => ?_)
      refine ih (k + 1) T2 (by omega) (E.tr E2') ?_
      rw [spArr_prt, spArr_prt, spArr_prt, spArr_prt] at R2'
      exact R2'
  have g9 : gI T p 9 = J 70 (300 * d + n) := hK.1 9 (by decide)
  have g10 : gI T p 10 = J 71 (300 * d + n) := hK.1 10 (by decide)
  have g11 : gI T p 11 = J 72 (300 * d + n) := hK.1 11 (by decide)
  have g8 : gI T p 8 = J 68 (300 * d + n) := hK.1 8 (by decide)
  have g2 : gI T p 2 = J 66 (300 * d + n) := hK.1 2 (by decide)
  have q0 : gI T (20 + 3 * d + 2) 0 = J 45 d := by rw [show 20 + 3 * d + 2 = 22 + 3 * d by omega]; exact (hR.d hd).2.1 0 (by decide)
  have q3 : gI T (20 + 3 * d + 2) 3 = J 48 d := by rw [show 20 + 3 * d + 2 = 22 + 3 * d by omega]; exact (hR.d hd).2.1 3 (by decide)
  refine e4_settle hR.f (hR.f.sd hd) hal (fun X O => ?_)
  rw [g9, g10, g11, inF, g8, q0, gI_ne (b := p) (by omega), g2, gI_eq, upd_at, if_neg (by decide), q3, g8]
  have fin : ∀ T' J1, Ev T T' → Rel T' J1 → J1 44 = J 44 → J1 69 = J 69 → spArr (uJ J1 71 (300 * d + n) 1) (300 * d + n) m = spSet J d (300 * d + n) → WP X 59 [(0, vr 0), (2, vr p), (3, vi 0)] [] (pI T' p 10 1) 0 0 := by
    intro T' J1 E R h44 h69 hJ
    have R2 := R.putK (n := n) (p := p) hd (by rw [num_of (show J1 44 d = J 44 d by rw [h44])]; exact hn) (by rw [E.2.2]; exact hp) (k := 10) (by decide)
    exact loop O (uJ J1 71 (300 * d + n) 1) (num_of (by rw [uJ_ne (by decide), h44])) (by rw [uJ_ne (by decide), h69]) hJ m 0 _ (by omega) (E.p (Or.inr p79)) R2
  have spE : ∀ J1, spG J d (300 * d + n) = J1 → spArr (uJ J1 71 (300 * d + n) 1) (300 * d + n) m = spSet J d (300 * d + n) := fun J1 e => by unfold spSet; rw [e, em]
  have R1 : Rel (pI T (22 + 3 * d) 0 (J 45 d - J 68 (300 * d + n))) (uJ J 45 d (J 45 d - J 68 (300 * d + n))) := hR.putP hd (k := 0) (by decide) ((hR.vd hd).free (r := 45) (by decide) hd)
  rw [show 20 + 3 * d + 2 = 22 + 3 * d by omega]
  refine ⟨fun hq => ?_, fun hq => ⟨fun hf => ?_, fun hf => ?_⟩⟩
  · refine fin T J Ev.rf hR rfl rfl (spE _ (if_pos ?_))
    rcases hq with q | q | q
    · exact Or.inl q
    · exact absurd h71 q
    · exact Or.inr q
  · refine fin _ _ (Ev.rf.p (by omega)) R1 (uJ_ne (by decide)) (uJ_ne (by decide)) (spE _ ?_)
    unfold spG
    rw [if_neg (fun z => hq (z.imp id Or.inr)), if_pos hf]
  · have := c_grow (w := J 68 (300 * d + n)) (Q := fun S4 => WP X 59 [(0, vr 0), (2, vr p), (3, vi 0)] [] (pI S4 p 10 1) 0 0) R1 hd (fun T' E R => fin T' _ ((Ev.rf.p (by omega)).tr E) R (by rw [uJ_ne (by decide), uJ_ne (by decide)]) (by rw [uJ_ne (by decide), uJ_ne (by decide)]) (spE _ ?_))
    · rw [show 20 + 3 * d + 2 = 22 + 3 * d by omega] at this
      exact this
    · unfold spG
      rw [if_neg (fun z => hq (z.imp id Or.inr)), if_neg hf]
      unfold gv
      rw [uJ_ne (show (47 : Nat) ≠ 45 by decide), uJ_ne (show (26 : Nat) ≠ 45 by decide), uJ_ne (show (46 : Nat) ≠ 45 by decide)]
end SETTLE
