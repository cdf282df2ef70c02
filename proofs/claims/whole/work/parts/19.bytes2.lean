section BYTES2
variable {T : Sto} {J : Rows}
theorem zLS.put {T' : Sto} {i k : Nat} {x : Int32} (h : zLS T T' J i) (hk : k ∈ ksS) : zLS T (pI T' (3 + 2 * i) k x) (uJ J (rs k) i x) i := by
  obtain ⟨g1, g2, g3, g4, g5⟩ := h
  obtain ⟨r1, r2, r3, r4, -⟩ := rs_in k hk
  refine ⟨g1, g2, fun a a1 a2 => by rw [gI_pI, if_neg a1]; exact g3 a a1 a2, ?_, fun j hj => ?_⟩
  · rw [gI_pI, if_pos rfl, gI_pI, if_neg (by omega)]
    exact g4.put hk
  · have e36 : byt (uJ J (rs k) i x) i = byt J i := by funext q; unfold byt; rw [uJ_ne (fun z => r3 z.symm)]
    have e37 : cam (uJ J (rs k) i x) i = cam J i := by funext q; unfold cam; rw [uJ_ne (fun z => r4 z.symm)]
    rw [e36, e37]; exact g5 j hj
theorem c_markAgain {i f n : Nat} {Q : Sto → Prop} (hR : Rel T J) (hi : i < 8) (hfn : f + n ≤ 1000) (h : ∀ T', zLS T T' (zitA J i f n) i → Q T') : Cv K3_markAgain [vr (3 + 2 * i), vi (nI f), vi (nI n)] T Q := by
  refine e3_markAgain hR.f (hR.f.st hi) (fun X O => ?_)
  rw [stopV hfn]
  have loop : ∀ (m k : Nat) (T' : Sto), k + m = n → sN T ≤ sN T' → zLS T T' (zitA J i f k) i → WP X 10 [(0, vr (3 + 2 * i)), (3, vi (nI (f + n))), (4, vi (nI (f + k)))] [] T' 0 0 := by
    intro m
    induction m with
    | zero =>
      intro k T' hk hn hL
      refine s3_markAgain_10 (hL.fx hR.f) hn O ((hL.fx hR.f).st hi) ⟨fun _ => ?_, fun hc => ?_⟩
      · rw [show k = n by omega] at hL; exact h T' hL
      · rw [nI_leI (by omega) (by omega)] at hc; omega
    | succ m ih =>
      intro k T' hk hn hL
      have hj : f + k < 1000 := by omega
      have hF' := hL.fx hR.f
      obtain ⟨b, c, hb, hc2, eb, ec, er⟩ := hL.bit hj
      obtain ⟨k1, k2⟩ := bk b hb c hc2
      have c6 := hL.2.2.2.1.2.2.2.1
      have c7 := hL.2.2.2.1.2.2.2.2.1
      have hb3 : byt (zitA J i f k) i (f + k) = nI b := eb
      have hb4 : zitA J i f k 36 (1000 * i + (f + k)) = nI b := eb
      refine s3_markAgain_10 hF' hn O (hF'.st hi) ⟨fun hc => ?_, fun _ => ⟨ixN hj (by decide), ?_⟩⟩
      · rw [nI_leI (by omega) (by omega)] at hc; omega
      · rw [tnN (by omega), show 3 + 2 * i + 1 = 4 + 2 * i by omega, er, k1, nI_suc]
        refine ⟨fun n1 => ?_, fun y1 => ?_⟩
        · refine ih (k + 1) T' (by omega) hn ?_
          have e : zitA J i f (k + 1) = zitA J i f k := by
            show uJ (zitA J i f k) 36 (1000 * i + (f + k)) (if zitA J i f k 36 (1000 * i + (f + k)) = 1 then 2 else zitA J i f k 36 (1000 * i + (f + k))) = _
            rw [if_neg (by rw [hb4]; exact n1)]
            exact uJ_id
          rw [e]; exact hL
        · have e : zitA J i f (k + 1) = uJ (zitA J i f k) 36 (1000 * i + (f + k)) (nI 2) := by
            show uJ (zitA J i f k) 36 (1000 * i + (f + k)) (if zitA J i f k 36 (1000 * i + (f + k)) = 1 then 2 else zitA J i f k 36 (1000 * i + (f + k))) = _
            rw [if_pos (by rw [hb4]; exact y1)]
            rfl
          refine c_setK (T' := pI T' (3 + 2 * i) 7 _) hF' hi hj ?_
          rw [gI_ne (b := 4 + 2 * i) (by omega), er, bs b hb c hc2 2 (by decide)]
          refine ih (k + 1) _ (by omega) hn ?_
          rw [e]
          refine hL.set (n6 := cnt (byt (zitA J i f k) i) 3 1000) (n7 := cnt (byt (zitA J i f k) i) 2 1000 + 1) (x := 2) hi hj (by decide) rfl rfl (fun a a1 a2 => ?_) ?_ (fun q q1 q2 => ?_) ?_ ?_ ?_ ?_
          · rw [gI_pI, if_neg a2, gI_pI, if_neg a1]
          · rw [gI_pI, if_pos rfl, gI_pI, if_neg (by omega), ec]
          · rw [gI_pI, if_neg (by omega), gI_pI, if_pos rfl, upd_at, if_neg q2]
          · rw [gI_pI, if_neg (by omega), gI_pI, if_pos rfl, upd_at, if_neg (by decide), c6]
          · rw [gI_pI, if_neg (by omega), gI_pI, if_pos rfl, upd_at, if_pos rfl, c7]; exact nI_suc _
          · rw [hb3, y1, if_neg (by decide), if_neg (by decide)]
          · rw [hb3, y1, if_neg (by decide), if_pos (by decide)]
  exact loop n 0 T (by omega) (Nat.le_refl _) (zLS.of hR hi)
/-- next, where the last byte sent is further on -/
theorem max_nI {a b : Nat} (ha : a < 2 ^ 31) (hb : b < 2 ^ 31) : (if nI a < nI b then nI b else nI a) = nI (if a < b then b else a) := by
  by_cases q : a < b
  · rw [if_pos ((nI_ltI ha hb).mpr q), if_pos q]
  · rw [if_neg (fun z => q ((nI_ltI ha hb).mp z)), if_neg q]
theorem c_markSent {i f n : Nat} {Q : Sto → Prop} (hR : Rel T J) (hi : i < 8) (hfn : f + n ≤ 1000) (h3 : ∀ k, k < n → ¬ byt J i (f + k) = 3) (h : ∀ T', zLS T T' (uJ (zitB J i f 1 n) 31 i (if J 31 i < nI (f + n) then nI (f + n) else J 31 i)) i → Q T') : Cv K3_markSent [vr (3 + 2 * i), vi (nI f), vi (nI n)] T Q := by
  refine e3_markSent hR.f (hR.f.st hi) (fun X O => ?_)
  rw [stopV hfn]
  have e31 : ∀ k, zitB J i f 1 k 31 = J 31 := fun k => by
    induction k with
    | zero => rfl
    | succ k ih => exact (uJ_ne (by decide)).trans ih
  have loop : ∀ (m k : Nat) (T' : Sto), k + m = n → sN T ≤ sN T' → zLS T T' (zitB J i f 1 k) i → WP X 10 [(0, vr (3 + 2 * i)), (3, vi (nI (f + n))), (4, vi (nI (f + k)))] [] T' 0 0 := by
    intro m
    induction m with
    | zero =>
      intro k T' hk hn hL
      refine s3_markSent_10 (hL.fx hR.f) hn O ((hL.fx hR.f).st hi) ⟨fun _ => ?_, fun hc => ?_⟩
      · have e5 : gI T' (3 + 2 * i) 5 = J 31 i := (hL.2.2.2.1.1 5 (by decide)).trans (by show zitB J i f 1 k 31 i = _; rw [e31])
        rw [e5]
        have := hL.put (k := 5) (x := if J 31 i < nI (f + n) then nI (f + n) else J 31 i) (by decide)
        rw [show k = n by omega] at this
        exact h _ this
      · rw [nI_leI (by omega) (by omega)] at hc; omega
    | succ m ih =>
      intro k T' hk hn hL
      have hj : f + k < 1000 := by omega
      have hF' := hL.fx hR.f
      obtain ⟨b, c, hb, hc2, eb, ec, er⟩ := hL.bit hj
      obtain ⟨k1, k2⟩ := bk b hb c hc2
      have c6 := hL.2.2.2.1.2.2.2.1
      have c7 := hL.2.2.2.1.2.2.2.2.1
      have hb3 : byt (zitB J i f 1 k) i (f + k) = nI b := eb
      have hbJ : ∀ q, byt (zitB J i f 1 q) i (f + k) = byt J i (f + k) ∨ k < q := fun q => by
        induction q with
        | zero => exact Or.inl rfl
        | succ q ih =>
          rcases ih with ih | ih
          · by_cases e : q = k
            · exact Or.inr (by omega)
            · refine Or.inl ?_
              show byt (uJ (zitB J i f 1 q) 36 (1000 * i + (f + q)) 1) i (f + k) = _
              rw [byt_uJ, upd_at, if_neg (by omega)]; exact ih
          · exact Or.inr (by omega)
      have nb3 : ¬ nI b = 3 := by
        rcases hbJ k with q | q
        · rw [← hb3, q]; exact h3 k (by omega)
        · omega
      refine s3_markSent_10 hF' hn O (hF'.st hi) ⟨fun hc => ?_, fun _ => ⟨ixN hj (by decide), ?_⟩⟩
      · rw [nI_leI (by omega) (by omega)] at hc; omega
      · rw [tnN (by omega), show 3 + 2 * i + 1 = 4 + 2 * i by omega, er, k1, nI_suc]
        refine ⟨fun n2 => ?_, fun y2 => ?_⟩
        · refine c_setK (T' := T') (x := 1) hF' hi hj ?_
          rw [er, bs b hb c hc2 1 (by decide)]
          refine ih (k + 1) _ (by omega) hn (hL.set (n6 := cnt (byt (zitB J i f 1 k) i) 3 1000) (n7 := cnt (byt (zitB J i f 1 k) i) 2 1000) (x := 1) hi hj (by decide) rfl rfl (fun a a1 a2 => ?_) ?_ (fun q q1 q2 => ?_) ?_ ?_ ?_ ?_)
          · rw [gI_pI, if_neg a2]
          · rw [gI_pI, if_pos rfl, ec]
          · rw [gI_pI, if_neg (by omega)]
          · rw [gI_pI, if_neg (by omega), c6]
          · rw [gI_pI, if_neg (by omega), c7]
          · rw [hb3, if_neg nb3, if_neg (by decide)]
          · rw [hb3, if_neg n2, if_neg (by decide)]
        · have hp := cnt_pos (f := byt (zitB J i f 1 k) i) (x := 2) hj (hb3.trans y2)
          refine c_setK (T' := pI T' (3 + 2 * i) 7 _) (x := 1) hF' hi hj ?_
          rw [gI_ne (b := 4 + 2 * i) (by omega), er, bs b hb c hc2 1 (by decide)]
          refine ih (k + 1) _ (by omega) hn (hL.set (n6 := cnt (byt (zitB J i f 1 k) i) 3 1000) (n7 := cnt (byt (zitB J i f 1 k) i) 2 1000 - 1) (x := 1) hi hj (by decide) rfl rfl (fun a a1 a2 => ?_) ?_ (fun q q1 q2 => ?_) ?_ ?_ ?_ ?_)
          · rw [gI_pI, if_neg a2, gI_pI, if_neg a1]
          · rw [gI_pI, if_pos rfl, gI_pI, if_neg (by omega), ec]
          · rw [gI_pI, if_neg (by omega), gI_pI, if_pos rfl, upd_at, if_neg q2]
          · rw [gI_pI, if_neg (by omega), gI_pI, if_pos rfl, upd_at, if_neg (by decide), c6]
          · rw [gI_pI, if_neg (by omega), gI_pI, if_pos rfl, upd_at, if_pos rfl, c7]
            exact pk_sub (b := 1) (by omega)
          · rw [hb3, if_neg nb3, if_neg (by decide)]
          · rw [hb3, if_pos y2, if_neg (by decide)]; omega
  exact loop n 0 T (by omega) (Nat.le_refl _) (zLS.of hR hi)
/-- bytes first .. first + n - 1 have come -/
def zitC (J : Rows) (i first : Nat) : Nat → Rows
  | 0 => J
  | n + 1 => uJ (zitC J i first n) 37 (1000 * i + (first + n)) 1
/-- the first place from p on that holds nothing, m places at most -/
def zpf (f : Nat → Int32) : Nat → Nat → Nat
  | 0, p => p
  | m + 1, p => if f p = 0 then p else zpf f m (p + 1)
theorem zpf_le (f : Nat → Int32) : ∀ m p, p ≤ zpf f m p ∧ zpf f m p ≤ p + m
  | 0, p => ⟨Nat.le_refl _, Nat.le_refl _⟩
  | m + 1, p => by
    unfold zpf
    have := zpf_le f m (p + 1)
    split <;> omega
theorem uJ_uJ {a k : Nat} {x y : Int32} : uJ (uJ J a k x) a k y = uJ J a k y := by
  funext b
  by_cases e : b = a
  · subst e; funext j
    by_cases q : j = k
    · rw [uJ_eq, if_pos q, uJ_eq, if_pos q]
    · rw [uJ_eq, if_neg q, uJ_eq, if_neg q, uJ_eq, if_neg q]
  · rw [uJ_ne e, uJ_ne e, uJ_ne e]
theorem zLS.setC {T' T2 : Sto} {i j n10 : Nat} (h : zLS T T' J i) (hi : i < 8) (hj : j < 1000) (h1 : gR T2 = gR T') (h2 : sN T2 = sN T') (ho : ∀ a, a ≠ 3 + 2 * i → a ≠ 4 + 2 * i → gI T2 a = gI T' a)
    (hr : gI T2 (4 + 2 * i) = upd (gI T' (4 + 2 * i)) j (byt J i j + 4 * nI 1)) (hc : ∀ k, k ≠ 10 → gI T2 (3 + 2 * i) k = gI T' (3 + 2 * i) k) (c10 : gI T2 (3 + 2 * i) 10 = nI n10)
    (e10 : n10 + (if cam J i j = 1 then 1 else 0) = cnt (cam J i) 1 1000 + 1) : zLS T T2 (uJ J 37 (1000 * i + j) 1) i := by
  obtain ⟨g1, g2, g3, ⟨r1, r2, r3, r4, r5, r6⟩, g5⟩ := h
  have eb : byt (uJ J 37 (1000 * i + j) 1) i = byt J i := by funext k; unfold byt; rw [uJ_ne (by decide)]
  have ks : ∀ k ∈ ksS, k ≠ 10 := by decide
  refine ⟨h1.trans g1, h2.trans g2, fun a a1 a2 => (ho a a1 a2).trans (g3 a a1 a2), ⟨fun k hk => ?_, ?_, fun k hk => ?_, ?_, ?_, ?_⟩, fun k hk => ?_⟩
  · rw [hc k (ks k hk), r1 k hk]
    obtain ⟨q1, q2, q3, q4, -⟩ := rs_in k hk
    show J (rs k) i = uJ J 37 _ _ (rs k) i
    rw [uJ_ne q4]
  · rw [hc 9 (by decide), r2, uJ_ne (by decide), uJ_ne (by decide), uJ_ne (by decide)]
  · rw [hr, cam_uJ, eb, upd_at, upd_at]
    by_cases e : k = j
    · subst e; rw [if_pos rfl, if_pos rfl]; rfl
    · rw [if_neg e, if_neg e]; exact r3 k hk
  · rw [hc 6 (by decide), eb]; exact r4
  · rw [hc 7 (by decide), eb]; exact r5
  · rw [c10, cam_uJ]
    have := cnt_upd (f := cam J i) (x := 1) (y := 1) hj
    rw [if_pos rfl] at this
    congr 1; omega
  · rw [cam_uJ, eb, upd_at]
    refine ⟨(g5 k hk).1, ?_⟩
    by_cases e : k = j
    · rw [if_pos e]; exact Or.inr rfl
    · rw [if_neg e]; exact (g5 k hk).2
theorem c_markCame {i f n p : Nat} {Q : Sto → Prop} (hR : Rel T J) (hi : i < 8) (hfn : f + n ≤ 1000) (hp : p ≤ 1000) (h38 : J 38 i = nI p) (h : ∀ T', zLS T T' (uJ (zitC J i f n) 38 i (nI (zpf (cam (zitC J i f n) i) (1000 - p) p))) i → Q T') : Cv K3_markCame [vr (3 + 2 * i), vi (nI f), vi (nI n)] T Q := by
  refine e3_markCame hR.f (hR.f.st hi) (fun X O => ?_)
  rw [stopV hfn]
  have tail : ∀ (m q : Nat) (T' : Sto) (J' : Rows), q + m = 1000 → sN T ≤ sN T' → J' 38 i = nI q → zLS T T' J' i → (∀ T2, zLS T T2 (uJ J' 38 i (nI (zpf (cam J' i) m q))) i → Q T2) → WP X 61 [(0, vr (3 + 2 * i))] [] T' 0 0 := by
    intro m
    induction m with
    | zero =>
      intro q T' J' hq hn e38 hL k
      have e11 : gI T' (3 + 2 * i) 11 = nI q := (hL.2.2.2.1.1 11 (by decide)).trans e38
      refine s3_markCame_61 (hL.fx hR.f) hn O ((hL.fx hR.f).st hi) ?_
      rw [e11]
      refine ⟨fun _ => k T' ?_, fun hc => absurd (nle (N := 1000) (by omega) (by omega)) hc⟩
      show zLS T T' (uJ J' 38 i (nI q)) i
      rw [← e38, uJ_id]; exact hL
    | succ m ih =>
      intro q T' J' hq hn e38 hL k
      have e11 : gI T' (3 + 2 * i) 11 = nI q := (hL.2.2.2.1.1 11 (by decide)).trans e38
      have hj : q < 1000 := by omega
      obtain ⟨b, c, hb, hc2, eb, ec, er⟩ := hL.bit hj
      obtain ⟨k1, k2⟩ := bk b hb c hc2
      refine s3_markCame_61 (hL.fx hR.f) hn O ((hL.fx hR.f).st hi) ?_
      rw [e11, tnN (by omega), show 3 + 2 * i + 1 = 4 + 2 * i by omega, er, k2, nI_suc]
      refine ⟨fun hc => absurd hc (nge hj (by decide)), fun _ => ⟨ixN hj (by decide), fun z => ?_, fun nz => ?_⟩⟩
      · have hc0 : c = 0 := by
          rcases (show c = 0 ∨ c = 1 by omega) with e | e
          · exact e
          · subst e; exact absurd z (by decide)
        subst hc0
        refine k T' ?_
        have : zpf (cam J' i) (m + 1) q = q := by exact if_pos ec
        rw [this, ← e38, uJ_id]; exact hL
      · have hc1 : ¬ cam J' i q = 0 := by
          rcases (show c = 0 ∨ c = 1 by omega) with e | e
          · subst e; exact absurd (by decide) nz
          · subst e; rw [ec]; decide
        have e2 : cam (uJ J' 38 i (nI (q + 1))) i = cam J' i := by funext z; unfold cam; rw [uJ_ne (by decide)]
        refine ih (q + 1) _ (uJ J' 38 i (nI (q + 1))) (by omega) hn uJ_same (hL.put (k := 11) (by decide)) (fun T2 h2 => k T2 ?_)
        have : zpf (cam J' i) (m + 1) q = zpf (cam J' i) m (q + 1) := by
          show (if cam J' i q = 0 then q else zpf (cam J' i) m (q + 1)) = _
          rw [if_neg hc1]
        rw [this]
        rw [e2, uJ_uJ] at h2
        exact h2
  have e38 : ∀ k, zitC J i f k 38 = J 38 := fun k => by
    induction k with
    | zero => rfl
    | succ k ih => exact (uJ_ne (by decide)).trans ih
  have loop : ∀ (m k : Nat) (T' : Sto), k + m = n → sN T ≤ sN T' → zLS T T' (zitC J i f k) i → WP X 10 [(0, vr (3 + 2 * i)), (3, vi (nI (f + n))), (4, vi (nI (f + k)))] [] T' 0 0 := by
    intro m
    induction m with
    | zero =>
      intro k T' hk hn hL
      refine s3_markCame_10 (hL.fx hR.f) hn O ((hL.fx hR.f).st hi) ⟨fun _ => ?_, fun hc => ?_⟩
      · rw [show k = n by omega] at hL
        exact tail (1000 - p) p T' _ (by omega) hn (by rw [e38]; exact h38) hL h
      · rw [nI_leI (by omega) (by omega)] at hc; omega
    | succ m ih =>
      intro k T' hk hn hL
      have hj : f + k < 1000 := by omega
      have hF' := hL.fx hR.f
      obtain ⟨b, c, hb, hc2, eb, ec, er⟩ := hL.bit hj
      obtain ⟨k1, k2⟩ := bk b hb c hc2
      have c10 := hL.2.2.2.1.2.2.2.2.2
      have ec2 : cam (zitC J i f k) i (f + k) = nI c := ec
      have eb2 : byt (zitC J i f k) i (f + k) = nI b := eb
      refine s3_markCame_10 hF' hn O (hF'.st hi) ⟨fun hc => ?_, fun _ => ⟨ixN hj (by decide), ?_⟩⟩
      · rw [nI_leI (by omega) (by omega)] at hc; omega
      · rw [tnN (by omega), show 3 + 2 * i + 1 = 4 + 2 * i by omega, er, k2, nI_suc]
        refine ⟨fun nz => ?_, fun z => ?_⟩
        · have hc1 : c = 1 := by
            rcases (show c = 0 ∨ c = 1 by omega) with e | e
            · subst e; exact absurd (by decide) nz
            · exact e
          subst hc1
          refine ih (k + 1) T' (by omega) hn ?_
          have e : zitC J i f (k + 1) = zitC J i f k := by
            show uJ (zitC J i f k) 37 (1000 * i + (f + k)) 1 = _
            have e3 : zitC J i f k 37 (1000 * i + (f + k)) = 1 := ec2
            have := uJ_id (J := zitC J i f k) (a := 37) (k := 1000 * i + (f + k))
            rw [e3] at this; exact this
          rw [e]; exact hL
        · have hc0 : c = 0 := by
            rcases (show c = 0 ∨ c = 1 by omega) with e | e
            · exact e
            · subst e; exact absurd z (by decide)
          subst hc0
          rw [bc b hb]
          refine ih (k + 1) _ (by omega) hn (hL.setC (n10 := cnt (cam (zitC J i f k) i) 1 1000 + 1) hi hj rfl rfl (fun a a1 a2 => ?_) ?_ (fun q q1 => ?_) ?_ ?_)
          · rw [gI_pI, if_neg a1, gI_pI, if_neg a2]
          · rw [gI_pI, if_neg (by omega), gI_pI, if_pos rfl, eb2]
          · rw [gI_pI, if_pos rfl, upd_at, if_neg q1, gI_pI, if_neg (by omega)]
          · rw [gI_pI, if_pos rfl, upd_at, if_pos rfl, gI_pI, if_neg (by omega), c10]; exact nI_suc _
          · rw [ec2, if_neg (by decide)]
  exact loop n 0 T (by omega) (Nat.le_refl _) (zLS.of hR hi)
end BYTES2
