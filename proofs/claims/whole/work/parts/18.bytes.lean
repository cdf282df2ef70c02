theorem gI_ne {S : Sto} {a b k : Nat} {x : Int32} (h : b ≠ a) : gI (pI S a k x) b = gI S b := by rw [gI_pI, if_neg h]
theorem gI_eq {S : Sto} {a k : Nat} {x : Int32} : gI (pI S a k x) a = upd (gI S a) k x := by rw [gI_pI, if_pos rfl]
section BYTES
variable {T : Sto} {J : Rows}
theorem bk : ∀ b, b < 4 → ∀ c, c < 2 → ((nI b + 4 * nI c) &&& 3) = nI b ∧ ((nI b + 4 * nI c) &&& 4) = 4 * nI c := by decide
theorem bs : ∀ b, b < 4 → ∀ c, c < 2 → ∀ x, x < 4 → (((((nI b + 4 * nI c) &&& 4) ||| nI x) : Int32).toInt8.toInt32 : Int32).toInt8.toInt32 = nI x + 4 * nI c := by decide
theorem bc : ∀ b, b < 4 → (((((nI b + 4 * nI 0) ||| 4) : Int32).toInt8.toInt32 : Int32).toInt8.toInt32) = nI b + 4 * nI 1 := by decide
theorem uJ_id {a k : Nat} : uJ J a k (J a k) = J := by
  funext b
  by_cases e : b = a
  · subst e; funext j; rw [uJ_eq]; split <;> simp [*]
  · rw [uJ_ne e]
theorem byt_uJ {i j : Nat} {x : Int32} : byt (uJ J 36 (1000 * i + j) x) i = upd (byt J i) j x := by
  funext k
  unfold byt
  rw [uJ_eq, upd_at]
  by_cases e : k = j
  · subst e; rw [if_pos rfl, if_pos rfl]
  · rw [if_neg e, if_neg (by omega)]
theorem cam_uJ {i j : Nat} {x : Int32} : cam (uJ J 37 (1000 * i + j) x) i = upd (cam J i) j x := by
  funext k
  unfold cam
  rw [uJ_eq, upd_at]
  by_cases e : k = j
  · subst e; rw [if_pos rfl, if_pos rfl]
  · rw [if_neg e, if_neg (by omega)]
/-- one stream's cells alone have changed since T, and they are as J says -/
def zLS (T T' : Sto) (J : Rows) (i : Nat) : Prop :=
  gR T' = gR T ∧ sN T' = sN T ∧ (∀ a, a ≠ 3 + 2 * i → a ≠ 4 + 2 * i → gI T' a = gI T a) ∧ RSt (gI T' (3 + 2 * i)) (gI T' (4 + 2 * i)) J i ∧ ∀ j, j < 1000 → upTo (byt J i j) 3 ∧ is01 (cam J i j)
theorem zLS.of (h : Rel T J) {i : Nat} (hi : i < 8) : zLS T T J i := ⟨rfl, rfl, fun _ _ _ => rfl, h.s hi, (h.vs hi).2.2.2.2.2⟩
theorem Fx.same {S S' : Sto} (h : Fx S) (h1 : gR S' = gR S) (h2 : sN S' = sN S) : Fx S' := by
  unfold Fx al at h ⊢
  rw [h1, h2]
  exact h
theorem zLS.fx {T' : Sto} {i : Nat} (h : zLS T T' J i) (hF : Fx T) : Fx T' := hF.same h.1 h.2.1
theorem zLS.bit {T' : Sto} {i j : Nat} (h : zLS T T' J i) (hj : j < 1000) : ∃ b c, b < 4 ∧ c < 2 ∧ byt J i j = nI b ∧ cam J i j = nI c ∧ gI T' (4 + 2 * i) j = nI b + 4 * nI c := by
  obtain ⟨⟨b, hb, eb⟩, hc⟩ := h.2.2.2.2 j hj
  have h3 := h.2.2.2.1.2.2.1 j hj
  rcases hc with hc | hc
  · exact ⟨b, 0, by omega, by decide, eb, hc, by rw [h3, eb, hc]; rfl⟩
  · exact ⟨b, 1, by omega, by decide, eb, hc, by rw [h3, eb, hc]; rfl⟩
/-- byte j becomes x; the counters follow -/
theorem zLS.set {T' T2 : Sto} {i j x n6 n7 : Nat} (h : zLS T T' J i) (hi : i < 8) (hj : j < 1000) (hx : x < 4) (h1 : gR T2 = gR T') (h2 : sN T2 = sN T') (ho : ∀ a, a ≠ 3 + 2 * i → a ≠ 4 + 2 * i → gI T2 a = gI T' a)
    (hr : gI T2 (4 + 2 * i) = upd (gI T' (4 + 2 * i)) j (nI x + 4 * cam J i j)) (hc : ∀ k, k ≠ 6 → k ≠ 7 → gI T2 (3 + 2 * i) k = gI T' (3 + 2 * i) k) (c6 : gI T2 (3 + 2 * i) 6 = nI n6) (c7 : gI T2 (3 + 2 * i) 7 = nI n7)
    (e6 : n6 + (if byt J i j = 3 then 1 else 0) = cnt (byt J i) 3 1000 + (if nI x = 3 then 1 else 0)) (e7 : n7 + (if byt J i j = 2 then 1 else 0) = cnt (byt J i) 2 1000 + (if nI x = 2 then 1 else 0)) : zLS T T2 (uJ J 36 (1000 * i + j) (nI x)) i := by
  obtain ⟨g1, g2, g3, ⟨r1, r2, r3, r4, r5, r6⟩, g5⟩ := h
  have ec : cam (uJ J 36 (1000 * i + j) (nI x)) i = cam J i := by funext k; unfold cam; rw [uJ_ne (by decide)]
  have ks : ∀ k ∈ ksS, k ≠ 6 ∧ k ≠ 7 := by decide
  refine ⟨h1.trans g1, h2.trans g2, fun a a1 a2 => (ho a a1 a2).trans (g3 a a1 a2), ⟨fun k hk => ?_, ?_, fun k hk => ?_, ?_, ?_, ?_⟩, fun k hk => ?_⟩
  · rw [hc k (ks k hk).1 (ks k hk).2, r1 k hk]
    obtain ⟨q1, q2, q3, -⟩ := rs_in k hk
    show J (rs k) i = uJ J 36 _ _ (rs k) i
    rw [uJ_ne q3]
  · rw [hc 9 (by decide) (by decide), r2, uJ_ne (by decide), uJ_ne (by decide), uJ_ne (by decide)]
  · rw [hr, byt_uJ, ec, upd_at, upd_at]
    by_cases e : k = j
    · subst e; rw [if_pos rfl, if_pos rfl]
    · rw [if_neg e, if_neg e]; exact r3 k hk
  · rw [c6, byt_uJ]
    have := cnt_upd (f := byt J i) (x := 3) (y := nI x) hj
    congr 1; omega
  · rw [c7, byt_uJ]
    have := cnt_upd (f := byt J i) (x := 2) (y := nI x) hj
    congr 1; omega
  · rw [hc 10 (by decide) (by decide), ec]; exact r6
  · rw [byt_uJ, ec, upd_at]
    refine ⟨?_, (g5 k hk).2⟩
    by_cases e : k = j
    · rw [if_pos e]; exact ⟨x, by omega, rfl⟩
    · rw [if_neg e]; exact (g5 k hk).1
/-- bytes first .. first + n - 1 become x -/
def zitB (J : Rows) (i first : Nat) (x : Int32) : Nat → Rows
  | 0 => J
  | n + 1 => uJ (zitB J i first x n) 36 (1000 * i + (first + n)) x
def zitA (J : Rows) (i first : Nat) : Nat → Rows
  | 0 => J
  | n + 1 => uJ (zitA J i first n) 36 (1000 * i + (first + n)) (if zitA J i first n 36 (1000 * i + (first + n)) = 1 then 2 else zitA J i first n 36 (1000 * i + (first + n)))
theorem stopV {f n : Nat} (h : f + n ≤ 1000) : (if 0 ≤ nI f then (if (nI f + nI n) < 1000 then (nI f + nI n) else 1000) else nI f : Int32) = nI (f + n) := by
  rw [if_pos (nI_pos' (by omega)), nI_add]
  by_cases q : f + n < 1000
  · rw [if_pos (by rw [show (1000 : Int32) = nI 1000 from rfl, nI_ltI (by omega) (by decide)]; exact q)]
  · rw [if_neg (by rw [show (1000 : Int32) = nI 1000 from rfl, nI_ltI (by omega) (by decide)]; exact q), show f + n = 1000 by omega]; rfl
theorem nI_suc (a : Nat) : (nI a + 1 : Int32) = nI (a + 1) := nI_add a 1
theorem c_setK {T' : Sto} {i j x : Nat} {Q : Sto → Prop} (hF : Fx T') (hi : i < 8) (hj : j < 1000) (h : Q (pI T' (4 + 2 * i) j (((((gI T' (4 + 2 * i) j) &&& 4) ||| nI x) : Int32).toInt8.toInt32 : Int32).toInt8.toInt32)) : Cv K3_setSenderKnows [vr (3 + 2 * i), vi (nI j), vi (nI x)] T' Q := by
  have hix := ixN hj (by decide)
  refine e3_setSenderKnows hF (hF.st hi) ?_
  rw [tnN (by omega), show 3 + 2 * i + 1 = 4 + 2 * i by omega]
  first | exact ⟨hix, h⟩ | exact ⟨hix, hix, h⟩
theorem c_markArrived {i f n : Nat} {Q : Sto → Prop} (hR : Rel T J) (hi : i < 8) (hfn : f + n ≤ 1000) (h : ∀ T', zLS T T' (zitB J i f 3 n) i → Q T') : Cv K3_markArrived [vr (3 + 2 * i), vi (nI f), vi (nI n)] T Q := by
  refine e3_markArrived hR.f (hR.f.st hi) (fun X O => ?_)
  rw [stopV hfn]
  have loop : ∀ (m k : Nat) (T' : Sto), k + m = n → sN T ≤ sN T' → zLS T T' (zitB J i f 3 k) i → WP X 10 [(0, vr (3 + 2 * i)), (3, vi (nI (f + n))), (4, vi (nI (f + k)))] [] T' 0 0 := by
    intro m
    induction m with
    | zero =>
      intro k T' hk hn hL
      refine s3_markArrived_10 (hL.fx hR.f) hn O ((hL.fx hR.f).st hi) ⟨fun _ => ?_, fun hc => ?_⟩
      · rw [show k = n by omega] at hL; exact h T' hL
      · rw [nI_leI (by omega) (by omega)] at hc; omega
    | succ m ih =>
      intro k T' hk hn hL
      have hj : f + k < 1000 := by omega
      have hF' := hL.fx hR.f
      obtain ⟨b, c, hb, hc2, eb, ec, er⟩ := hL.bit hj
      obtain ⟨k1, k2⟩ := bk b hb c hc2
      have c6 := hL.2.2.2.1.2.2.2.1
      have c7 := hL.2.2.2.1.2.2.2.2.1
      have l6 := cnt_le (byt (zitB J i f 3 k) i) 3 1000
      have l7 := cnt_le (byt (zitB J i f 3 k) i) 2 1000
      have hb3 : byt (zitB J i f 3 k) i (f + k) = nI b := eb
      refine s3_markArrived_10 hF' hn O (hF'.st hi) ⟨fun hc => ?_, fun _ => ⟨ixN hj (by decide), ?_⟩⟩
      · rw [nI_leI (by omega) (by omega)] at hc; omega
      · rw [tnN (by omega), show 3 + 2 * i + 1 = 4 + 2 * i by omega, er, k1, nI_suc]
        refine ⟨fun n2 => ⟨fun y3 => ?_, fun n3 => ?_⟩, fun y2 => ⟨fun y3 => ?_, fun n3 => ?_⟩⟩
        · -- arrived before
          refine ih (k + 1) T' (by omega) hn ?_
          have e : zitB J i f 3 (k + 1) = zitB J i f 3 k := by
            show uJ (zitB J i f 3 k) 36 (1000 * i + (f + k)) 3 = _
            have e3 : zitB J i f 3 k 36 (1000 * i + (f + k)) = 3 := hb3.trans y3
            have := uJ_id (J := zitB J i f 3 k) (a := 36) (k := 1000 * i + (f + k))
            rw [e3] at this; exact this
          rw [e]; exact hL
        · refine c_setK (T' := pI T' (3 + 2 * i) 6 _) hF' hi hj ?_
          rw [gI_ne (b := 4 + 2 * i) (by omega), er, bs b hb c hc2 3 (by decide)]
          refine ih (k + 1) _ (by omega) hn (hL.set (n6 := cnt (byt (zitB J i f 3 k) i) 3 1000 + 1) (n7 := cnt (byt (zitB J i f 3 k) i) 2 1000) (x := 3) hi hj (by decide) rfl rfl (fun a a1 a2 => ?_) ?_ (fun q q1 q2 => ?_) ?_ ?_ ?_ ?_)
          · rw [gI_pI, if_neg a2, gI_pI, if_neg a1]
          · rw [gI_pI, if_pos rfl, gI_pI, if_neg (by omega), ec]
          · rw [gI_pI, if_neg (by omega), gI_pI, if_pos rfl, upd_at, if_neg q1]
          · rw [gI_pI, if_neg (by omega), gI_pI, if_pos rfl, upd_at, if_pos rfl, c6]; exact nI_suc _
          · rw [gI_pI, if_neg (by omega), gI_pI, if_pos rfl, upd_at, if_neg (by decide), c7]
          · rw [hb3, if_neg n3, if_pos (by decide)]
          · rw [hb3, if_neg n2, if_neg (by decide)]
        · rw [y2] at y3; exact absurd y3 (by decide)
        · have hp := cnt_pos (f := byt (zitB J i f 3 k) i) (x := 2) hj (hb3.trans y2)
          refine c_setK (T' := pI (pI T' (3 + 2 * i) 7 _) (3 + 2 * i) 6 _) hF' hi hj ?_
          rw [gI_ne (b := 4 + 2 * i) (by omega), gI_ne (b := 4 + 2 * i) (by omega), er, bs b hb c hc2 3 (by decide)]
          refine ih (k + 1) _ (by omega) hn (hL.set (n6 := cnt (byt (zitB J i f 3 k) i) 3 1000 + 1) (n7 := cnt (byt (zitB J i f 3 k) i) 2 1000 - 1) (x := 3) hi hj (by decide) rfl rfl (fun a a1 a2 => ?_) ?_ (fun q q1 q2 => ?_) ?_ ?_ ?_ ?_)
          · rw [gI_pI, if_neg a2, gI_pI, if_neg a1, gI_pI, if_neg a1]
          · rw [gI_pI, if_pos rfl, gI_pI, if_neg (by omega), gI_pI, if_neg (by omega), ec]
          · rw [gI_pI, if_neg (by omega), gI_pI, if_pos rfl, upd_at, if_neg q1, gI_pI, if_pos rfl, upd_at, if_neg q2]
          · rw [gI_pI, if_neg (by omega), gI_pI, if_pos rfl, upd_at, if_pos rfl, gI_pI, if_pos rfl, upd_at, if_neg (by decide), c6]; exact nI_suc _
          · rw [gI_pI, if_neg (by omega), gI_pI, if_pos rfl, upd_at, if_neg (by decide), gI_pI, if_pos rfl, upd_at, if_pos rfl, c7]
            exact pk_sub (b := 1) (by omega)
          · rw [hb3, if_neg n3, if_pos (by decide)]
          · rw [hb3, if_pos y2, if_neg (by decide)]; omega
  exact loop n 0 T (by omega) (Nat.le_refl _) (zLS.of hR hi)
end BYTES
