section LOOK2
variable {T : Sto} {J : Rows}
theorem pI_id {a k : Nat} : pI T a k (gI T a k) = T := by
  obtain ⟨n, i, r⟩ := T
  show (n, (fun b => if b = a then upd (i a) k (i a k) else i b), r) = (n, i, r)
  congr 2
  funext b
  by_cases e : b = a
  · subst e
    rw [if_pos rfl]
    funext j
    rw [upd_at]
    by_cases q : j = k
    · rw [if_pos q, q]
    · rw [if_neg q]
  · rw [if_neg e]
theorem Rel.settle {d s : Nat} (h : Rel T J) (hd : d < 2) (hs : s ≤ num J d) (hc : ∀ n, n < s → J 70 (300 * d + n) = 0 ∨ J 71 (300 * d + n) = 1 ∨ J 72 (300 * d + n) = 1) : Rel (pI T (20 + 3 * d) 4 (nI s)) J := by
  refine h.sid (d := d) h.f rfl rfl (fun a h1 h2 => by rw [gI_pI, if_neg h1]) hd ⟨fun _ _ _ => rfl, fun _ _ _ => rfl, fun _ _ _ _ _ => rfl, rfl⟩ ?_ (h.vd hd)
  rw [gI_eq, gI_ne (b := 22 + 3 * d) (by omega)]
  obtain ⟨h1, h2, h3, h4, ⟨t, h5, h6, h7⟩, -⟩ := h.d hd
  have ks : ∀ k ∈ ksD, k ≠ 4 := by decide
  refine ⟨fun k hk => ?_, h2, ?_, ?_, ⟨t, h5, ?_, h7⟩, s, ?_, ⟨Nat.le_trans hs (h.nle hd), hs⟩, hc⟩
  · rw [upd_at, if_neg (ks k hk)]; exact h1 k hk
  · rw [upd_at, if_neg (by decide)]; exact h3
  · rw [upd_at, if_neg (by decide)]; exact h4
  · rw [upd_at, if_neg (by decide)]; exact h6
  · rw [upd_at, if_pos rfl]
theorem c_packetAt {d n p : Nat} {Q : Option Nat → Sto → Prop} (hR : Rel T J) (hd : d < 2) (hn : n < num J d) (hp : gR T (21 + 3 * d) n = some p) (h : Q (some p) T) : Co K2_packetAt [vr (20 + 3 * d), vi (nI n)] T Q := by
  have n3 := hR.nle hd
  have e3 : gI T (20 + 3 * d) 3 = nI (num J d) := ((hR.d hd).1 3 (by decide)).trans (hR.vd hd).nm.1
  refine e2_packetAt hR.f (hR.f.sd hd) ⟨fun hc => ?_, fun _ => ⟨fun hc => ?_, fun _ => ⟨fun _ => ⟨ixN (by omega) (by decide), ?_⟩, fun hc => ?_⟩⟩⟩
  · rw [show (0 : Int32) = nI 0 from rfl, nI_ltI (by omega) (by omega)] at hc; omega
  · rw [e3, nI_leI (by omega) (by omega)] at hc; omega
  · rw [tnN (by omega), show 20 + 3 * d + 1 = 21 + 3 * d by omega, hp]; exact h
  · rw [show (300 : Int32) = nI 300 from rfl, nI_ltI (by omega) (by omega)] at hc; omega
theorem inF {a b c : Int32} : ((if a = 0 then 0 else (if b = 0 then (if c = 0 then 1 else 0 : Int32) else 0 : Int32) : Int32) = 0) ↔ (a = 0 ∨ ¬ b = 0 ∨ ¬ c = 0) := by
  by_cases h1 : a = 0
  · simp [h1]
  · by_cases h2 : b = 0
    · by_cases h3 : c = 0
      · simp [h1, h2, h3]
      · simp [h1, h2, h3]
    · simp [h1, h2]
theorem spLL_skip {d s : Nat} {hi lim : Int32} (hc : ∀ n, n < s → J 70 (300 * d + n) = 0 ∨ J 71 (300 * d + n) = 1 ∨ J 72 (300 * d + n) = 1) : ∀ n, n ≤ s → spLL J d hi lim n = J := by
  intro n
  induction n with
  | zero => intro _; rfl
  | succ n ih =>
    intro hn
    have h1 := ih (by omega)
    unfold spLL
    rw [h1, if_pos]
    rcases hc n (by omega) with q | q | q
    · exact Or.inl q
    · exact Or.inr (Or.inl (by rw [q]; decide))
    · exact Or.inr (Or.inr (Or.inl (by rw [q]; decide)))
theorem spLL_done {d : Nat} {hi lim : Int32} : ∀ k n, n < k → nI (n + 3) ≤ hi → spLL J d hi lim k 70 (300 * d + n) = 0 ∨ ¬ spLL J d hi lim k 71 (300 * d + n) = 0 ∨ ¬ spLL J d hi lim k 72 (300 * d + n) = 0 := by
  intro k
  induction k with
  | zero => intro n hn; omega
  | succ k ih =>
    intro n hn hh
    unfold spLL
    by_cases q : skipL (spLL J d hi lim k) d hi lim k
    · rw [if_pos q]
      by_cases e : n = k
      · subst e
        rcases q with q | q | q | q
        · exact Or.inl q
        · exact Or.inr (Or.inl q)
        · exact Or.inr (Or.inr q)
        · exact absurd hh q.1
      · exact ih n (by omega) hh
    · rw [if_neg q, spLose_72, spLose_ne (r := 70) (by decide), spLose_ne (r := 71) (by decide), upd_at]
      by_cases e : n = k
      · subst e; rw [if_pos rfl]; exact Or.inr (Or.inr (by decide))
      · rw [if_neg (by omega)]; exact ih n (by omega) hh
theorem Rel.pk01 {d n : Nat} (h : Rel T J) (hd : d < 2) (hn : n < num J d) : is01 (J 70 (300 * d + n)) ∧ is01 (J 71 (300 * d + n)) ∧ is01 (J 72 (300 * d + n)) ∧ is01 (J 73 (300 * d + n)) := by
  obtain ⟨⟨a, b, c, e, -⟩, -⟩ := h.pk hd hn
  exact ⟨a, b, c, e⟩
theorem is1 {x : Int32} (h : is01 x) (n : ¬ x = 0) : x = 1 := h.resolve_left n
theorem c_lookForLost {d : Nat} {Q : Sto → Prop} (hR : Rel T J) (hd : d < 2) (h : ∀ T', Ev T T' → Rel T' (spLook J d) → Q T') : Cv K4_lookForLost [vr 0, vr (20 + 3 * d)] T Q := by
  refine e4_lookForLost hR.f (hR.f.sd hd) (fun X O => ?_)
  have e5 : gI T (20 + 3 * d) 5 = J 54 d := (hR.d hd).1 5 (by decide)
  have p4 : gI T (20 + 3 * d + 2) 4 = J 49 d := by rw [show 20 + 3 * d + 2 = 22 + 3 * d by omega]; exact (hR.d hd).2.1 4 (by decide)
  have p5 : gI T (20 + 3 * d + 2) 5 = J 50 d := by rw [show 20 + 3 * d + 2 = 22 + 3 * d by omega]; exact (hR.d hd).2.1 5 (by decide)
  obtain ⟨-, -, -, -, -, s, e4, s3, sc⟩ := hR.d hd
  rw [e5, p4, p5, e4]
  show WP X 19 [(0, vr 0), (1, vr (20 + 3 * d)), (2, vi (J 54 d)), (3, vi (lmt J d)), (4, vi (nI s))] [] T 0 0
  have h0 : spLook J d = spLL J d (J 54 d) (lmt J d) (ntn (J 54 d)) := rfl
  rcases (hR.vd hd).2.2.2.2.2.2.1 with h6 | ⟨hi, hi1, h6⟩
  · rw [h6] at h0
    rw [h6]
    refine s4_lookForLost_19 hR.f (Nat.le_refl _) O (hR.f.sd hd) ⟨fun _ => ?_, fun hc => ?_⟩
    · have e : (if gI T (20 + 3 * d) 4 < (-6 - 2) then (-6 - 2) else gI T (20 + 3 * d) 4 : Int32) = gI T (20 + 3 * d) 4 := by
        rw [if_neg]
        rw [e4, Int32.lt_iff_toInt_lt, nI_toInt (by omega)]
        have : (-6 - 2 : Int32).toInt = -8 := by decide
        omega
      rw [e, pI_id]
      exact h T Ev.rf (by rw [h0]; exact hR)
    · refine absurd ?_ hc
      rw [Int32.le_iff_toInt_le, nI_toInt (by omega)]
      have : (-6 : Int32).toInt = -6 := by decide
      omega
  · have n3 := hR.nle hd
    rw [h6] at h0 ⊢
    rw [show ntn (nI hi) = hi from ntn_nI (by omega)] at h0
    generalize lmt J d = lim at h0 ⊢
    have fin : ∀ T', Ev T T' → Rel T' (spLL J d (nI hi) lim hi) → Q (pI T' (20 + 3 * d) 4 (if gI T' (20 + 3 * d) 4 < (nI hi - 2) then (nI hi - 2) else gI T' (20 + 3 * d) 4)) := by
      intro T' E R
      obtain ⟨-, -, -, -, -, s2, e42, s32, sc2⟩ := R.d hd
      rw [e42]
      by_cases q : nI s2 < nI hi - 2
      · rw [if_pos q]
        have h2 : 2 ≤ hi := by
          rcases Nat.lt_or_ge hi 2 with z | z
          · exfalso
            rw [Int32.lt_iff_toInt_lt, nI_toInt (by omega)] at q
            rcases (show hi = 0 ∨ hi = 1 by omega) with rfl | rfl
            · have : (nI 0 - 2 : Int32).toInt = -2 := by decide
              omega
            · have : (nI 1 - 2 : Int32).toInt = -1 := by decide
              omega
          · exact z
        rw [show (nI hi - 2 : Int32) = nI (hi - 2) from pk_sub h2]
        have nn : num (spLL J d (nI hi) lim hi) d = num J d := num_of (by rw [spLL_ne (r := 44) (by decide)])
        refine h _ (E.p (by omega)) (h0 ▸ R.settle hd (by omega) (fun n hn => ?_))
        have hnn : n < num (spLL J d (nI hi) lim hi) d := by rw [num_of (spLL_ne (r := 44) (by decide) ▸ rfl : spLL J d (nI hi) lim hi 44 d = J 44 d)]; omega
        obtain ⟨-, i1, i2, -⟩ := R.pk01 hd hnn
        rcases spLL_done (J := J) (d := d) (hi := nI hi) (lim := lim) hi n (by omega) ((nI_leI (by omega) (by omega)).mpr (by omega)) with z | z | z
        · exact Or.inl z
        · exact Or.inr (Or.inl (is1 i1 z))
        · exact Or.inr (Or.inr (is1 i2 z))
      · rw [if_neg q]
        exact h _ (E.p (by omega)) (by rw [h0]; exact R.settle hd s32.2 sc2)
    rcases Nat.lt_or_ge s hi with hs | hs
    · have loop : ∀ (j k : Nat) (T' : Sto), k + j = hi → Ev T T' → Rel T' (spLL J d (nI hi) lim k) → WP X 19 [(0, vr 0), (1, vr (20 + 3 * d)), (2, vi (nI hi)), (3, vi lim), (4, vi (nI k))] [] T' 0 0 := by
        intro j
        induction j with
        | zero =>
          intro k T' hk E R
          have hkm : k = hi := by omega
          subst hkm
          refine s4_lookForLost_19 R.f (by rw [E.2.1]; exact Nat.le_refl _) O (R.f.sd hd) ⟨fun _ => fin T' E R, fun hc => absurd (nle (Nat.le_refl _) (by omega)) hc⟩
        | succ j ih =>
          intro k T' hk E R
          have c44 : num (spLL J d (nI hi) lim k) d = num J d := num_of (by rw [spLL_ne (r := 44) (by decide)])
          have hkn : k < num (spLL J d (nI hi) lim k) d := by rw [c44]; omega
          obtain ⟨hv, p, hp, hal, hK⟩ := R.pk hd hkn
          have g9 : gI T' p 9 = spLL J d (nI hi) lim k 70 (300 * d + k) := hK.1 9 (by decide)
          have g10 : gI T' p 10 = spLL J d (nI hi) lim k 71 (300 * d + k) := hK.1 10 (by decide)
          have g11 : gI T' p 11 = spLL J d (nI hi) lim k 72 (300 * d + k) := hK.1 11 (by decide)
          have g2 : gI T' p 2 = spLL J d (nI hi) lim k 66 (300 * d + k) := hK.1 2 (by decide)
          have g4 : gI T' 0 4 = spLL J d (nI hi) lim k 26 3 := R.g 4 (by decide)
          have sk : skipL (spLL J d (nI hi) lim k) d (nI hi) lim k → WP X 19 [(0, vr 0), (1, vr (20 + 3 * d)), (2, vi (nI hi)), (3, vi lim), (4, vi (nI k + 1))] [] T' 0 0 := fun q => by
            rw [nI_suc]
            refine ih (k + 1) T' (by omega) E ?_
            unfold spLL
            rw [if_pos q]; exact R
          have ls : ¬ skipL (spLL J d (nI hi) lim k) d (nI hi) lim k → Cv K4_lose [vr 0, vr (20 + 3 * d), vr p] T' (fun S9 => WP X 19 [(0, vr 0), (1, vr (20 + 3 * d)), (2, vi (nI hi)), (3, vi lim), (4, vi (nI k + 1))] [] S9 0 0) := fun q => by
            refine c_lose R hd hkn hp (fun T2 E2 R2 => ?_)
            rw [nI_suc]
            refine ih (k + 1) T2 (by omega) (E.tr E2) ?_
            unfold spLL
            rw [if_neg q]; exact R2
          refine s4_lookForLost_19 R.f (by rw [E.2.1]; exact Nat.le_refl _) O (R.f.sd hd) ⟨fun hc => ?_, fun _ => ?_⟩
          · rw [nI_leI (by omega) (by omega)] at hc; omega
          · refine c_packetAt R hd hkn hp ⟨fun b hb => by cases hb; exact hal, fun b hb => ?_, fun hb => by cases hb⟩
            cases hb
            rw [g9, g10, g11, g2, g4, inF]
            refine ⟨fun q => sk ?_, fun q => ⟨fun q2 => ls ?_, fun q2 => ⟨fun q3 => sk ?_, fun q3 => ls ?_⟩⟩⟩
            · rcases q with q | q | q
              · exact Or.inl q
              · exact Or.inr (Or.inl q)
              · exact Or.inr (Or.inr (Or.inl q))
            · rw [show (nI k + 3 : Int32) = nI (k + 3) from nI_add k 3] at q2
              rintro (z | z | z | z)
              · exact q (Or.inl z)
              · exact q (Or.inr (Or.inl z))
              · exact q (Or.inr (Or.inr z))
              · exact z.1 q2
            · rw [show (nI k + 3 : Int32) = nI (k + 3) from nI_add k 3] at q2
              exact Or.inr (Or.inr (Or.inr ⟨q2, q3⟩))
            · rintro (z | z | z | z)
              · exact q (Or.inl z)
              · exact q (Or.inr (Or.inl z))
              · exact q (Or.inr (Or.inr z))
              · exact q3 z.2
      exact loop (hi - s) s T (by omega) Ev.rf (by rw [spLL_skip sc s (Nat.le_refl _)]; exact hR)
    · refine s4_lookForLost_19 hR.f (Nat.le_refl _) O (hR.f.sd hd) ⟨fun _ => fin T Ev.rf (by rw [spLL_skip sc hi hs]; exact hR), fun hc => absurd (nle hs (by omega)) hc⟩
end LOOK2
