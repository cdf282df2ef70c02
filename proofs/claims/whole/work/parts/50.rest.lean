section REST
variable {T : Sto} {J : Rows}
/-- whose turn it is -/
def tOf (J : Rows) (d : Nat) : Nat := ((ntn (J 61 d) - d) / 2 + 1) % 4
def stN (d t j : Nat) : Nat := d + 2 * ((t + j) % 4)
def spBys (J : Rows) (d q t : Nat) : Nat → Rows
  | 0 => J
  | j + 1 => spByt (spBys J d q t j) d q (stN d t j)
theorem stN_lt {d t j : Nat} (hd : d < 2) : stN d t j < 8 := by unfold stN; omega
theorem Rel.tof {d : Nat} (h : Rel T J) (hd : d < 2) : tOf J d < 4 ∧ gI T (20 + 3 * d) 13 = nI (tOf J d) ∧ J 61 d = nI (d + 2 * ((tOf J d + 3) % 4)) := by
  obtain ⟨t, t1, t2, t3⟩ := (h.d hd).2.2.2.2.1
  have e : tOf J d = t := by
    unfold tOf
    rw [t3, ntn_nI (by omega)]; omega
  rw [e]; exact ⟨t1, t2, t3⟩
theorem Rel.turn {d t' : Nat} (h : Rel T J) (hd : d < 2) (ht : t' < 4) : Rel (pI T (20 + 3 * d) 13 (nI t')) (uJ J 61 d (nI (d + 2 * ((t' + 3) % 4)))) := by
  have e : ∀ r, r ≠ 61 → uJ J 61 d (nI (d + 2 * ((t' + 3) % 4))) r = J r := fun r h1 => uJ_ne h1
  refine h.sid (d := d) h.f rfl rfl (fun a h1 h2 => by rw [gI_pI, if_neg h1]) hd ⟨fun r a b => e r (by omega), fun r a b => e r (by omega), fun r d' a b c => uJ_off _ _ (Or.inr c), e 44 (by decide)⟩ ?_ ((h.vd hd).free (r := 61) (by decide) hd)
  rw [gI_eq, gI_ne (b := 22 + 3 * d) (by omega)]
  obtain ⟨h1, h2, h3, h4, -, s, h8, h9, h10⟩ := h.d hd
  have ks : ∀ k ∈ ksD, k ≠ 13 ∧ rd k ≠ 61 := by decide
  have kp : ∀ k ∈ ksP, rp k ≠ 61 := by decide
  refine ⟨fun k hk => ?_, fun k hk => ?_, ?_, ?_, ⟨t', ht, ?_, ?_⟩, s, ?_, ⟨h9.1, by unfold num at h9 ⊢; rw [e 44 (by decide)]; exact h9.2⟩, ?_⟩
  · show upd _ 13 (nI t') k = uJ J 61 d _ (rd k) d
    rw [upd_at, if_neg (ks k hk).1, e _ (ks k hk).2]; exact h1 k hk
  · show gI T (22 + 3 * d) k = uJ J 61 d _ (rp k) d
    rw [e _ (kp k hk)]; exact h2 k hk
  · rw [upd_at, if_neg (by decide)]; exact h3
  · rw [upd_at, if_neg (by decide), e 64 (by decide), e 65 (by decide)]; exact h4
  · rw [upd_at, if_pos rfl]
  · exact uJ_same
  · rw [upd_at, if_neg (by decide)]; exact h8
  · intro n hn
    rw [e 70 (by decide), e 71 (by decide), e 72 (by decide)]; exact h10 n hn
theorem FQ.turn {d p q m s : Nat} (h : FQ T J d p q m) (hd : d < 2) (hs : s < 4) : FQ (pI T (20 + 3 * d) 13 (nI ((s + 1) % 4))) (uJ J 61 d (nI (d + 2 * s))) d p q m := by
  have R := h.2.1.turn hd (t' := (s + 1) % 4) (by omega)
  rw [show ((s + 1) % 4 + 3) % 4 = s by omega] at R
  exact h.put R (by omega) (by decide)
theorem EQ.byt {d q M s : Nat} (h : EQ J d q M) (hd : d < 2) (hM : M < 16) (hs : s < 4) : EQ (spByt J d q (d + 2 * s)) d q (M + 1) := by
  unfold spByt
  split
  · rename_i hok
    obtain ⟨T', p, m, hm, F⟩ := h.b1 hd hM (i := d + 2 * s) (by omega) hok
    exact ⟨_, p, m, hm, F.turn hd hs⟩
  · obtain ⟨T', p, m, hm, F⟩ := h
    exact ⟨T', p, m, by omega, F⟩
theorem EQ.bys {d q M t : Nat} (h : EQ J d q M) (hd : d < 2) : ∀ j, j ≤ 4 → M + j ≤ 16 → EQ (spBys J d q t j) d q (M + j) := fun j => by
  induction j with
  | zero => exact fun _ _ => h
  | succ j ih => exact fun a b => (ih (by omega) (by omega)).byt hd (by omega) (Nat.mod_lt _ (by decide))
theorem tmod (t j : Nat) (ht : t < 4) (hj : j < 4) : (nI t + nI j - (nI t + nI j) / 4 * 4 : Int32) = nI ((t + j) % 4) := by
  have t' : ∀ t, t < 4 → ∀ j, j < 4 → (nI t + nI j - (nI t + nI j) / 4 * 4 : Int32) = nI ((t + j) % 4) := by decide
  exact t' t ht j hj
theorem tmod1 (s : Nat) (hs : s < 4) : (nI s + 1 - (nI s + 1) / 4 * 4 : Int32) = nI ((s + 1) % 4) := by
  have t' : ∀ s, s < 4 → (nI s + 1 - (nI s + 1) / 4 * 4 : Int32) = nI ((s + 1) % 4) := by decide
  exact t' s hs
theorem c_addBytes {d p q m n4 : Nat} {Q : Sto → Prop} (h4 : n4 = 4) (h : FQ T J d p q m) (hd : d < 2) (hm : m + 4 ≤ 16) (hQ : ∀ T' m', Ev T T' → m' ≤ m + 4 → FQ T' (spBys J d q (tOf J d) n4) d p q m' → Q T') : Cv K4_addBytes [vr 0, vr (20 + 3 * d), vr p] T Q := by
  have hR := h.2.1
  obtain ⟨t1, t2, t3⟩ := hR.tof hd
  refine e4_addBytes hR.f (hR.f.sd hd) h.2.2.1.1 (fun X O => ?_)
  rw [t2]
  have loop : ∀ (b j : Nat) (U : Sto) (m' : Nat), j + b = n4 → m' ≤ m + j → Ev T U → FQ U (spBys J d q (tOf J d) j) d p q m' → WP X 8 [(0, vr 0), (1, vr (20 + 3 * d)), (2, vr p), (3, vi (nI (tOf J d))), (4, vi (nI j))] [] U 0 0 := by
    intro b
    induction b with
    | zero =>
      intro j U m' hj hm' E F
      obtain rfl : j = n4 := by omega
      exact s4_addBytes_8 F.2.1.f (by rw [E.2.1]; exact Nat.le_refl _) O (F.2.1.f.sd hd) F.2.2.1.1 ⟨fun _ => hQ U m' E (by omega) F, fun hc => absurd (nle (N := 4) (by omega) (by omega)) hc⟩
    | succ b ih =>
      intro j U m' hj hm' E F
      have R := F.2.1
      have g0 : gI U (20 + 3 * d) 0 = nI d := (R.d hd).2.2.1
      have hi : stN d (tOf J d) j < 8 := stN_lt hd
      refine s4_addBytes_8 R.f (by rw [E.2.1]; exact Nat.le_refl _) O (R.f.sd hd) F.2.2.1.1 ⟨fun hc => absurd hc (nge (N := 4) (by omega) (by decide)), fun _ => ?_⟩
      rw [g0, tmod _ _ t1 (by omega), show (2 : Int32) = nI 2 from rfl, pk_mul, nI_add, nI_suc]
      have st : ∀ (V : Sto) (m'' : Nat), m'' ≤ m + (j + 1) → Ev T V → FQ V (spByt (spBys J d q (tOf J d) j) d q (stN d (tOf J d) j)) d p q m'' → WP X 8 [(0, vr 0), (1, vr (20 + 3 * d)), (2, vr p), (3, vi (nI (tOf J d))), (4, vi (nI (j + 1)))] [] V 0 0 := fun V m'' a b c => ih (j + 1) V m'' (by omega) a b c
      unfold spByt at st
      refine c_addBytesOf (i := stN d (tOf J d) j) F hd (by omega) hi (fun hok => ⟨fun _ => ?_, fun z => absurd rfl z⟩) (fun hok V E2 sd F2 => ⟨fun z => absurd z (by decide), fun _ => ?_⟩)
      · rw [if_neg hok] at st
        exact st U m' (by omega) E F
      · rw [if_pos hok] at st
        rw [tmod1 _ (Nat.mod_lt _ (by decide))]
        exact st _ (m' + 1) (by omega) ((E.tr E2).p (by omega)) (F2.turn hd (Nat.mod_lt _ (by decide)))
  exact loop n4 0 T m (by omega) (by omega) Ev.rf h
/-! the probe -/
def spPng (J : Rows) (d q : Nat) : Rows := if J 53 d = 0 then J else if ¬ J 70 q = 0 then J else if fits J q (nI 1) then spPut J q 8 (nI 1) 0 0 0 else J
theorem FQ.png {d p q m : Nat} (h : FQ T J d p q m) (hd : d < 2) (h70 : J 70 q = 0) (hf : fits J q (nI 1)) : FQ (adS T p m 8 (nI 1) 0 0 0 (J 68 q)) (spPut J q 8 (nI 1) 0 0 0) d p q (m + 1) :=
  h.add hd (by have := h.2.2.2.2 h70; omega) (z := 1) (by decide) hf (kind := 8) (a := 0) (b := 0) (c := 0) (Or.inr (Or.inr (Or.inr (Or.inr (Or.inr (Or.inr (Or.inr ⟨rfl, rfl, rfl, rfl⟩))))))) (by decide)
theorem EQ.png {d q M : Nat} (h : EQ J d q M) (hd : d < 2) (hM : M ≤ 16) : ∃ m, m ≤ 16 ∧ EQ (spPng J d q) d q m := by
  obtain ⟨T, p, m, hm, F⟩ := h
  unfold spPng
  split
  · exact ⟨m, by omega, T, p, m, Nat.le_refl _, F⟩
  split
  · exact ⟨m, by omega, T, p, m, Nat.le_refl _, F⟩
  rename_i h70
  have h70' : J 70 q = 0 := Classical.not_not.mp h70
  have m1 := F.2.2.2.2 h70'
  split
  · rename_i hf
    exact ⟨m + 1, by omega, _, p, m + 1, Nat.le_refl _, F.png hd h70' hf⟩
  · exact ⟨m, by omega, T, p, m, Nat.le_refl _, F⟩
/-! all but TOLD -/
def spRes (J : Rows) (d q n4 : Nat) : Rows := spCuts (spAll (spBnds (spAsk (spAns J d q) d q) q (1 - d) n4) d q) q d n4
def spRest (J : Rows) (d q n4 : Nat) : Rows := spPng (spBys (spRes J d q n4) d q (tOf (spRes J d q n4) d) n4) d q
theorem EQ.res {d q M n4 : Nat} (h4 : n4 = 4) (h : EQ J d q M) (hd : d < 2) (hM : M ≤ 1) : EQ (spRes J d q n4) d q (M + 11) := by
  have := ((((h.ans hd (by omega)).ask hd (by omega)).bnds hd (i := 1 - d) (by omega) n4 (by omega) (by omega)).all hd (by omega)).cuts hd (i := d) hd n4 (by omega) (by omega)
  obtain ⟨T, p, m, hm, F⟩ := this
  exact ⟨T, p, m, by omega, F⟩
theorem EQ.rest {d q M n4 : Nat} (h4 : n4 = 4) (h : EQ J d q M) (hd : d < 2) (hM : M ≤ 1) : ∃ m, m ≤ 16 ∧ EQ (spRest J d q n4) d q m := by
  exact ((h.res h4 hd hM).bys hd n4 (by omega) (by omega)).png hd (by omega)
theorem c_rest {d p q m n4 : Nat} {Q : Sto → Prop} (h4 : n4 = 4) (h : FQ T J d p q m) (hd : d < 2) (hm : m ≤ 1) (hQ : ∀ T' m', Ev T T' → FQ T' (spRest J d q n4) d p q m' → Q T') :
    Cv K4_addAnswerAndAsk [vr 0, vr (20 + 3 * d), vr p] T (fun S4 => Cv K4_addBounds [vr 0, vr (20 + 3 * d), vr p] S4 (fun S5 => Cv K4_addCutOffs [vr 0, vr (20 + 3 * d), vr p] S5 (fun S6 => Cv K4_addBytes [vr 0, vr (20 + 3 * d), vr p] S6 (fun S7 => ((gI S7 (20 + 3 * d + 2) 8) = 0 → (Q S7)) ∧ (¬ (gI S7 (20 + 3 * d + 2) 8) = 0 → ((¬ (gI S7 p 9) = 0 → (Q S7)) ∧ ((gI S7 p 9) = 0 → (Ci K1_add [vr p, vi 8, vi 0, vi 0, vi 0] S7 (fun x10 S10 => Q S10))))))))) := by
  have p79 := h.p79
  refine c_addAA h hd (by omega) (fun T1 m1 E1 hm1 F1 => c_addBounds h4 F1 hd (by omega) (fun T2 m2 E2 hm2 F2 => c_addCutOffs h4 F2 hd (by omega) (fun T3 m3 E3 hm3 F3 => c_addBytes h4 F3 hd (by omega) (fun T4 m4 E4 hm4 F4 => ?_))))
  have E := ((E1.tr E2).tr E3).tr E4
  have e8 : gI T4 (20 + 3 * d + 2) 8 = spBys (spRes J d q n4) d q (tOf (spRes J d q n4) d) n4 53 d := by
    rw [show 20 + 3 * d + 2 = 22 + 3 * d by omega]; exact (F4.2.1.d hd).2.1 8 (by decide)
  have e9 : gI T4 p 9 = spBys (spRes J d q n4) d q (tOf (spRes J d q n4) d) n4 70 q := by
    have := F4.2.2.1.2.2.2.2.2.2.2.1.2.2.2
    rw [← F4.1] at this
    exact this
  rw [e8, e9]
  have F4' : FQ T4 (spBys (spRes J d q n4) d q (tOf (spRes J d q n4) d) n4) d p q m4 := F4
  unfold spRest at hQ
  revert F4' hQ
  generalize spBys (spRes J d q n4) d q (tOf (spRes J d q n4) d) n4 = K
  intro hQ F4'
  unfold spPng at hQ
  refine ⟨fun c => ?_, fun c => ⟨fun c2 => ?_, fun c2 => ?_⟩⟩
  · rw [if_pos c] at hQ
    exact hQ T4 m4 E F4'
  · rw [if_neg c, if_pos c2] at hQ
    exact hQ T4 m4 E F4'
  · rw [if_neg c, if_neg (fun z => z c2)] at hQ
    have m1 := F4'.2.2.2.2 c2
    refine c_addQ F4' (by omega) (z := 1) (by decide) rfl (fun hf => ?_) (fun hf => ?_)
    · rw [if_neg hf] at hQ
      exact hQ T4 m4 E F4'
    · rw [if_pos hf] at hQ
      exact hQ _ (m4 + 1) (E.tr (adS_ev p79)) (F4'.png hd c2 hf)
/-! the reference -/
theorem smod (d t j : Nat) (hd : d < 2) (ht : t < 4) (hj : j < 4) : ((nI (d + 2 * ((t + 3) % 4)) + 2 * nI (j + 1)) - (nI (d + 2 * ((t + 3) % 4)) + 2 * nI (j + 1)) / 8 * 8 : Int32) = nI (stN d t j) := by
  have t' : ∀ d, d < 2 → ∀ t, t < 4 → ∀ j, j < 4 → ((nI (d + 2 * ((t + 3) % 4)) + 2 * nI (j + 1)) - (nI (d + 2 * ((t + 3) % 4)) + 2 * nI (j + 1)) / 8 * 8 : Int32) = nI (d + 2 * ((t + j) % 4)) := by decide
  exact t' d hd t ht j hj
theorem m_bysLoop {X : Ctx} {S0 : Sto} {d q M n4 : Nat} {Q : Sto → Prop} (h4 : n4 = 4) (hF : Fx T) (hS : sN S0 ≤ sN T) (O : Ov X K5_putRest S0 Q) (h : EQ J d q M) (hd : d < 2) (hM : M + 4 ≤ 16) (hQ : Q (wJ T (spPng (spBys J d q (tOf J d) n4) d q))) :
    WP X 84 [(0, vr 26), (1, vi (nI d)), (2, vi (J 61 d)), (3, vi 1)] [] (wJ T J) 0 0 := by
  have td : (nI d).toNatClampNeg = d := tnN (by omega)
  obtain ⟨t1, -, t3⟩ := (show tOf J d < 4 ∧ True ∧ J 61 d = nI (d + 2 * ((tOf J d + 3) % 4)) by
    obtain ⟨T0, p0, m0, -, F0⟩ := h
    obtain ⟨a, -, c⟩ := F0.2.1.tof hd
    exact ⟨a, trivial, c⟩)
  rw [t3]
  have loop : ∀ (b j : Nat), j + b = n4 → WP X 84 [(0, vr 26), (1, vi (nI d)), (2, vi (nI (d + 2 * ((tOf J d + 3) % 4)))), (3, vi (nI (j + 1)))] [] (wJ T (spBys J d q (tOf J d) j)) 0 0 := by
    intro b
    induction b with
    | zero =>
      intro j hj
      obtain rfl : j = n4 := by omega
      have hE := h.bys hd (t := tOf J d) j (by omega) (by omega)
      revert hE hQ
      generalize spBys J d q (tOf J d) j = K
      intro hQ hE
      obtain ⟨T0, p0, m0, hm0, F0⟩ := hE
      have hMq := F0.mq hd
      have hMq' := hMq
      obtain ⟨e63, q6, -, -, -⟩ := hMq'
      refine s5_putRest_84 (S := wJ T K) (FxJ hF) hS O ⟨fun _ => ⟨ixN hd (by decide), ?_⟩, fun hc => ?_⟩
      · rw [td, gI_wm (a := 53) (by decide), gI_wm (a := 26) (by decide), e63, tnN (show q < 2 ^ 31 by omega), gI_wm (a := 70) (by decide)]
        unfold spPng at hQ
        refine ⟨fun c => ?_, fun c => ⟨ixN q6 (by decide), fun c2 => ?_, fun c2 => ?_⟩⟩
        · rw [if_pos c] at hQ; exact hQ
        · rw [if_neg c, if_pos c2] at hQ; exact hQ
        · rw [if_neg c, if_neg (fun z => z c2)] at hQ
          have m1 := F0.2.2.2.2 c2
          refine m_put (z := 1) hF hMq (by omega) (by decide) (fun hf => ?_) (fun hf => ?_)
          · rw [if_neg hf] at hQ; exact hQ
          · rw [if_pos hf] at hQ; exact hQ
      · exfalso
        refine hc ?_
        rw [show (4 : Int32) = nI 4 from rfl, nI_ltI (by omega) (by omega)]; omega
    | succ b ih =>
      intro j hj
      have ih2 := ih (j + 1) (by omega)
      have hE := h.bys hd (t := tOf J d) j (by omega) (by omega)
      have hi : stN d (tOf J d) j < 8 := stN_lt hd
      have ek : spBys J d q (tOf J d) (j + 1) = spByt (spBys J d q (tOf J d) j) d q (stN d (tOf J d) j) := rfl
      rw [ek] at ih2
      revert hE ih2
      generalize spBys J d q (tOf J d) j = K
      intro ih2 hE
      refine s5_putRest_84 (S := wJ T K) (FxJ hF) hS O ⟨fun hc => ?_, fun _ => ?_⟩
      · exfalso
        rw [show (4 : Int32) = nI 4 from rfl, nI_ltI (by omega) (by omega)] at hc; omega
      · rw [smod d _ j hd t1 (by omega), tnN (show stN d (tOf J d) j < 2 ^ 31 by omega), gI_wm (a := 29) (by decide), nI_suc]
        refine ⟨ixN hi (by decide), fun c => ?_, fun c => m_putBytes hF hE hd (by omega) hi c ih2⟩
        have : spByt K d q (stN d (tOf J d) j) = K := by
          unfold spByt
          exact if_neg (fun ok : byOK K d q (stN d (tOf J d) j) => c ok.1)
        rw [this] at ih2
        exact ih2
  exact loop n4 0 (by omega)
theorem m_putRest {d q M n4 : Nat} {Q : Sto → Prop} (h4 : n4 = 4) (hF : Fx T) (h : EQ J d q M) (hd : d < 2) (hM : M ≤ 1) (hQ : Q (wJ T (spRest J d q n4))) : Cv K5_putRest [vr 26, vi (nI d)] (wJ T J) Q := by
  have td : (nI d).toNatClampNeg = d := tnN (by omega)
  refine e5_putRest (FxJ hF) (fun X O => ⟨ixN hd (by decide), ?_⟩)
  have bnds : ∀ A, EQ A d q (M + 2) → spAsk (spAns J d q) d q = A → Cv K5_putBounds [vr 26, vi (nI d)] (wJ T A) (fun S4 => WP X 84 [(0, vr 26), (1, vi (nI d)), (2, vi (gI S4 61 d)), (3, vi 1)] [] S4 0 0) := by
    intro A hA eA
    refine m_putBounds h4 hF hA hd (by omega) ?_
    rw [gI_wm (a := 61) (by decide)]
    have hE := h.res h4 hd hM
    unfold spRest at hQ
    have eR : spRes J d q n4 = spCuts (spAll (spBnds A q (1 - d) n4) d q) q d n4 := by unfold spRes; rw [eA]
    rw [← eR]
    exact m_bysLoop h4 hF (Nat.le_refl _) O hE hd (by omega) hQ
  have ask : ∀ A, EQ A d q (M + 1) → spAns J d q = A → ((A 62 d = 0 → Cv K5_putBounds [vr 26, vi (nI d)] (wJ T A) (fun S4 => WP X 84 [(0, vr 26), (1, vi (nI d)), (2, vi (gI S4 61 d)), (3, vi 1)] [] S4 0 0)) ∧
      (¬ A 62 d = 0 → Ci K5_put [vr 26, vi 6, vi 9, vi 0, vi (A 63 d), vi 0] (wJ T A) (fun x5 S5 => (x5 = 0 → (Cv K5_putBounds [vr 26, vi (nI d)] S5 (fun S7 => WP X 84 [(0, vr 26), (1, vi (nI d)), (2, vi (gI S7 61 d)), (3, vi 1)] [] S7 0 0))) ∧ (¬ x5 = 0 → (Cv K5_putBounds [vr 26, vi (nI d)] (pI S5 62 d 0) (fun S8 => WP X 84 [(0, vr 26), (1, vi (nI d)), (2, vi (gI S8 61 d)), (3, vi 1)] [] S8 0 0)))))) := by
    intro A hA eA
    have hk := hA.ask hd (by omega)
    have bn := bnds (spAsk A d q) hk (by rw [eA])
    obtain ⟨m, hm, hMq⟩ := hA.mq hd
    unfold spAsk at bn
    refine ⟨fun c => ?_, fun c => m_put (z := 9) hF hMq (by omega) (by decide) (fun hf => ⟨fun _ => ?_, fun z => absurd rfl z⟩) (fun hf => ⟨fun z => absurd z (by decide), fun _ => ?_⟩)⟩
    · rw [if_pos c] at bn; exact bn
    · rw [if_neg c, if_neg hf] at bn; exact bn
    · rw [if_neg c, if_pos hf] at bn
      rw [pI_wJ (by decide)]
      exact bn
  rw [td, gI_wm (a := 64) (by decide), gI_wm (a := 62) (by decide), gI_wm (a := 63) (by decide), gI_wm (a := 65) (by decide)]
  have hA := h.ans hd (by omega)
  have ak := ask (spAns J d q) hA rfl
  obtain ⟨m, hm, hMq⟩ := h.mq hd
  unfold spAns at ak
  refine ⟨fun c => ?_, fun c => m_put (z := 9) hF hMq (by omega) (by decide) (fun hf => ⟨fun _ => ?_, fun z => absurd rfl z⟩) (fun hf => ⟨fun z => absurd z (by decide), fun _ => ?_⟩)⟩
  · rw [if_pos c] at ak; exact ak
  · rw [if_neg c, if_neg hf] at ak
    rw [gI_wm (a := 62) (by decide), gI_wm (a := 63) (by decide)]
    exact ak
  · rw [if_neg c, if_pos hf] at ak
    rw [pI_wJ (by decide), gI_wm (a := 62) (by decide), gI_wm (a := 63) (by decide)]
    have u62 : uJ (spPut J q 7 (nI 9) 0 (J 65 d) 0) 64 d 0 62 = spPut J q 7 (nI 9) 0 (J 65 d) 0 62 := uJ_ne (by decide)
    have u63 : uJ (spPut J q 7 (nI 9) 0 (J 65 d) 0) 64 d 0 63 = spPut J q 7 (nI 9) 0 (J 65 d) 0 63 := uJ_ne (by decide)
    rw [u62, u63] at ak
    exact ak
end REST
