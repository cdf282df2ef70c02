section TICK
variable {T : Sto} {J K : Rows}
def wtV (K : Rows) (d : Nat) : Int32 := if K 49 d = -6 then 8 else ((K 50 d + (if 4 * K 51 d < 8 then 8 else 4 * K 51 d)) / 8) + 2
def mn6 (K : Rows) (d : Nat) : Int32 := if 6 < K 52 d then 6 else K 52 d
def lt32 (K : Rows) (d : Nat) : Int32 := K 60 d + (wtV K d <<< (mn6 K d &&& 31))
def spPr (K : Rows) (d : Nat) : Rows := if K 45 d ≤ 0 ∨ K 26 3 < lt32 K d then K else uJ (uJ K 53 d 1) 52 d (K 52 d + 1)
def spTk (J : Rows) (d : Nat) : Rows := spPr (spLook J d) d
def spTk1 (J : Rows) : Rows := spTk (spTk (uJ J 26 3 (J 26 3 + 1)) 0) 1
def spTks (J : Rows) : Nat → Rows
  | 0 => J
  | n + 1 => spTk1 (spTks J n)
theorem spPr_ne {d r : Nat} (h : r ≠ 53 ∧ r ≠ 52) : spPr K d r = K r := by
  unfold spPr
  split
  · rfl
  · rw [uJ_ne h.2, uJ_ne h.1]
theorem spLook_ne {d r : Nat} (h : ¬ r ∈ zNS) : spLook J d r = J r := spLL_ne h
theorem spTk_ne {d r : Nat} (h : ¬ r ∈ zNS) (h2 : r ≠ 53 ∧ r ≠ 52) : spTk J d r = J r := by
  unfold spTk
  rw [spPr_ne h2, spLook_ne h]
/-! the class -/
theorem c_probe {d : Nat} {Q : Sto → Prop} (hR : Rel T J) (hd : d < 2) (h : ∀ T', Ev T T' → Rel T' (spPr J d) → Q T') : Cv K0_probeIfLate [vr (20 + 3 * d + 2), vi (gI T 0 4)] T Q := by
  have e : 20 + 3 * d + 2 = 22 + 3 * d := by omega
  have pv : ∀ k ∈ ksP, gI T (20 + 3 * d + 2) k = J (rp k) d := fun k hk => by rw [e]; exact (hR.d hd).2.1 k hk
  have e0 : gI T (20 + 3 * d + 2) 0 = J 45 d := pv 0 (by decide)
  have e9 : gI T (20 + 3 * d + 2) 9 = J 60 d := pv 9 (by decide)
  have e4 : gI T (20 + 3 * d + 2) 4 = J 49 d := pv 4 (by decide)
  have e5 : gI T (20 + 3 * d + 2) 5 = J 50 d := pv 5 (by decide)
  have e6 : gI T (20 + 3 * d + 2) 6 = J 51 d := pv 6 (by decide)
  have e7 : gI T (20 + 3 * d + 2) 7 = J 52 d := pv 7 (by decide)
  have t4 : gI T 0 4 = J 26 3 := hR.g 4 (by decide)
  refine e0_probeIfLate hR.f (hR.f.pace (hR.f.sd hd)) ?_
  have e7' : gI (pI T (20 + 3 * d + 2) 8 1) (20 + 3 * d + 2) 7 = J 52 d := by rw [gI_eq, upd_at, if_neg (by decide)]; exact e7
  rw [e7', e0, e9, e4, e5, e6, e7, t4]
  unfold spPr at h
  refine ⟨fun c => ?_, fun c => ⟨fun c2 => ?_, fun c2 => ?_⟩⟩
  · rw [if_pos (Or.inl c)] at h
    exact h T Ev.rf hR
  · have c2' : J 26 3 < lt32 J d := c2
    rw [if_pos (Or.inr c2')] at h
    exact h T Ev.rf hR
  · have c2' : ¬ J 26 3 < lt32 J d := c2
    rw [if_neg (fun z => z.elim c c2')] at h
    rw [e]
    have R1 := hR.putP hd (k := 8) (x := 1) (by decide) ((hR.vd hd).p53 hd (Or.inr rfl))
    exact h _ ((Ev.rf.p (by omega)).p (by omega)) (R1.putP hd (k := 7) (x := J 52 d + 1) (by decide) ((R1.vd hd).free (r := 52) (by decide) hd))
theorem c_tick {p : Int32} {Q : Int32 → Sto → Prop} (hR : Rel T J) (h1 : ¬ (1 ≤ p.toInt ∧ p.toInt ≤ 1000) → Q (-2) T) (h2 : ∀ n, 1 ≤ n → n ≤ 1000 → p = nI n → ∀ T', Ev T T' → Rel T' (spTks J n) → Q (spTks J n 26 3) T') : Ci K4_tick [vr 0, vi p] T Q := by
  refine e4_tick hR.f (fun X O => ⟨fun c => h1 (fun z => ?_), fun c => ⟨fun c2 => ?_, fun c2 => h1 (fun z => c2 ?_)⟩⟩)
  · have := Int32.lt_iff_toInt_lt.mp c
    have l1 : (1 : Int32).toInt = 1 := rfl
    omega
  · have a1 : 1 ≤ p.toInt := by
      have : ¬ p.toInt < (1 : Int32).toInt := fun z => c (Int32.lt_iff_toInt_lt.mpr z)
      have l1 : (1 : Int32).toInt = 1 := rfl
      omega
    have a2 : p.toInt ≤ 1000 := Int32.le_iff_toInt_le.mp c2
    obtain ⟨n, n1, rfl⟩ := ofIx2 (x := p) (N := 1001) ⟨by omega, by omega⟩
    rw [nI_toInt (by omega)] at a1
    have loop : ∀ (b k : Nat) (U : Sto), k + b = n → Ev T U → Rel U (spTks J k) → WP X 17 [(0, vr 0), (1, vi (nI n)), (2, vi (nI k))] [] U 0 0 := by
      intro b
      induction b with
      | zero =>
        intro k U hk E R
        obtain rfl : k = n := by omega
        have g4 : gI U 0 4 = spTks J k 26 3 := R.g 4 (by decide)
        refine s4_tick_17 R.f (by rw [E.2.1]; exact Nat.le_refl _) O ⟨fun _ => ?_, fun hc => absurd (nle (Nat.le_refl _) (by omega)) hc⟩
        rw [g4]
        exact h2 k (by omega) (by omega) rfl U E R
      | succ b ih =>
        intro k U hk E R
        have g4 : gI U 0 4 = spTks J k 26 3 := R.g 4 (by decide)
        refine s4_tick_17 R.f (by rw [E.2.1]; exact Nat.le_refl _) O ⟨fun hc => ?_, fun _ => ?_⟩
        · rw [nI_leI (by omega) (by omega)] at hc; omega
        rw [g4]
        have R1 := R.putG (k := 4) (x := spTks J k 26 3 + 1) (by decide) (fun z => absurd z (by decide))
        have E1 : Ev T (pI U 0 4 (spTks J k 26 3 + 1)) := E.p (by decide)
        have sd : ∀ (d : Nat) (V : Sto) (A : Rows), d < 2 → Ev T V → Rel V A → (∀ V', Ev T V' → Rel V' (spTk A d) → WP X 34 [(0, vr 0), (1, vi (nI n)), (2, vi (nI k)), (3, vi (nI (d + 1)))] [] V' 0 0) → WP X 34 [(0, vr 0), (1, vi (nI n)), (2, vi (nI k)), (3, vi (nI d))] [] V 0 0 := by
          intro d V A hd EV RV go
          refine s4_tick_34 RV.f (by rw [EV.2.1]; exact Nat.le_refl _) O ⟨fun hc => absurd hc (nge (N := 2) hd (by decide)), fun _ => ⟨ixN hd (by decide), ?_⟩⟩
          rw [tnN (by omega), nI_suc]
          exact c_lookForLost RV hd (fun V1 F1 S1 => c_probe S1 hd (fun V2 F2 S2 => go V2 ((EV.tr F1).tr F2) S2))
        refine sd 0 _ _ (by decide) E1 R1 (fun V1 F1 S1 => sd 1 V1 _ (by decide) F1 S1 (fun V2 F2 S2 => ?_))
        refine s4_tick_34 S2.f (by rw [F2.2.1]; exact Nat.le_refl _) O ⟨fun _ => ?_, fun hc => absurd (by decide) hc⟩
        rw [nI_suc]
        exact ih (k + 1) V2 (by omega) F2 S2
    exact loop n 0 T (by omega) Ev.rf hR
  · exact Int32.le_iff_toInt_le.mpr z.2
/-! the reference -/
theorem IvTd.mono {t t' d : Nat} (h : IvTd J t d) (ht : t ≤ t') : IvTd J t' d := by
  obtain ⟨h1, ⟨a, a1, a2⟩, b, b1, b2⟩ := h
  refine ⟨?_, ⟨a, a1, by omega⟩, b, b1, by omega⟩
  rcases h1 with z | ⟨l, s, v, z1, z2, z3, z4, z5, z6⟩
  · exact Or.inl z
  · exact Or.inr ⟨l, s, v, z1, z2, z3, by omega, by omega, by omega⟩
theorem shlK : ∀ k, k < 7 → ((nI k &&& 31).toBitVec.smod 32).toNat = k := by decide
theorem shlL (n : Nat) {k : Nat} (hk : k < 7) : lN n <<< ((nI k).toInt64 &&& 63) = lN (n * 2 ^ k) := by
  have hc : ∀ k, k < 7 → (((nI k).toInt64 &&& 63).toBitVec.smod 64).toNat = k := by decide
  apply Int64.toBitVec_inj.mp
  show (BitVec.ofNat 64 n) <<< (((nI k).toInt64 &&& 63).toBitVec.smod 64).toNat = BitVec.ofNat 64 (n * 2 ^ k)
  rw [hc k hk]
  apply BitVec.eq_of_toNat_eq
  rw [BitVec.toNat_shiftLeft, BitVec.toNat_ofNat, BitVec.toNat_ofNat, Nat.shiftLeft_eq, Nat.mul_mod, Nat.mod_mod, ← Nat.mul_mod]
theorem wt_nat {t d : Nat} (h : IvTd K t d) (ht : t ≤ 512000) : ∃ W, wtV K d = nI W ∧ W ≤ 2600000 := by
  unfold wtV
  rcases h.1 with ⟨a, b, c⟩ | ⟨l, s, v, a, b, c, l1, s1, v1⟩
  · rw [if_pos a]; exact ⟨8, rfl, by decide⟩
  · rw [a, if_neg (nI_neg6 (by omega)), b, c, show (4 : Int32) = nI 4 from rfl, pk_mul, show (8 : Int32) = nI 8 from rfl]
    have hx : (if nI (4 * v) < nI 8 then nI 8 else nI (4 * v)) = nI (if 4 * v < 8 then 8 else 4 * v) := by
      by_cases z : 4 * v < 8
      · rw [if_pos ((nI_ltI (by omega) (by omega)).mpr z), if_pos z]
      · rw [if_neg (fun y => z ((nI_ltI (by omega) (by omega)).mp y)), if_neg z]
    rw [hx, nI_add, pk_div (by split <;> omega) (by decide) (by decide), show (2 : Int32) = nI 2 from rfl, nI_add]
    exact ⟨_, rfl, by split <;> omega⟩
theorem late_iff {t t' d : Nat} (h : IvTd K t d) (ht : t ≤ 512000) (h3 : K 26 3 = nI t') (ht' : t' ≤ 600000) : lg_cmp (K 26 3).toInt64 ((K 60 d).toInt64 + ((wtV K d).toInt64 <<< ((mn6 K d).toInt64 &&& 63))) < 0 ↔ K 26 3 < lt32 K d := by
  obtain ⟨W, w1, w2⟩ := wt_nat h ht
  obtain ⟨-, ⟨a, a1, a2⟩, b, b1, b2⟩ := h
  obtain ⟨k, k1, k2⟩ : ∃ k, k ≤ 6 ∧ mn6 K d = nI k := by
    unfold mn6
    rw [b1]
    by_cases z : (6 : Int32) < nI b
    · rw [if_pos z]; exact ⟨6, by decide, rfl⟩
    · rw [if_neg z]
      rw [show (6 : Int32) = nI 6 from rfl, nI_ltI (by omega) (by omega)] at z
      exact ⟨b, by omega, rfl⟩
  have p6 : 2 ^ k ≤ 64 := by
    rcases (show k = 0 ∨ k = 1 ∨ k = 2 ∨ k = 3 ∨ k = 4 ∨ k = 5 ∨ k = 6 by omega) with rfl | rfl | rfl | rfl | rfl | rfl | rfl <;> decide
  have hW : W * 2 ^ k ≤ 2600000 * 64 := Nat.mul_le_mul w2 p6
  unfold lt32
  rw [lg_cmp_lt, h3, w1, k2, a1, nI_l (by omega), nI_l (by omega), nI_l (by omega), shlL W (by omega), lN_add, lN_lt (by omega) (by omega), pk_shlN _ k (shlK k (by omega)) (by omega), nI_add, nI_ltI (by omega) (by omega)]
theorem m_waitOf {d t : Nat} {Q : Int32 → Sto → Prop} (hF : Fx T) (hd : d < 2) (hT : IvTd K t d) (ht : t ≤ 512000) (h : Q (wtV K d) (wJ T K)) : Ci K5_waitOf [vr 26, vi (nI d)] (wJ T K) Q := by
  have td : (nI d).toNatClampNeg = d := tnN (by omega)
  refine e5_waitOf (FxJ hF) ⟨ixN hd (by decide), ?_⟩
  rw [td, gI_wm (a := 49) (by decide), gI_wm (a := 50) (by decide), gI_wm (a := 51) (by decide)]
  have h6 : K 49 d = -6 ↔ ¬ 0 ≤ K 49 d := by
    rcases (hT.h5 ht).2 with z | z
    · rw [z]; exact ⟨fun _ => by decide, fun _ => rfl⟩
    · exact ⟨fun y => by rw [y] at z; exact absurd z (by decide), fun y => absurd z y⟩
  unfold wtV at h
  refine ⟨fun c w3 hw => ?_, fun c => ?_⟩
  · rw [if_neg (fun z => h6.mp z c)] at h
    rw [hw, maxB]; exact h
  · rw [if_pos (h6.mpr c)] at h; exact h
/-- what the reference's walk of one tick needs -/
def Tw (J : Rows) : Prop := Wk J ∧ ∀ d, d < 2 → J 54 d = -6 ∨ ∃ n, n < num J d ∧ J 54 d = nI n
theorem Rel.tw (h : Rel T J) : Tw J := ⟨h.wk, fun d hd => (h.vd hd).2.2.2.2.2.2.1⟩
theorem Tw.keep {J' : Rows} (h : Tw J) (hW : Wk J') (h44 : J' 44 = J 44) (h54 : J' 54 = J 54) : Tw J' := ⟨hW, fun d hd => by
  rw [h54, num_of (J := J) (by rw [h44])]; exact h.2 d hd⟩
theorem Tw.pr {d : Nat} (h : Tw K) : Tw (spPr K d) := by
  refine h.keep ?_ (spPr_ne (by decide)) (spPr_ne (by decide))
  unfold spPr
  split
  · exact h.1
  · exact (h.1.put (by decide) (by decide) (by decide) (by decide) (by decide)).put (by decide) (by decide) (by decide) (by decide) (by decide)
theorem Tw.look {d : Nat} (h : Tw J) : Tw (spLook J d) := h.keep h.1.ll (spLook_ne (by decide)) (spLook_ne (by decide))
theorem IvTd.look {t d e : Nat} (h : IvTd J t d) : IvTd (spLook J e) t d := h.keep (fun r hr => by rw [spLook_ne (by rcases hr with rfl | rfl | rfl | rfl | rfl <;> decide)])
theorem IvTd.pr {t d : Nat} (h : IvTd K t d) : IvTd (spPr K d) (t + 1) d := by
  unfold spPr
  split
  · exact h.mono (by omega)
  · obtain ⟨h1, ⟨a, a1, a2⟩, b, b1, b2⟩ := h
    have e : ∀ r, r ≠ 53 → r ≠ 52 → uJ (uJ K 53 d 1) 52 d (K 52 d + 1) r = K r := fun r r1 r2 => by rw [uJ_ne r2, uJ_ne r1]
    refine (IvTd.mono (t := t) (t' := t + 1) (J := K) ⟨h1, ⟨a, a1, a2⟩, b, b1, b2⟩ (by omega)).elim (fun x y => ?_)
    refine ⟨?_, ⟨a, by rw [e 60 (by decide) (by decide)]; exact a1, by omega⟩, b + 1, by rw [uJ_same, b1]; exact nI_suc b, by omega⟩
    rw [e 49 (by decide) (by decide), e 50 (by decide) (by decide), e 51 (by decide) (by decide)]
    exact x
theorem IvTd.pro {t d e : Nat} (h : IvTd K t d) (hne : d ≠ e) : IvTd (spPr K e) t d := by
  refine h.keep (fun r hr => ?_)
  unfold spPr
  split
  · rfl
  · rw [uJ_off _ _ (Or.inr hne), uJ_off _ _ (Or.inr hne)]
/-- one side of one tick -/
theorem m_tick34 {X : Ctx} {S0 : Sto} {Q : Int32 → Sto → Prop} {n k d t t' : Nat} (hF : Fx T) (hS : sN S0 ≤ sN T) (O : Oi X K5_tick S0 Q) (hd : d < 2) (hw : Tw J) (hT : IvTd J t d) (ht : t ≤ 512000) (h3 : J 26 3 = nI t') (ht' : t' ≤ 600000)
    (go : WP X 34 [(0, vr 26), (1, vi (nI n)), (2, vi (nI k)), (3, vi (nI (d + 1)))] [] (wJ T (spTk J d)) 0 0) : WP X 34 [(0, vr 26), (1, vi (nI n)), (2, vi (nI k)), (3, vi (nI d))] [] (wJ T J) 0 0 := by
  have td : (nI d).toNatClampNeg = d := tnN (by omega)
  refine s5_tick_34 (S := wJ T J) (FxJ hF) hS O ⟨fun hc => absurd hc (nge (N := 2) hd (by decide)), fun _ => ?_⟩
  refine m_lookForLost hF hw.1 hd (hT.h5 ht).2 (hw.2 d hd) ?_
  unfold spTk at go
  have hT2 : IvTd (spLook J d) t d := hT.look
  have h32 : spLook J d 26 3 = nI t' := by rw [spLook_ne (by decide)]; exact h3
  revert go hT2 h32
  generalize spLook J d = K
  intro go hT2 h32
  refine m_waitOf hF hd hT2 ht ⟨ixN hd (by decide), fun w5 hw5 => ?_⟩
  rw [td, gI_wm (a := 52) (by decide)] at hw5
  rw [td, gI_wm (a := 45) (by decide), gI_wm (a := 26) (by decide), gI_wm (a := 60) (by decide), gI_wm (a := 52) (by decide), pI_wJ (by decide), pI_wJ (by decide), nI_suc]
  have hm : w5 = mn6 K d := by
    rw [hw5]
    unfold mn6
    by_cases z : K 52 d ≤ 6
    · rw [if_pos z, if_neg (fun y => ltle y z)]
    · rw [if_neg z, if_pos (ile z)]
  rw [hm]
  have lt := late_iff hT2 ht h32 ht'
  unfold spPr at go
  refine ⟨fun c => ?_, fun c => ⟨fun c2 => ?_, fun c2 => ?_⟩⟩
  · rw [if_pos (Or.inl c)] at go; exact go
  · rw [if_pos (Or.inr (lt.mp c2))] at go; exact go
  · rw [if_neg (fun z => z.elim c (fun z => c2 (lt.mpr z)))] at go; exact go
theorem IvT.tk {t : Nat} (h : IvT J t) (ht : t < 512000) (hw : Tw J) : IvT (spTk1 J) (t + 1) ∧ Tw (spTk1 J) := by
  obtain ⟨h1, h2, h3, h4⟩ := h
  have e : ∀ r, r ≠ 26 → uJ J 26 3 (J 26 3 + 1) r = J r := fun r hr => uJ_ne hr
  have w0 : Tw (uJ J 26 3 (J 26 3 + 1)) := hw.keep (hw.1.put (by decide) (by decide) (by decide) (by decide) (by decide)) (e 44 (by decide)) (e 54 (by decide))
  have a0 : ∀ d, d < 2 → IvTd (uJ J 26 3 (J 26 3 + 1)) t d := fun d hd => (h3 d hd).keep (fun r hr => by rw [e r (by omega)])
  unfold spTk1
  have k26 : ∀ A d, spTk A d 26 = A 26 := fun A d => spTk_ne (by decide) (by decide)
  have k66 : ∀ A d, spTk A d 66 = A 66 := fun A d => spTk_ne (by decide) (by decide)
  refine ⟨⟨?_, by omega, fun d hd => ?_, fun q hq => ?_⟩, ?_⟩
  · rw [k26, k26, uJ_same, h1]; exact nI_suc t
  · rcases (show d = 0 ∨ d = 1 by omega) with rfl | rfl
    · exact IvTd.pro (K := spLook (spTk (uJ J 26 3 (J 26 3 + 1)) 0) 1) (IvTd.look (IvTd.pr (K := spLook (uJ J 26 3 (J 26 3 + 1)) 0) (a0 0 (by decide)).look)) (by decide)
    · exact IvTd.pr (K := spLook (spTk (uJ J 26 3 (J 26 3 + 1)) 0) 1) (IvTd.look (IvTd.pro (K := spLook (uJ J 26 3 (J 26 3 + 1)) 0) (a0 1 (by decide)).look (by decide)))
  · rw [k66, k66, e 66 (by decide)]
    obtain ⟨s, s1, s2⟩ := h4 q hq
    exact ⟨s, s1, by omega⟩
  · exact Tw.pr (K := spLook (spTk (uJ J 26 3 (J 26 3 + 1)) 0) 1) (Tw.look (Tw.pr (K := spLook (uJ J 26 3 (J 26 3 + 1)) 0) w0.look))
theorem IvT.tks {t : Nat} (h : IvT J t) (hw : Tw J) : ∀ n, t + n ≤ 512000 → IvT (spTks J n) (t + n) ∧ Tw (spTks J n) := fun n => by
  induction n with
  | zero => exact fun _ => ⟨h, hw⟩
  | succ n ih =>
    intro hn
    obtain ⟨a, b⟩ := ih (by omega)
    exact a.tk (by omega) b
theorem m_tick {t : Nat} {p : Int32} {Q : Int32 → Sto → Prop} (hF : Fx T) (hw : Tw J) (hT : IvT J t) (ht : t + 1000 ≤ 512000) (h1 : ¬ (1 ≤ p.toInt ∧ p.toInt ≤ 1000) → Q (-2) (wJ T J)) (h2 : ∀ n, 1 ≤ n → n ≤ 1000 → p = nI n → Q (spTks J n 26 3) (wJ T (spTks J n))) : Ci K5_tick [vr 26, vi p] (wJ T J) Q := by
  refine e5_tick (FxJ hF) (fun X O => ?_)
  simp only [ite01, Classical.not_not, ti64, l64_1, l64_1000]
  refine ⟨fun hc => ?_, h1⟩
  obtain ⟨n, n1, rfl⟩ := ofIx2 (x := p) (N := 1001) ⟨by omega, by omega⟩
  rw [nI_toInt (by omega)] at hc
  have last : ∀ (k : Nat) (B : Rows), WP X 17 [(0, vr 26), (1, vi (nI n)), (2, vi (nI (k + 1)))] [] (wJ T B) 0 0 → WP X 34 [(0, vr 26), (1, vi (nI n)), (2, vi (nI k)), (3, vi (nI (1 + 1)))] [] (wJ T B) 0 0 := by
    intro k B go
    refine s5_tick_34 (S := wJ T B) (FxJ hF) (Nat.le_refl _) O ⟨fun _ => ?_, fun hc => absurd (by decide) hc⟩
    rw [nI_suc]
    exact go
  have loop : ∀ (b k : Nat), k + b = n → WP X 17 [(0, vr 26), (1, vi (nI n)), (2, vi (nI k))] [] (wJ T (spTks J k)) 0 0 := by
    intro b
    induction b with
    | zero =>
      intro k hk
      obtain rfl : k = n := by omega
      refine s5_tick_17 (S := wJ T (spTks J k)) (FxJ hF) (Nat.le_refl _) O ⟨fun _ => ?_, fun hc => absurd (nle (Nat.le_refl _) (by omega)) hc⟩
      rw [gI_wm (a := 26) (by decide)]
      exact h2 k (by omega) (by omega) rfl
    | succ b ih =>
      intro k hk
      have ih2 := ih (k + 1) (by omega)
      obtain ⟨i1, i2⟩ := hT.tks hw k (by omega)
      have ek : spTks J (k + 1) = spTk1 (spTks J k) := rfl
      rw [ek] at ih2
      revert ih2 i1 i2
      generalize spTks J k = A
      intro ih2 i1 i2
      refine s5_tick_17 (S := wJ T A) (FxJ hF) (Nat.le_refl _) O ⟨fun hc => ?_, fun _ => ?_⟩
      · rw [nI_leI (by omega) (by omega)] at hc; omega
      rw [gI_wm (a := 26) (by decide), pI_wJ (by decide)]
      obtain ⟨j1, j2, j3, j4⟩ := i1
      have e : ∀ r, r ≠ 26 → uJ A 26 3 (A 26 3 + 1) r = A r := fun r hr => uJ_ne hr
      have w0 : Tw (uJ A 26 3 (A 26 3 + 1)) := i2.keep (i2.1.put (by decide) (by decide) (by decide) (by decide) (by decide)) (e 44 (by decide)) (e 54 (by decide))
      have a0 : ∀ d, d < 2 → IvTd (uJ A 26 3 (A 26 3 + 1)) (t + k) d := fun d hd => (j3 d hd).keep (fun r hr => by rw [e r (by omega)])
      have t1 : uJ A 26 3 (A 26 3 + 1) 26 3 = nI (t + k + 1) := by rw [uJ_same, j1]; exact nI_suc _
      refine m_tick34 (d := 0) hF (Nat.le_refl _) O (by decide) w0 (a0 0 (by decide)) (by omega) t1 (by omega) ?_
      refine m_tick34 (d := 1) (t := t + k) hF (Nat.le_refl _) O (by decide) (Tw.pr (K := spLook (uJ A 26 3 (A 26 3 + 1)) 0) w0.look) (IvTd.pro (K := spLook (uJ A 26 3 (A 26 3 + 1)) 0) (a0 1 (by decide)).look (by decide)) (by omega) (t' := t + k + 1) (by rw [spTk_ne (by decide) (by decide)]; exact t1) (by omega) ?_
      unfold spTk1 at ih2
      exact last k _ ih2
  exact loop n 0 (by omega)
end TICK
