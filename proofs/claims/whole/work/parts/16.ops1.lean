section OPS1
variable {T : Sto} {J : Rows}
theorem nge {i N : Nat} (h : i < N) (hN : N < 2 ^ 31) : ¬ nI N ≤ nI i := by rw [nI_leI (by omega) (by omega)]; omega
theorem nle {i N : Nat} (h : N ≤ i) (hi : i < 2 ^ 31) : nI N ≤ nI i := by rw [nI_leI (by omega) (by omega)]; exact h
/-- the sum over every second of eight -/
def sm (f : Nat → Int32) (i : Nat) : Int32 := 0 + f i + f (i + 2) + f (i + 4) + f (i + 6)
theorem c_readBy {Q : Int32 → Sto → Prop} {d : Nat} (hF : Fx T) (hd : d < 2) (h0 : gI T (20 + 3 * d) 0 = nI d) (h : Q (sm (fun i => gI T (3 + 2 * i) 12) (1 - d)) T) : Ci K4_readBy [vr 0, vr (20 + 3 * d)] T Q := by
  refine e4_readBy hF (hF.sd hd) (fun X O => ?_)
  rw [h0]
  have st : ∀ (l2 : Int32) (i : Nat), i < 8 → WP X 9 [(0, vr 0), (2, vi (l2 + gI T (3 + 2 * i) 12)), (3, vi (nI (i + 2)))] [] T 0 0 → WP X 9 [(0, vr 0), (2, vi l2), (3, vi (nI i))] [] T 0 0 := fun l2 i hi k => by
    refine s4_readBy_9 hF (Nat.le_refl _) O ⟨fun hc => absurd hc (nge hi (by decide)), fun hc => ⟨ixN hi (by decide), ?_⟩⟩
    rw [tnN (by omega), show (nI i + 2 : Int32) = nI (i + 2) from nI_add i 2]
    exact k
  have en : ∀ (l2 : Int32) (i : Nat), 8 ≤ i → i < 2 ^ 31 → Q l2 T → WP X 9 [(0, vr 0), (2, vi l2), (3, vi (nI i))] [] T 0 0 := fun l2 i hi hi2 k =>
    s4_readBy_9 hF (Nat.le_refl _) O ⟨fun _ => k, fun hc => absurd (nle hi hi2) hc⟩
  have e : (1 - nI d : Int32) = nI (1 - d) := by rcases (show d = 0 ∨ d = 1 by omega) with rfl | rfl <;> decide
  rw [e]
  exact st _ _ (by omega) (st _ _ (by omega) (st _ _ (by omega) (st _ _ (by omega) (en _ _ (by omega) (by omega) h))))
theorem c_counted {Q : Int32 → Sto → Prop} {d : Nat} (hF : Fx T) (hd : d < 2) (h0 : gI T (20 + 3 * d) 0 = nI d) (h : Q (sm (fun i => gI T (3 + 2 * i) 5) d) T) : Ci K4_countedOf [vr 0, vr (20 + 3 * d)] T Q := by
  refine e4_countedOf hF (hF.sd hd) (fun X O => ?_)
  rw [h0]
  have st : ∀ (l2 : Int32) (i : Nat), i < 8 → WP X 7 [(0, vr 0), (2, vi (l2 + gI T (3 + 2 * i) 5)), (3, vi (nI (i + 2)))] [] T 0 0 → WP X 7 [(0, vr 0), (2, vi l2), (3, vi (nI i))] [] T 0 0 := fun l2 i hi k => by
    refine s4_countedOf_7 hF (Nat.le_refl _) O ⟨fun hc => absurd hc (nge hi (by decide)), fun hc => ⟨ixN hi (by decide), ?_⟩⟩
    rw [tnN (by omega), show (nI i + 2 : Int32) = nI (i + 2) from nI_add i 2]
    exact k
  have en : ∀ (l2 : Int32) (i : Nat), 8 ≤ i → i < 2 ^ 31 → Q l2 T → WP X 7 [(0, vr 0), (2, vi l2), (3, vi (nI i))] [] T 0 0 := fun l2 i hi hi2 k =>
    s4_countedOf_7 hF (Nat.le_refl _) O ⟨fun _ => k, fun hc => absurd (nle hi hi2) hc⟩
  exact st _ _ (by omega) (st _ _ (by omega) (st _ _ (by omega) (st _ _ (by omega) (en _ _ (by omega) (by omega) h))))
theorem m_allRead {Q : Int32 → Sto → Prop} {d : Nat} (hF : Fx T) (hd : d < 2) (h : Q (sm (J 39) (1 - d)) (wJ T J)) : Ci K5_allRead [vr 26, vi (nI d)] (wJ T J) Q := by
  refine e5_allRead (FxJ hF) (fun X O => ?_)
  have st : ∀ (l2 : Int32) (i : Nat), i < 8 → WP X 6 [(0, vr 26), (2, vi (l2 + J 39 i)), (3, vi (nI (i + 2)))] [] (wJ T J) 0 0 → WP X 6 [(0, vr 26), (2, vi l2), (3, vi (nI i))] [] (wJ T J) 0 0 := fun l2 i hi k => by
    refine s5_allRead_6 (FxJ hF) (Nat.le_refl _) O ⟨fun hc => absurd hc (nge hi (by decide)), fun hc => ⟨ixN hi (by decide), ?_⟩⟩
    rw [tnN (by omega), show (nI i + 2 : Int32) = nI (i + 2) from nI_add i 2]
    exact k
  have en : ∀ (l2 : Int32) (i : Nat), 8 ≤ i → i < 2 ^ 31 → Q l2 (wJ T J) → WP X 6 [(0, vr 26), (2, vi l2), (3, vi (nI i))] [] (wJ T J) 0 0 := fun l2 i hi hi2 k =>
    s5_allRead_6 (FxJ hF) (Nat.le_refl _) O ⟨fun _ => k, fun hc => absurd (nle hi hi2) hc⟩
  have e : (1 - nI d : Int32) = nI (1 - d) := by rcases (show d = 0 ∨ d = 1 by omega) with rfl | rfl <;> decide
  rw [e]
  exact st _ _ (by omega) (st _ _ (by omega) (st _ _ (by omega) (st _ _ (by omega) (en _ _ (by omega) (by omega) h))))
theorem m_counted {Q : Int32 → Sto → Prop} {d : Nat} (hF : Fx T) (hd : d < 2) (h : Q (sm (J 31) d) (wJ T J)) : Ci K5_counted [vr 26, vi (nI d)] (wJ T J) Q := by
  refine e5_counted (FxJ hF) (fun X O => ?_)
  have st : ∀ (l2 : Int32) (i : Nat), i < 8 → WP X 4 [(0, vr 26), (2, vi (l2 + J 31 i)), (3, vi (nI (i + 2)))] [] (wJ T J) 0 0 → WP X 4 [(0, vr 26), (2, vi l2), (3, vi (nI i))] [] (wJ T J) 0 0 := fun l2 i hi k => by
    refine s5_counted_4 (FxJ hF) (Nat.le_refl _) O ⟨fun hc => absurd hc (nge hi (by decide)), fun hc => ⟨ixN hi (by decide), ?_⟩⟩
    rw [tnN (by omega), show (nI i + 2 : Int32) = nI (i + 2) from nI_add i 2]
    exact k
  have en : ∀ (l2 : Int32) (i : Nat), 8 ≤ i → i < 2 ^ 31 → Q l2 (wJ T J) → WP X 4 [(0, vr 26), (2, vi l2), (3, vi (nI i))] [] (wJ T J) 0 0 := fun l2 i hi hi2 k =>
    s5_counted_4 (FxJ hF) (Nat.le_refl _) O ⟨fun _ => k, fun hc => absurd (nle hi hi2) hc⟩
  exact st _ _ (by omega) (st _ _ (by omega) (st _ _ (by omega) (st _ _ (by omega) (en _ _ (by omega) (by omega) h))))
theorem sm_congr {f g : Nat → Int32} {i : Nat} (hi : i < 2) (h : ∀ k, k < 8 → f k = g k) : sm f i = sm g i := by
  unfold sm
  rw [h i (by omega), h (i + 2) (by omega), h (i + 4) (by omega), h (i + 6) (by omega)]
theorem Rel.sm39 (h : Rel T J) {i : Nat} (hi : i < 2) : sm (fun i => gI T (3 + 2 * i) 12) i = sm (J 39) i := sm_congr hi (fun k hk => (h.s hk).1 12 (by decide))
theorem Rel.sm31 (h : Rel T J) {i : Nat} (hi : i < 2) : sm (fun i => gI T (3 + 2 * i) 5) i = sm (J 31) i := sm_congr hi (fun k hk => (h.s hk).1 5 (by decide))
theorem min_le_lt (a b : Int32) : (if a ≤ b then a else b) = (if a < b then a else b) := by
  by_cases h : a < b
  · rw [if_pos h, if_pos (by rw [Int32.lt_iff_toInt_lt] at h; rw [Int32.le_iff_toInt_le]; omega)]
  · rw [if_neg h]
    by_cases h2 : a ≤ b
    · rw [if_pos h2]
      rw [Int32.lt_iff_toInt_lt] at h
      rw [Int32.le_iff_toInt_le] at h2
      exact Int32.toInt_inj.mp (by omega)
    · rw [if_neg h2]
/-- how many are read, and the model's rows behind a read of stream s -/
def rdN (J : Rows) (s : Nat) (n : Int32) : Int32 := if J 38 s - J 39 s < n then J 38 s - J 39 s else n
def rd1 (J : Rows) (s : Nat) (n : Int32) : Rows := uJ J 39 s (J 39 s + rdN J s n)
def rd2 (J : Rows) (s : Nat) (n : Int32) : Rows := if J 39 s + rdN J s n + J 26 1 - J 40 s < J 26 1 / 2 then rd1 J s n else uJ (rd1 J s n) 41 s 1
def rd3 (J : Rows) (s : Nat) (n : Int32) : Rows := if sm (rd2 J s n 39) (s % 2) + J 26 2 - J 59 (1 - s % 2) < J 26 2 / 2 then rd2 J s n else uJ (rd2 J s n) 58 (1 - s % 2) 1
theorem mod2 {s : Nat} (hs : s < 8) : (1 - (nI s - nI s / 2 * 2) : Int32) = nI (1 - s % 2) := by
  have := pk_rem (a := s) (d := 2) (by omega) (by decide) (by decide)
  rw [show (2 : Int32) = nI 2 from rfl, this]
  rcases (show s % 2 = 0 ∨ s % 2 = 1 by omega) with e | e <;> rw [e] <;> decide
theorem m_read {Q : Int32 → Sto → Prop} {p n : Int32} (hF : Fx T) (h1 : ¬ (0 ≤ p.toInt ∧ p.toInt < 8) → Q (-1) (wJ T J))
    (h2 : ∀ s, s < 8 → p = nI s → (¬ (1 ≤ n.toInt ∧ n.toInt ≤ 1000) → Q (-2) (wJ T J)) ∧ (1 ≤ n.toInt ∧ n.toInt ≤ 1000 → Q (rdN J s n) (wJ T (rd3 J s n)))) : Ci K5_read [vr 26, vi p, vi n] (wJ T J) Q := by
  refine e5_read (FxJ hF) ?_
  simp only [ite01, Classical.not_not, ti64, l64_1, l64_1000]
  refine ⟨fun hc => ?_, h1⟩
  obtain ⟨s, hs, rfl⟩ := ofIx2 (N := 8) hc
  obtain ⟨k1, k2⟩ := h2 s hs rfl
  refine ⟨fun hd => ⟨hc, fun w hw => ?_⟩, k1⟩
  rw [tnN (by omega), mod2 hs]
  rw [tnN (by omega), gI_wm (a := 38) (by decide), gI_wm (a := 39) (by decide), min_le_lt] at hw
  have hw' : w = rdN J s n := hw
  subst hw'
  have hix : 0 ≤ (nI (1 - s % 2)).toInt ∧ (nI (1 - s % 2)).toInt < (2 : Nat) := ixN (by omega) (by decide)
  have tt : (nI (1 - s % 2)).toNatClampNeg = 1 - s % 2 := tnN (by omega)
  have key : ∀ J1 : Rows, J1 26 = J 26 → J1 59 = J 59 → (if sm (J1 39) (s % 2) + J 26 2 - J 59 (1 - s % 2) < J 26 2 / 2 then J1 else uJ J1 58 (1 - s % 2) 1) = rd3 J s n → Ci K5_allRead [vr 26, vi (nI (1 - s % 2))] (wJ T J1) (fun x10 S10 => (0 ≤ (nI (1 - s % 2)).toInt ∧ (nI (1 - s % 2)).toInt < (2 : Nat)) ∧ ((((x10 + (gI S10 26 2)) - (gI S10 59 (nI (1 - s % 2)).toNatClampNeg)) < ((gI S10 26 2) / 2) → (Q (rdN J s n) S10)) ∧ (¬ ((x10 + (gI S10 26 2)) - (gI S10 59 (nI (1 - s % 2)).toNatClampNeg)) < ((gI S10 26 2) / 2) → (Q (rdN J s n) (pI S10 58 (nI (1 - s % 2)).toNatClampNeg 1))))) := by
    intro J1 e26 e59 e3
    refine m_allRead hF (by omega) ⟨hix, ?_⟩
    rw [tt, gI_wm (a := 26) (by decide), gI_wm (a := 59) (by decide), e26, e59, pI_wJ (by decide), show 1 - (1 - s % 2) = s % 2 by omega]
    refine ⟨fun q => ?_, fun q => ?_⟩
    · rw [if_pos q] at e3; rw [e3]; exact k2 hd
    · rw [if_neg q] at e3; rw [e3]; exact k2 hd
  have e39 : gI (pI (wJ T J) 39 s (gI (wJ T J) 39 s + rdN J s n)) 39 s = J 39 s + rdN J s n := by rw [gI_pI, if_pos rfl, upd_at, if_pos rfl]; rfl
  rw [e39]
  simp only [gI_wm (S := T) (J := J) (a := 40) (by decide), gI_wm (S := T) (J := J) (a := 39) (by decide), gI_wm (S := T) (J := J) (a := 26) (by decide)]
  rw [pI_wJ (by decide), pI_wJ (by decide)]
  refine ⟨fun q => key _ ?_ ?_ ?_, fun q => key _ ?_ ?_ ?_⟩
  · exact uJ_ne (by decide)
  · exact uJ_ne (by decide)
  · have : rd2 J s n = rd1 J s n := if_pos q
    unfold rd3; rw [this]; rfl
  · rw [uJ_ne (by decide), uJ_ne (by decide)]
  · rw [uJ_ne (by decide), uJ_ne (by decide)]
  · have : rd2 J s n = uJ (rd1 J s n) 41 s 1 := if_neg q
    unfold rd3; rw [this]; rfl
end OPS1
