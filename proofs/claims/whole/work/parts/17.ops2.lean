section OPS2
variable {T : Sto} {J : Rows}
theorem IvD.p53 {d : Nat} {x : Int32} (h : IvD J d) (hd : d < 2) (hx : is01 x) : IvD (uJ J 53 d x) d := h.put (by decide) hd (fun _ => hx) (fun e => absurd e (by decide)) (fun e => absurd e (by decide)) (fun e => absurd e (by decide)) (fun e => absurd e (by decide)) (fun e => absurd e (by decide)) (fun e => absurd e (by decide)) (fun e => absurd e (by decide)) (fun e => absurd e (by decide)) (fun e => absurd e (by decide)) (fun e => absurd e (by decide)) (fun e => absurd e (by decide))
theorem IvD.p56 {d : Nat} {x : Int32} (h : IvD J d) (hd : d < 2) (hx : is01 x ∧ (x = 0 ∨ ¬ J 55 d = -6)) : IvD (uJ J 56 d x) d := h.put (by decide) hd (fun e => absurd e (by decide)) (fun _ => hx) (fun e => absurd e (by decide)) (fun e => absurd e (by decide)) (fun e => absurd e (by decide)) (fun e => absurd e (by decide)) (fun e => absurd e (by decide)) (fun e => absurd e (by decide)) (fun e => absurd e (by decide)) (fun e => absurd e (by decide)) (fun e => absurd e (by decide)) (fun e => absurd e (by decide))
theorem IvD.p58 {d : Nat} {x : Int32} (h : IvD J d) (hd : d < 2) (hx : is01 x) : IvD (uJ J 58 d x) d := h.put (by decide) hd (fun e => absurd e (by decide)) (fun e => absurd e (by decide)) (fun _ => hx) (fun e => absurd e (by decide)) (fun e => absurd e (by decide)) (fun e => absurd e (by decide)) (fun e => absurd e (by decide)) (fun e => absurd e (by decide)) (fun e => absurd e (by decide)) (fun e => absurd e (by decide)) (fun e => absurd e (by decide)) (fun e => absurd e (by decide))
theorem IvD.p62 {d : Nat} {x : Int32} (h : IvD J d) (hd : d < 2) (hx : is01 x ∧ (x = 0 ∨ (d = 1 ∧ J 63 d = J 26 45))) : IvD (uJ J 62 d x) d := h.put (by decide) hd (fun e => absurd e (by decide)) (fun e => absurd e (by decide)) (fun e => absurd e (by decide)) (fun _ => hx) (fun e => absurd e (by decide)) (fun e => absurd e (by decide)) (fun e => absurd e (by decide)) (fun e => absurd e (by decide)) (fun e => absurd e (by decide)) (fun e => absurd e (by decide)) (fun e => absurd e (by decide)) (fun e => absurd e (by decide))
theorem IvD.p64 {d : Nat} {x : Int32} (h : IvD J d) (hd : d < 2) (hx : is01 x) : IvD (uJ J 64 d x) d := h.put (by decide) hd (fun e => absurd e (by decide)) (fun e => absurd e (by decide)) (fun e => absurd e (by decide)) (fun e => absurd e (by decide)) (fun _ => hx) (fun e => absurd e (by decide)) (fun e => absurd e (by decide)) (fun e => absurd e (by decide)) (fun e => absurd e (by decide)) (fun e => absurd e (by decide)) (fun e => absurd e (by decide)) (fun e => absurd e (by decide))
theorem IvD.p54 {d : Nat} {x : Int32} (h : IvD J d) (hd : d < 2) (hx : x = -6 ∨ ∃ n, n < num J d ∧ x = nI n) : IvD (uJ J 54 d x) d := h.put (by decide) hd (fun e => absurd e (by decide)) (fun e => absurd e (by decide)) (fun e => absurd e (by decide)) (fun e => absurd e (by decide)) (fun e => absurd e (by decide)) (fun _ => hx) (fun e => absurd e (by decide)) (fun e => absurd e (by decide)) (fun e => absurd e (by decide)) (fun e => absurd e (by decide)) (fun e => absurd e (by decide)) (fun e => absurd e (by decide))
theorem IvD.p55 {d : Nat} {x : Int32} (h : IvD J d) (hd : d < 2) (hx : ∃ n, n < num J (1 - d) ∧ x = nI n ∧ J 73 (300 * (1 - d) + n) = 1) : IvD (uJ J 55 d x) d := h.put (by decide) hd (fun e => absurd e (by decide)) (fun e => absurd e (by decide)) (fun e => absurd e (by decide)) (fun e => absurd e (by decide)) (fun e => absurd e (by decide)) (fun e => absurd e (by decide)) (fun _ => hx) (fun e => absurd e (by decide)) (fun e => absurd e (by decide)) (fun e => absurd e (by decide)) (fun e => absurd e (by decide)) (fun e => absurd e (by decide))
theorem IvD.p57 {d : Nat} {x : Int32} (h : IvD J d) (hd : d < 2) (hx : upTo x 8000) : IvD (uJ J 57 d x) d := h.put (by decide) hd (fun e => absurd e (by decide)) (fun e => absurd e (by decide)) (fun e => absurd e (by decide)) (fun e => absurd e (by decide)) (fun e => absurd e (by decide)) (fun e => absurd e (by decide)) (fun e => absurd e (by decide)) (fun _ => hx) (fun e => absurd e (by decide)) (fun e => absurd e (by decide)) (fun e => absurd e (by decide)) (fun e => absurd e (by decide))
theorem IvD.p59 {d : Nat} {x : Int32} (h : IvD J d) (hd : d < 2) (hx : upTo x 8000) : IvD (uJ J 59 d x) d := h.put (by decide) hd (fun e => absurd e (by decide)) (fun e => absurd e (by decide)) (fun e => absurd e (by decide)) (fun e => absurd e (by decide)) (fun e => absurd e (by decide)) (fun e => absurd e (by decide)) (fun e => absurd e (by decide)) (fun e => absurd e (by decide)) (fun _ => hx) (fun e => absurd e (by decide)) (fun e => absurd e (by decide)) (fun e => absurd e (by decide))
theorem IvD.p65 {d : Nat} {x : Int32} (h : IvD J d) (hd : d < 2) (hx : upTo x 50) : IvD (uJ J 65 d x) d := h.put (by decide) hd (fun e => absurd e (by decide)) (fun e => absurd e (by decide)) (fun e => absurd e (by decide)) (fun e => absurd e (by decide)) (fun e => absurd e (by decide)) (fun e => absurd e (by decide)) (fun e => absurd e (by decide)) (fun e => absurd e (by decide)) (fun e => absurd e (by decide)) (fun _ => hx) (fun e => absurd e (by decide)) (fun e => absurd e (by decide))
theorem IvD.p63 {d : Nat} {x : Int32} (h : IvD J d) (hd : d < 2) (hx : J 62 d = 0 ∨ (d = 1 ∧ x = J 26 45)) : IvD (uJ J 63 d x) d := h.put (by decide) hd (fun e => absurd e (by decide)) (fun e => absurd e (by decide)) (fun e => absurd e (by decide)) (fun e => absurd e (by decide)) (fun e => absurd e (by decide)) (fun e => absurd e (by decide)) (fun e => absurd e (by decide)) (fun e => absurd e (by decide)) (fun e => absurd e (by decide)) (fun e => absurd e (by decide)) (fun _ => hx) (fun e => absurd e (by decide))
theorem IvD.p47 {d : Nat} {x : Int32} (h : IvD J d) (hd : d < 2) (hx : ∃ b, 120 ≤ b ∧ b < 2 ^ 31 ∧ x = nI b) : IvD (uJ J 47 d x) d := h.put (by decide) hd (fun e => absurd e (by decide)) (fun e => absurd e (by decide)) (fun e => absurd e (by decide)) (fun e => absurd e (by decide)) (fun e => absurd e (by decide)) (fun e => absurd e (by decide)) (fun e => absurd e (by decide)) (fun e => absurd e (by decide)) (fun e => absurd e (by decide)) (fun e => absurd e (by decide)) (fun e => absurd e (by decide)) (fun _ => hx)
theorem IvS.rd1 {s : Nat} {n : Int32} (h : IvS J s) (h1 : 1 ≤ n.toInt) (h2 : n.toInt ≤ 1000) : IvS (uJ J 39 s (J 39 s + rdN J s n)) s := by
  obtain ⟨a1, ⟨w, f, b1, b2, b3, b4, b5⟩, ⟨p, r, c1, c2, c3, c4⟩, d1, d2, d3⟩ := h
  obtain ⟨m, hm, rfl⟩ := ofIx2 (x := n) (N := 1001) ⟨by omega, by omega⟩
  have e36 : ∀ x, byt (uJ J 39 s x) s = byt J s := fun x => by funext j; unfold byt; rw [uJ_ne (by decide)]
  have e37 : ∀ x, cam (uJ J 39 s x) s = cam J s := fun x => by funext j; unfold cam; rw [uJ_ne (by decide)]
  have hv : ∃ v, rdN J s (nI m) = nI v ∧ v ≤ p - r := by
    unfold rdN
    rw [c1, c2, pk_sub c3]
    by_cases q : p - r < m
    · rw [if_pos ((nI_ltI (by omega) (by omega)).mpr q)]; exact ⟨p - r, rfl, Nat.le_refl _⟩
    · rw [if_neg (fun z => q ((nI_ltI (by omega) (by omega)).mp z))]; exact ⟨m, rfl, by omega⟩
  obtain ⟨v, hv1, hv2⟩ := hv
  unfold IvS
  rw [e36, e37, uJ_ne (by decide), uJ_ne (by decide), uJ_ne (by decide), uJ_ne (by decide), uJ_ne (by decide), uJ_ne (by decide), uJ_ne (by decide), uJ_ne (by decide), uJ_ne (by decide), uJ_ne (by decide), uJ_ne (by decide), uJ_same, uJ_ne (by decide), uJ_ne (by decide)]
  refine ⟨a1, ⟨w, f, b1, b2, b3, b4, b5⟩, ⟨p, r + v, c1, ?_, by omega, c4⟩, d1, d2, d3⟩
  rw [c2, hv1]; exact nI_add r v
theorem c_read {Q : Int32 → Sto → Prop} {p n : Int32} (hR : Rel T J) (h1 : ¬ (0 ≤ p.toInt ∧ p.toInt < 8) → Q (-1) T)
    (h2 : ∀ s, s < 8 → p = nI s → (¬ (1 ≤ n.toInt ∧ n.toInt ≤ 1000) → Q (-2) T) ∧ (1 ≤ n.toInt ∧ n.toInt ≤ 1000 → ∀ T', Fr T T' → Rel T' (rd3 J s n) → Q (rdN J s n) T')) : Ci K4_read [vr 0, vi p, vi n] T Q := by
  refine e4_read hR.f (c_stream hR.f h1 (fun s hs e => ?_))
  obtain ⟨k1, k2⟩ := h2 s hs e
  subst e
  have gS := (hR.s hs).1
  have gG := hR.g
  rw [gS 11 (by decide), gS 12 (by decide), mod2 hs]
  have tt : (nI (1 - s % 2)).toNatClampNeg = 1 - s % 2 := tnN (by omega)
  have hix : 0 ≤ (nI (1 - s % 2)).toInt ∧ (nI (1 - s % 2)).toInt < (2 : Nat) := ixN (by omega) (by decide)
  rw [tt]
  refine ⟨fun hc => k1 (fun q => ?_), fun hc => ⟨fun hd => ?_, fun hd => k1 (fun q => ?_)⟩⟩
  · rw [show (1 : Int32) = nI 1 from rfl, l32_lt _ _ (by decide)] at hc; omega
  · rw [show (1 : Int32) = nI 1 from rfl, l32_lt _ _ (by decide)] at hc
    rw [show (1000 : Int32) = nI 1000 from rfl, l32_le _ _ (by decide)] at hd
    have hn : 1 ≤ n.toInt ∧ n.toInt ≤ 1000 := by omega
    replace k2 := k2 hn
    have hv : (if (J (rs 11) s - J (rs 12) s) < n then (J (rs 11) s - J (rs 12) s) else n) = rdN J s n := rfl
    rw [hv]
    have R1 : Rel (pI T (3 + 2 * s) 12 (J (rs 12) s + rdN J s n)) (rd1 J s n) := hR.putS hs (k := 12) (by decide) ((hR.vs hs).rd1 hn.1 hn.2)
    generalize hT1 : pI T (3 + 2 * s) 12 (J (rs 12) s + rdN J s n) = T1 at R1 ⊢
    have F1 : Fr T T1 := by rw [← hT1]; exact Fr.rfl'.p (by omega)
    have S1 := (R1.s hs).1
    have G1 := R1.g
    have e1 : gI T1 (3 + 2 * s) 12 = J 39 s + rdN J s n := (S1 12 (by decide)).trans uJ_same
    have e2 : gI T1 (3 + 2 * s) 13 = J 40 s := (S1 13 (by decide)).trans (by show rd1 J s n 40 s = _; unfold rd1; rw [uJ_ne (by decide)])
    have e3 : gI T1 0 6 = J 26 1 := (G1 6 (by decide)).trans (by show rd1 J s n 26 1 = _; unfold rd1; rw [uJ_ne (by decide)])
    rw [e1, e2, e3]
    have key : ∀ T2 J2, Fr T T2 → Rel T2 J2 → J2 26 = J 26 → J2 59 = J 59 → (if sm (J2 39) (s % 2) + J 26 2 - J 59 (1 - s % 2) < J 26 2 / 2 then J2 else uJ J2 58 (1 - s % 2) 1) = rd3 J s n →
        Ci K4_readBy [vr 0, vr (20 + 3 * (1 - s % 2))] T2 (fun x9 S9 => (((x9 + (gI S9 0 7)) - (gI S9 (20 + 3 * (1 - s % 2)) 9)) < ((gI S9 0 7) / 2) → (Q (rdN J s n) S9)) ∧ (¬ ((x9 + (gI S9 0 7)) - (gI S9 (20 + 3 * (1 - s % 2)) 9)) < ((gI S9 0 7) / 2) → (Q (rdN J s n) (pI S9 (20 + 3 * (1 - s % 2)) 10 1)))) := by
      intro T2 J2 F2 R2 q26 q59 q3
      refine c_readBy R2.f (by omega) (R2.d (by omega)).2.2.1 ?_
      have b1 : gI T2 0 7 = J 26 2 := (R2.g 7 (by decide)).trans (by show J2 26 2 = _; rw [q26])
      have b2 : gI T2 (20 + 3 * (1 - s % 2)) 9 = J 59 (1 - s % 2) := ((R2.d (by omega)).1 9 (by decide)).trans (by show J2 59 _ = _; rw [q59])
      rw [b1, b2, show 1 - (1 - s % 2) = s % 2 by omega, R2.sm39 (by omega)]
      refine ⟨fun q => ?_, fun q => ?_⟩
      · rw [if_pos q] at q3; exact k2 T2 F2 (q3 ▸ R2)
      · rw [if_neg q] at q3
        refine k2 _ (F2.p (by omega)) (q3 ▸ R2.putD (by omega) (k := 10) (by decide) (by decide) ?_)
        exact (R2.vd (by omega)).p58 (by omega) (Or.inr rfl)
    have u26 : rd1 J s n 26 = J 26 := uJ_ne (by decide)
    have u59 : rd1 J s n 59 = J 59 := uJ_ne (by decide)
    refine ⟨fun q => ⟨hix, key T1 _ F1 R1 u26 u59 ?_⟩, fun q => ⟨hix, ?_⟩⟩
    · have : rd2 J s n = rd1 J s n := if_pos q
      unfold rd3; rw [this]
    · refine key _ (uJ (rd1 J s n) 41 s 1) (F1.p (by omega)) (R1.putS hs (k := 14) (by decide) ((R1.vs hs).flag (r := 41) (by decide) (Or.inr rfl))) (by rw [uJ_ne (by decide)]; exact u26) (by rw [uJ_ne (by decide)]; exact u59) ?_
      have : rd2 J s n = uJ (rd1 J s n) 41 s 1 := if_neg q
      unfold rd3; rw [this]
  · rw [show (1000 : Int32) = nI 1000 from rfl, l32_le _ _ (by decide)] at hd; omega
end OPS2
