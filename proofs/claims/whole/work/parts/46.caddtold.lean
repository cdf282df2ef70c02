section CADDTOLD
variable {T : Sto} {J : Rows}
theorem Pk.keep2 {T' : Sto} {J' : Rows} {d p m : Nat} (h : Pk T J d p m) (hI : gI T' p = gI T p) (hI1 : gI T' (p + 1) = gI T (p + 1)) (hg : gR T' = gR T) (hs : sN T' = sN T) (h26 : J' 26 = J 26) (h44 : J' 44 = J 44) (h68 : J' 68 = J 68) (h69 : J' 69 = J 69) (h70 : J' 70 = J 70) (h74 : J' 74 = J 74) (hf : ∀ i, i < 8 → frs J i ≤ frs J' i) : Pk T' J' d p m := by
  have nm : ∀ d, num J' d = num J d := fun d => num_of (by rw [h44])
  have pr : ∀ q k w, prt J' q k w = prt J q k w := fun q k w => by unfold prt; rw [h74]
  obtain ⟨a1, a2, a3, a4, a5, a6, a7, a8, a9, a10, a11, a12⟩ := h
  unfold Pk
  rw [nm d, h26, h68, h69, h70, hI, hI1]
  refine ⟨a1.mono (by rw [hs]; exact Nat.le_refl _), fun d' n p' q1 q2 q3 => a2 d' n p' q1 (by rw [← nm]; exact q2) (by rw [← hg]; exact q3), a3, a4, a5, a6, a7, a8, a9, a10, fun k w hk hw => by rw [pr]; exact a11 k w hk hw, fun k hk => ?_⟩
  rw [pr, pr, pr, pr]
  exact ⟨(a12 k hk).1.fr hf, (a12 k hk).2⟩
/-- the spans of the class: c of them -/
def SpI (g : Nat → Int32) (c : Nat) (lo hi : Nat → Nat) : Prop := ∀ j, j < 4 → (j < c → g (2 * j) = nI (lo j) ∧ g (2 * j + 1) = nI (hi j)) ∧ (¬ j < c → g (2 * j) = -6 ∧ g (2 * j + 1) = -6)
def Gd (T T' : Sto) (p : Nat) : Prop := (∀ a, a ≠ p + 2 → gI T' a = gI T a) ∧ gR T' = gR T ∧ sN T' = sN T
theorem Gd.put {T' : Sto} {p k : Nat} {x : Int32} (h : Gd T T' p) : Gd T (pI T' (p + 2) k x) p := ⟨fun a ha => by rw [gI_ne ha]; exact h.1 a ha, h.2.1, h.2.2⟩
theorem agQ.rfl' {q : Nat} : agQ J J q := ⟨fun _ _ _ _ _ _ _ _ _ => rfl, fun _ _ => rfl, fun _ _ _ _ _ => rfl, fun _ _ => rfl, fun _ _ => rfl⟩
theorem c_addTold {d p : Nat} {Q : Sto → Prop} (h : Fil T J d p 0) (hd : d < 2) (h56 : ¬ J 56 d = 0) (hs : ∀ j, j < 8 → gI T (p + 2) j = -6) (hw : J 68 (300 * d + num J d) = nI 10)
    (hQ : ∀ T', Ev T T' → Fil T' (spTl J d (300 * d + num J d)) d p 1 → Spq T' (spTl J d (300 * d + num J d)) d p 1 → Q T') : Cv K4_addTold [vr 0, vr (20 + 3 * d), vr p] T Q := by
  obtain ⟨hR, hP⟩ := h
  have hal := hP.1
  have p79 := al79 hal
  have pm := kd1_3 hal
  obtain ⟨hh, hh1, h55, h73⟩ : ∃ n, n < num J (1 - d) ∧ J 55 d = nI n ∧ J 73 (300 * (1 - d) + n) = 1 := by
    rcases (hR.vd hd).2.2.2.2.2.2.2.1 with z | z
    · rcases (hR.vd hd).2.2.2.2.2.2.2.2.1 with y | y
      · exact absurd y h56
      · exact absurd z y
    · exact z
  have n3 := hR.nle (show 1 - d < 2 by omega)
  have eH : tH J d = hh := by unfold tH; rw [h55]; exact ntn_nI (by omega)
  have e0 : gI T (20 + 3 * d) 0 = nI d := (hR.d hd).2.2.1
  have e6 : gI T (20 + 3 * d) 6 = nI hh := by rw [← h55]; exact (hR.d hd).1 6 (by decide)
  have good : ∀ T', Gd T T' p → Rel T' J := fun T' g => hR.fil hd hP.2.2.1 (hR.f.same g.2.1 g.2.2) g.2.2 g.2.1 (fun a _ _ h3 => g.1 a h3) hal hP.2.1 agQ.rfl'
  have hf0 : ¬ tF J d hh = 0 := by
    show ¬ J 73 (300 * (1 - d) + hh) = 0
    rw [h73]; decide
  refine e4_addTold hR.f (hR.f.sd hd) hal (fun X O => ?_)
  rw [e0, sub_one' d hd, e6, tnN (by omega)]
  refine ⟨ixN (by omega) (by decide), ?_⟩
  -- the part is put
  have fin : ∀ c T', Gd T T' p → 1 ≤ c → c ≤ 4 → (∀ j, j < c → 0 < hpF (tF J d) hh j) → (c = 4 ∨ hpF (tF J d) hh c = 0) → SpI (gI T' (p + 2)) c (loF (tF J d) hh) (hiF (tF J d) hh) → Ci K1_add [vr p, vi 1, vi 0, vi 0, vi (nI c)] T' (fun x3 S3 => (x3 = 0 → (Q S3)) ∧ (¬ x3 = 0 → (Q (pI S3 (20 + 3 * d) 7 0)))) := by
    intro c T' g c1 c4 hp he hsp
    have em : tM J d = c := by unfold tM; rw [eH]; exact mSp_eq c1 c4 hp he
    have R0 := good T' g
    have P0 : Pk T' J d p 0 := hP.keep2 (g.1 p (by omega)) (g.1 (p + 1) (by omega)) g.2.1 g.2.2 rfl rfl rfl rfl rfl rfl (fun _ _ => Nat.le_refl _)
    have ew : wOf 1 (nI c) = nI (6 + 4 * (c - 1)) := tld_sz c c1 c4
    obtain ⟨w, r, e68, eR, w10, wr, r1⟩ := hP.2.2.2.2.2.2.2.2.1
    have r60 : 60 ≤ r := by
      obtain ⟨r', a1, a2, a3⟩ := hR.vg.1
      rw [eR] at a3
      have := nI_nj (by omega) (by omega) a3
      omega
    have hfit : fits J (300 * d + num J d) (nI (6 + 4 * (c - 1))) := by
      unfold fits
      rw [hw, eR, nI_add, nI_leI (by omega) (by omega)]; omega
    refine c_add R0.f P0 (by decide) (by omega) ew (fun z => absurd hfit z) (fun _ => ⟨fun z => absurd z (by decide), fun _ => ?_⟩)
    -- the rows
    have j1 : ∀ r, r ≠ 75 → spSp J (300 * d + num J d) (tF J d) hh c r = J r := fun r hr => spSp_ne hr
    have nm : ∀ d', num (spSp J (300 * d + num J d) (tF J d) hh c) d' = num J d' := fun d' => num_of (by rw [j1 44 (by decide)])
    have ag : agQ J (spSp J (300 * d + num J d) (tF J d) hh c) (300 * d + num J d) := ⟨fun r _ _ _ _ _ _ _ h8 => j1 r h8, fun j _ => by rw [j1 26 (by decide)], fun r k a b _ => by rw [j1 r (by omega)], fun k _ => by rw [j1 74 (by decide)], fun k hk => spSp_o (by omega)⟩
    have F1 : Fil T' (spSp J (300 * d + num J d) (tF J d) hh c) d p 0 := ⟨hR.fil hd hP.2.2.1 R0.f g.2.2 g.2.1 (fun a _ _ h3 => g.1 a h3) hal hP.2.1 ag, P0.keep2 rfl rfl rfl rfl (j1 26 (by decide)) (j1 44 (by decide)) (j1 68 (by decide)) (j1 69 (by decide)) (j1 70 (by decide)) (j1 74 (by decide)) (fun i _ => frs_eq (j1 31 (by decide)) i)⟩
    have F2 := F1.add (kind := 1) (z := 6 + 4 * (c - 1)) (a := 0) (b := 0) (c := nI c) hd (by decide) (by omega) (by rw [nm]; unfold fits; rw [j1 68 (by decide), j1 26 (by decide)]; exact hfit) (Or.inl ⟨rfl, rfl, rfl, c, c1, c4, rfl⟩) (fun _ => rfl)
    rw [nm, j1 68 (by decide)] at F2
    have R3 := F2.1.putD hd (k := 7) (x := 0) (by decide) (by decide) ((F2.1.vd hd).p56 hd ⟨Or.inl rfl, Or.inl rfl⟩)
    have es : spTl J d (300 * d + num J d) = uJ (spPut (spSp J (300 * d + num J d) (tF J d) hh c) (300 * d + num J d) 1 (nI (6 + 4 * (c - 1))) 0 0 (nI c)) 56 d 0 := by
      unfold spTl
      rw [em, eH]
    have P3 : Pk (pI (adS T' p 0 1 (nI (6 + 4 * (c - 1))) 0 0 (nI c) (J 68 (300 * d + num J d))) (20 + 3 * d) 7 0) (spTl J d (300 * d + num J d)) d p 1 := by
      rw [es]
      exact F2.2.keep (fun a ha => gI_ne (by omega)) rfl rfl (uJ_ne (by decide)) (uJ_ne (by decide)) (uJ_ne (by decide)) (uJ_ne (by decide)) (uJ_ne (by decide)) (uJ_ne (by decide)) (fun i _ => frs_eq (uJ_ne (by decide)) i)
    have E : Ev T (pI (adS T' p 0 1 (nI (6 + 4 * (c - 1))) 0 0 (nI c) (J 68 (300 * d + num J d))) (20 + 3 * d) 7 0) := by
      refine ⟨fun a h1 h2 => ?_, by rw [sN_pI, adS_n]; exact g.2.2, by rw [gR_pI, adS_R]; exact g.2.1⟩
      rw [gI_ne (by omega), adS_o (by omega) (by omega)]; exact g.1 a (by omega)
    refine hQ _ E ⟨by rw [es]; exact R3, P3⟩ ?_
    have f69 : spSp J (300 * d + num J d) (tF J d) hh c 69 (300 * d + num J d) = nI 0 := by rw [j1 69 (by decide)]; exact hP.2.2.2.2.2.2.2.1.2.1
    have q0 : prt (spTl J d (300 * d + num J d)) (300 * d + num J d) 0 0 = 1 := by
      have := spPut_prt (J := spSp J (300 * d + num J d) (tF J d) hh c) (q := 300 * d + num J d) (k := 0) (w := 0) (kind := 1) (sz := nI (6 + 4 * (c - 1))) (a := 0) (b := 0) (c := nI c) f69 (by decide) (by decide)
      rw [if_pos rfl, if_pos rfl] at this
      rw [es]
      exact this
    have q3 : prt (spTl J d (300 * d + num J d)) (300 * d + num J d) 0 3 = nI c := by
      have := spPut_prt (J := spSp J (300 * d + num J d) (tF J d) hh c) (q := 300 * d + num J d) (k := 0) (w := 3) (kind := 1) (sz := nI (6 + 4 * (c - 1))) (a := 0) (b := 0) (c := nI c) f69 (by decide) (by decide)
      rw [if_pos rfl, if_neg (by decide), if_neg (by decide), if_neg (by decide)] at this
      rw [es]
      exact this
    have q75 : ∀ k, spTl J d (300 * d + num J d) 75 k = spSp J (300 * d + num J d) (tF J d) hh c 75 k := fun k => by rw [es, uJ_ne (by decide), spPut_ne (by decide) (by decide) (by decide) (by decide)]
    have q44 : ∀ d', num (spTl J d (300 * d + num J d)) d' = num J d' := fun d' => num_of (by rw [es, uJ_ne (by decide), spPut_ne (by decide) (by decide) (by decide) (by decide), j1 44 (by decide)])
    have lt : ∀ j, j < 4 → (nI j < nI c ↔ j < c) := fun j hj => nI_ltI (by omega) (by omega)
    unfold Spq
    rw [q44 d, q44 (1 - d), q0, q3, gI_ne (by omega), adS_o (by omega) (by omega)]
    refine ⟨fun j hj => ⟨fun z => ?_, fun z => ?_⟩, fun _ _ => ⟨loF (tF J d) hh, hiF (tF J d) hh, fun j hj hj4 => ?_, fun j hj hj3 => ?_⟩⟩
    · have hjc := (lt j hj).mp z.2.2
      obtain ⟨s1, s2⟩ := (hsp j hj).1 hjc
      obtain ⟨t1, t2⟩ := spSp_at (J := J) (q := 300 * d + num J d) (h := hh) (k := c) (f := tF J d) j hjc
      rw [q75, q75, t1, t2]; exact ⟨s1, s2⟩
    · exact (hsp j hj).2 (fun y => z ⟨by decide, rfl, (lt j hj).mpr y⟩)
    · have hjc := (lt j hj4).mp hj
      obtain ⟨t1, t2⟩ := spSp_at (J := J) (q := 300 * d + num J d) (h := hh) (k := c) (f := tF J d) j hjc
      rw [q75, q75, t1, t2]
      have := spn_hi (f := tF J d) (h := hh) j
      exact ⟨rfl, rfl, spn_le, by omega⟩
    · have hjc : j + 1 < c := by rw [nI_ltI (by omega) (by omega)] at hj; exact hj
      exact hp_mono hp j hjc
  -- the walk down
  have loop : ∀ (n c : Nat) (T' : Sto), n ≤ hh + 1 → Gd T T' p → c ≤ 4 → (∀ j, j < c → 0 < hpF (tF J d) hh j) →
      ((n < hh + 1 → 1 ≤ c) → dnF (tF J d) n = hpF (tF J d) hh c → SpI (gI T' (p + 2)) c (loF (tF J d) hh) (hiF (tF J d) hh) → WP X 24 [(1, vr (20 + 3 * d)), (2, vr p), (3, vr (20 + 3 * (1 - d))), (4, vi (nI c)), (5, vi 0), (6, vi (pre1 n))] [] T' 0 0) ∧
      (1 ≤ c → lwF (tF J d) n = loF (tF J d) hh (c - 1) → SpI (gI T' (p + 2)) c (fun j => if j = c - 1 then n else loF (tF J d) hh j) (hiF (tF J d) hh) → WP X 24 [(1, vr (20 + 3 * d)), (2, vr p), (3, vr (20 + 3 * (1 - d))), (4, vi (nI c)), (5, vi 1), (6, vi (pre1 n))] [] T' 0 0) := by
    intro n
    induction n with
    | zero =>
      intro c T' hn g c4 hp
      have R := good T' g
      have hal' : al T' p 1 := hal.mono (by rw [g.2.2]; exact Nat.le_refl _)
      have nS : sN T ≤ sN T' := by rw [g.2.2]; exact Nat.le_refl _
      have neg : pre1 0 < 0 := by decide
      refine ⟨fun k1 k2 k3 => ?_, fun k1 k2 k3 => ?_⟩
      · have c1 := k1 (by omega)
        refine s4_addTold_24 R.f nS O (R.f.sd hd) hal' (R.f.sd (by omega)) ⟨fun _ => ⟨fun hc => ?_, fun _ => fin c T' g c1 c4 hp (Or.inr k2.symm) k3⟩, fun hc => absurd neg hc⟩
        exfalso
        rw [show (0 : Int32) = nI 0 from rfl, nI_leI (by omega) (by omega)] at hc; omega
      · refine s4_addTold_24 R.f nS O (R.f.sd hd) hal' (R.f.sd (by omega)) ⟨fun _ => ⟨fun hc => ?_, fun _ => fin c T' g k1 c4 hp (Or.inr ?_) ?_⟩, fun hc => absurd neg hc⟩
        · exfalso
          rw [show (0 : Int32) = nI 0 from rfl, nI_leI (by omega) (by omega)] at hc; omega
        · have : hpF (tF J d) hh (c - 1 + 1) = dnF (tF J d) (loF (tF J d) hh (c - 1)) := rfl
          rw [show c - 1 + 1 = c by omega, ← k2] at this
          rw [this]; rfl
        · intro j hj
          refine ⟨fun hjc => ?_, fun hjc => (k3 j hj).2 hjc⟩
          have := (k3 j hj).1 hjc
          dsimp only at this
          by_cases z : j = c - 1
          · rw [if_pos z] at this
            rw [z, ← k2, ← z]; exact this
          · rw [if_neg z] at this; exact this
    | succ n ih =>
      intro c T' hn g c4 hp
      have R := good T' g
      have hal' : al T' p 1 := hal.mono (by rw [g.2.2]; exact Nat.le_refl _)
      have nS : sN T ≤ sN T' := by rw [g.2.2]; exact Nat.le_refl _
      have ep : pre1 (n + 1) = nI n := by unfold pre1; rw [if_neg (by omega)]; rfl
      have nneg : ¬ nI n < 0 := fun z => ltle z (nI_ge0 (by omega))
      obtain ⟨-, p', hp', -, hK⟩ := R.pk (d := 1 - d) (n := n) (by omega) (by omega)
      have e12 : gI T' p' 12 = tF J d n := hK.1 12 (by decide)
      rw [ep]
      -- what is asked of the other side's packet
      have ask : ∀ (l5 : Int32), (tF J d n = 0 → WP X 24 [(1, vr (20 + 3 * d)), (2, vr p), (3, vr (20 + 3 * (1 - d))), (4, vi (nI c)), (5, vi 0), (6, vi (nI n + (-1)))] [] T' 0 0) →
          (¬ tF J d n = 0 → (¬ l5 = 0 → ((0 ≤ (((2 * nI c) - 2) : Int32).toInt ∧ (((2 * nI c) - 2) : Int32).toInt < (8 : Nat)) ∧ (WP X 24 [(1, vr (20 + 3 * d)), (2, vr p), (3, vr (20 + 3 * (1 - d))), (4, vi (nI c)), (5, vi 1), (6, vi (nI n + (-1)))] [] (pI T' (p + 2) ((2 * nI c) - 2).toNatClampNeg (nI n)) 0 0))) ∧
            (l5 = 0 → ((¬ nI c = 4 → ((0 ≤ (((2 * nI c) + 1) : Int32).toInt ∧ (((2 * nI c) + 1) : Int32).toInt < (8 : Nat)) ∧ ((0 ≤ (((2 * (nI c + 1)) - 2) : Int32).toInt ∧ (((2 * (nI c + 1)) - 2) : Int32).toInt < (8 : Nat)) ∧ (WP X 24 [(1, vr (20 + 3 * d)), (2, vr p), (3, vr (20 + 3 * (1 - d))), (4, vi (nI c + 1)), (5, vi 1), (6, vi (nI n + (-1)))] [] (pI (pI T' (p + 2) ((2 * nI c) + 1).toNatClampNeg (nI n)) (p + 2) ((2 * (nI c + 1)) - 2).toNatClampNeg (nI n)) 0 0)))) ∧ (nI c = 4 → ((nI c ≤ 0 → (Q T')) ∧ (¬ nI c ≤ 0 → (Ci K1_add [vr p, vi 1, vi 0, vi 0, vi (nI c)] T' (fun x23 S23 => (x23 = 0 → (Q S23)) ∧ (¬ x23 = 0 → (Q (pI S23 (20 + 3 * d) 7 0))))))))))) →
          WP X 24 [(1, vr (20 + 3 * d)), (2, vr p), (3, vr (20 + 3 * (1 - d))), (4, vi (nI c)), (5, vi l5), (6, vi (nI n))] [] T' 0 0 := by
        intro l5 w0 w1
        refine s4_addTold_24 R.f nS O (R.f.sd hd) hal' (R.f.sd (by omega)) ⟨fun hc => absurd hc nneg, fun _ => ?_⟩
        refine c_packetAt R (d := 1 - d) (by omega) (by omega) hp' ⟨fun b hb => by cases hb; exact (R.pk (d := 1 - d) (n := n) (by omega) (by omega)).elim (fun _ ⟨p2, q1, q2, _⟩ => by rw [hp'] at q1; cases q1; exact q2), fun b hb => ?_, fun hb => by cases hb⟩
        cases hb
        intro w9 hw9
        rw [e12] at hw9
        by_cases c0 : tF J d n = 0
        · rw [if_pos c0] at hw9
          subst hw9
          exact ⟨fun _ => ⟨fun _ => w0 c0, fun z => absurd rfl z⟩, fun z => absurd rfl z⟩
        · rw [if_neg c0] at hw9
          subst hw9
          obtain ⟨v1, v2⟩ := w1 c0
          refine ⟨fun z => absurd z (by decide), fun _ => ⟨fun z => ⟨fun z => absurd z (by decide), fun _ => v1 z⟩, fun z => ⟨fun z4 => ?_, fun z4 => (v2 z).2 z4⟩⟩⟩
          obtain ⟨x1, x2, x3⟩ := (v2 z).1 z4
          exact ⟨x1, fun z => absurd z (by decide), fun _ => ⟨x2, x3⟩⟩
      refine ⟨fun k1 k2 k3 => ?_, fun k1 k2 k3 => ?_⟩
      · refine ask 0 (fun c0 => ?_) (fun c0 => ⟨fun z => absurd rfl z, fun _ => ⟨fun c4' => ?_, fun c4' => ?_⟩⟩)
        · rw [pre1_m n (by omega)]
          refine (ih c T' (by omega) g c4 hp).1 (fun z => ?_) (by rw [← k2]; exact (if_pos c0).symm) k3
          rcases (show n = hh ∨ n < hh by omega) with y | y
          · subst y; exact absurd c0 hf0
          · exact k1 (by omega)
        · have hc4 : c < 4 := by
            rcases (show c < 4 ∨ c = 4 by omega) with y | y
            · exact y
            · subst y; exact absurd rfl c4'
          have hpc : hpF (tF J d) hh c = n + 1 := by rw [← k2]; exact if_neg c0
          have i1 : (2 * nI c + 1 : Int32) = nI (2 * c + 1) := by rw [show (2 : Int32) = nI 2 from rfl, pk_mul, nI_suc]
          have i2 : (2 * (nI c + 1) - 2 : Int32) = nI (2 * c) := by rw [nI_suc, show (2 : Int32) = nI 2 from rfl, pk_mul, pk_sub (by omega)]; congr 1
          rw [i1, i2, nI_suc, tnN (show 2 * c + 1 < 2 ^ 31 by omega), tnN (show 2 * c < 2 ^ 31 by omega), pre1_m n (by omega)]
          refine ⟨ixN (by omega) (by decide), ixN (by omega) (by decide), ?_⟩
          refine (ih (c + 1) _ (by omega) g.put.put (by omega) (fun j hj => ?_)).2 (by omega) ?_ ?_
          · by_cases y : j = c
            · subst y; omega
            · exact hp j (by omega)
          · show lwF (tF J d) n = lwF (tF J d) (hpF (tF J d) hh c - 1)
            rw [hpc]; rfl
          · intro j hj
            have hiC : hiF (tF J d) hh c = n := by unfold hiF; rw [hpc]; rfl
            rw [gI_eq, gI_eq, upd_at, upd_at, upd_at, upd_at]
            by_cases y : j = c
            · subst y
              rw [if_pos rfl, if_neg (by omega), if_pos rfl]
              refine ⟨fun _ => ⟨?_, by rw [hiC]⟩, fun z => absurd (Nat.lt_succ_self _) z⟩
              show nI n = nI (if j = j + 1 - 1 then n else _)
              rw [if_pos (by omega)]
            · rw [if_neg (by omega), if_neg (by omega), if_neg (by omega), if_neg (by omega)]
              refine ⟨fun z => ?_, fun z => (k3 j hj).2 (by omega)⟩
              have := (k3 j hj).1 (by omega)
              show _ = nI (if j = c + 1 - 1 then n else _) ∧ _
              rw [if_neg (by omega)]
              exact this
        · have hc4 : c = 4 := nI_nj (b := 4) (by omega) (by omega) c4'
          refine ⟨fun z => ?_, fun _ => fin c T' g (by omega) c4 hp (Or.inl hc4) k3⟩
          exfalso
          rw [hc4] at z
          exact absurd z (by decide)
      · refine ask 1 (fun c0 => ?_) (fun c0 => ⟨fun _ => ?_, fun z => absurd z (by decide)⟩)
        · rw [pre1_m n (by omega)]
          have hlo : n + 1 = loF (tF J d) hh (c - 1) := by rw [← k2]; exact (if_pos c0).symm
          refine (ih c T' (by omega) g c4 hp).1 (fun _ => k1) ?_ (fun j hj => ⟨fun hjc => ?_, fun hjc => (k3 j hj).2 hjc⟩)
          · have : hpF (tF J d) hh (c - 1 + 1) = dnF (tF J d) (loF (tF J d) hh (c - 1)) := rfl
            rw [show c - 1 + 1 = c by omega, ← hlo] at this
            rw [this]; exact (if_pos c0).symm
          · have := (k3 j hj).1 hjc
            dsimp only at this
            by_cases z : j = c - 1
            · rw [if_pos z] at this
              rw [z, ← hlo, ← z]; exact this
            · rw [if_neg z] at this; exact this
        · have i2 : (2 * nI c - 2 : Int32) = nI (2 * (c - 1)) := by rw [show (2 : Int32) = nI 2 from rfl, pk_mul, pk_sub (by omega)]; congr 1; omega
          rw [i2, tnN (show 2 * (c - 1) < 2 ^ 31 by omega), pre1_m n (by omega)]
          refine ⟨ixN (by omega) (by decide), ?_⟩
          refine (ih c _ (by omega) g.put c4 hp).2 k1 (by rw [← k2]; exact (if_neg c0).symm) (fun j hj => ?_)
          rw [gI_eq, upd_at, upd_at]
          by_cases y : j = c - 1
          · rw [if_pos (by omega), if_neg (by omega)]
            refine ⟨fun z => ⟨?_, ((k3 j hj).1 z).2⟩, fun z => absurd (by omega) z⟩
            show nI n = nI (if j = c - 1 then n else _)
            rw [if_pos y]
          · rw [if_neg (by omega), if_neg (by omega)]
            refine ⟨fun z => ?_, fun z => (k3 j hj).2 z⟩
            have := (k3 j hj).1 z
            dsimp only at this
            rw [if_neg y] at this
            show _ = nI (if j = c - 1 then n else _) ∧ _
            rw [if_neg y]; exact this
  have e1 : pre1 (hh + 1) = nI hh := by unfold pre1; rw [if_neg (by omega)]; rfl
  have := (loop (hh + 1) 0 T (Nat.le_refl _) ⟨fun _ _ => rfl, rfl, rfl⟩ (by decide) (fun j hj => by omega)).1 (fun z => by omega) (by show (if tF J d hh = 0 then _ else _) = hh + 1; exact if_neg hf0) (fun j hj => ⟨fun z => by omega, fun _ => ⟨hs _ (by omega), hs _ (by omega)⟩⟩)
  rw [e1] at this
  exact this
end CADDTOLD
