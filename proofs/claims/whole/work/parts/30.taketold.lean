section TAKETOLD
variable {T : Sto} {J : Rows}
theorem Rel.r78 {f : Nat → Int32} (h : Rel T J) : Rel T (w78 J f) := by
  have e : ∀ r, r ≠ 78 → w78 J f r = J r := fun r hr => w78_ne hr
  refine h.sid (d := 0) h.f rfl rfl (fun _ _ _ => rfl) (by decide) ⟨fun r a b => e r (by omega), fun r a b => e r (by omega), fun r d' a b c => by rw [e r (by omega)], e 44 (by decide)⟩ ((h.d (by decide)).ag ⟨fun r a b => by rw [e r (by omega)], fun n _ => ⟨by rw [e 70 (by decide)], by rw [e 71 (by decide)], by rw [e 72 (by decide)]⟩⟩)
    ((h.vd (by decide)).ag (fun r a b => by rw [e r (by omega)]) (num_of (by rw [e 44 (by decide)])) (fun n _ => by rw [e 73 (by decide)]) (by rw [e 26 (by decide)]) (h.nle (by decide)))
theorem spSet_71 {d q : Nat} : spSet J d q 71 = upd (J 71) q 1 := by
  unfold spSet
  rw [spArr_ne (by decide), uJ_at, if_pos rfl, spG_ne (by decide) (by decide)]
theorem spT_71 {d n n' : Nat} (h : n ≤ n') : spT J d n 71 (300 * d + n') = J 71 (300 * d + n') := by
  induction n with
  | zero => rfl
  | succ n ih =>
    unfold spT
    split
    · exact ih (by omega)
    · rw [spSet_71, upd_at, if_neg (by omega)]; exact ih (by omega)
theorem spT_gap {d N : Nat} : ∀ N', N ≤ N' → (∀ n, N ≤ n → n < N' → J 78 n = 0) → spT J d N' = spT J d N ∧ anyT J d N' = anyT J d N := by
  intro N' h
  induction N' with
  | zero => intro _; rw [show N = 0 by omega]; exact ⟨rfl, rfl⟩
  | succ n ih =>
    intro hz
    by_cases e : N = n + 1
    · subst e; exact ⟨rfl, rfl⟩
    · have z := hz n (by omega) (by omega)
      have e1 : spT J d (n + 1) = spT J d n := if_pos z
      have e2 : anyT J d (n + 1) = anyT J d n := if_pos z
      rw [e1, e2]
      exact ih (by omega) (fun n' a b => hz n' a (by omega))
theorem chain {lo hi : Nat → Nat} {m : Nat} (hl : ∀ j, j < m → lo j ≤ hi j) (hs : ∀ j, j + 1 < m → hi (j + 1) < lo j) : ∀ k, k < m → ∀ j, j < k → hi k < lo j := by
  intro k
  induction k with
  | zero => intro _ j hj; omega
  | succ k ih =>
    intro hk j hj
    have h1 := hs k hk
    by_cases e : j = k
    · subst e; exact h1
    · have h2 := ih (by omega) j (by omega)
      have h3 := hl k (by omega)
      omega
def pre1 (k : Nat) : Int32 := if k = 0 then -1 else nI (k - 1)
theorem pre1_s : ∀ k, k < 4 → nI k + (-1) = pre1 k := by decide
theorem c_takeTold {d nn p m : Nat} {lo hi : Nat → Nat} {Q : Sto → Prop} (hR : Rel T J) (hd : d < 2) (hnn : nn < num J (1 - d)) (hp : gR T (21 + 3 * (1 - d)) nn = some p) (h0 : prt J (300 * (1 - d) + nn) 0 0 = 1) (h3 : prt J (300 * (1 - d) + nn) 0 3 = nI m) (m1 : 1 ≤ m) (m4 : m ≤ 4)
    (hl : ∀ j, j < m → J 75 (8 * (300 * (1 - d) + nn) + 2 * j) = nI (lo j) ∧ J 75 (8 * (300 * (1 - d) + nn) + 2 * j + 1) = nI (hi j) ∧ lo j ≤ hi j ∧ hi j < num J d) (hs : ∀ j, j + 1 < m → hi (j + 1) < lo j)
    (h : ∀ T', Ev T T' → Rel T' (spTd J d lo hi m) → Q T') : Cv K4_takeTold [vr 0, vr (20 + 3 * d), vr p] T Q := by
  obtain ⟨-, p', hp', hal, hK⟩ := hR.pk (show 1 - d < 2 by omega) hnn
  rw [hp] at hp'
  cases hp'
  have p79 := al79 hal
  have n3 := hR.nle hd
  have spY : ∀ j, j < m → gI T (p + 2) (2 * j) = nI (lo j) ∧ gI T (p + 2) (2 * j + 1) = nI (hi j) := fun j hj => by
    have := (hK.2.2.2.2.2 j (by omega)).1 ⟨h0, by rw [h3, nI_ltI (by omega) (by omega)]; exact hj⟩
    exact ⟨this.1.trans (hl j hj).1, this.2.trans (hl j hj).2.1⟩
  have spN : ∀ j, j < 4 → ¬ j < m → gI T (p + 2) (2 * j) = -6 ∧ gI T (p + 2) (2 * j + 1) = -6 := fun j hj hjm =>
    (hK.2.2.2.2.2 j hj).2 (fun z => by rw [h3, nI_ltI (by omega) (by omega)] at z; exact hjm z.2)
  have ch := chain (fun j hj => (hl j hj).2.2.1) hs
  have hh := hl 0 m1
  refine e4_takeTold hR.f (hR.f.sd hd) hal (fun X O => ?_)
  rw [(spY 0 m1).2]
  obtain ⟨-, p0, hp0, hal0, hK0⟩ := hR.pk hd hh.2.2.2
  have p079 := al79 hal0
  refine c_packetAt hR hd hh.2.2.2 hp0 ⟨fun b hb => by cases hb; exact hal0, fun b hb => ?_, fun hb => by cases hb⟩
  cases hb
  intro w hw
  have k9 : gI T p0 9 = J 70 (300 * d + hi 0) := hK0.1 9 (by decide)
  have k10 : gI T p0 10 = J 71 (300 * d + hi 0) := hK0.1 10 (by decide)
  rw [k9, k10] at hw
  obtain ⟨J0, hJ0⟩ : ∃ J0, J0 = w78 J (nowF J d lo hi m) := ⟨_, rfl⟩
  have R0 : Rel T J0 := hJ0 ▸ hR.r78
  have e0 : ∀ r, r ≠ 78 → J0 r = J r := fun r hr => by rw [hJ0]; exact w78_ne hr
  have now1 : ∀ n, n < num J d → (J0 78 n = 0 ↔ ¬ (inSp lo hi m n = true ∧ J 71 (300 * d + n) = 0)) := fun n hn => by
    have : J0 78 n = if inSp lo hi m n = true ∧ J 71 (300 * d + n) = 0 then 1 else 0 := by
      rw [hJ0, w78_at]; exact if_pos (by omega)
    rw [this, ite01]
  have hspec : spTd J d lo hi m = spLook (if anyT J0 d (num J d) = 0 then (if J0 78 (hi 0) = 0 ∨ J 70 (300 * d + hi 0) = 0 then uJ (spT J0 d (num J d)) 54 d (if J 54 d < nI (hi 0) then nI (hi 0) else J 54 d) else spM (uJ (spT J0 d (num J d)) 54 d (if J 54 d < nI (hi 0) then nI (hi 0) else J 54 d)) d (J 26 3 - J 66 (300 * d + hi 0))) else uJ (if J0 78 (hi 0) = 0 ∨ J 70 (300 * d + hi 0) = 0 then uJ (spT J0 d (num J d)) 54 d (if J 54 d < nI (hi 0) then nI (hi 0) else J 54 d) else spM (uJ (spT J0 d (num J d)) 54 d (if J 54 d < nI (hi 0) then nI (hi 0) else J 54 d)) d (J 26 3 - J 66 (300 * d + hi 0))) 52 d 0) d := by rw [hJ0]; rfl
  have w01 : w = 0 ↔ (J0 78 (hi 0) = 0 ∨ J 70 (300 * d + hi 0) = 0) := by
    rw [now1 _ hh.2.2.2, hw]
    have i1 : inSp lo hi m (hi 0) = true := inSp_iff.mpr ⟨0, m1, hh.2.2.1, Nat.le_refl _⟩
    by_cases a : J 70 (300 * d + hi 0) = 0
    · rw [if_pos a]; exact ⟨fun _ => Or.inr a, fun _ => rfl⟩
    · rw [if_neg a, ite01]
      exact ⟨fun z => Or.inl (fun y => z y.2), fun z => z.elim (fun y q => y ⟨i1, q⟩) (fun y => absurd y a)⟩
  have nmT : ∀ N, num (spT J0 d N) d = num J d := fun N => num_of (by rw [spT_ne (by decide) (by decide) (by decide) (by decide), e0 44 (by decide)])
  have A : ∀ jj, jj ≤ 4 → ∀ (T' : Sto) (N : Nat), N ≤ num J d → Ev T T' → Rel T' (spT J0 d N) → (∀ j, j < jj → j < m → N ≤ lo j) → (∀ n, N ≤ n → inSp lo hi m n = true → ∃ j, j < jj ∧ j < m ∧ lo j ≤ n ∧ n ≤ hi j) → WP X 48 [(0, vr 0), (1, vr (20 + 3 * d)), (2, vr p), (3, vi (nI (hi 0))), (4, vr p0), (5, vi w), (6, vi (anyT J0 d N)), (7, vi (pre1 jj))] [] T' 0 0 := by
    intro jj
    induction jj with
    | zero =>
      intro _ T' N hN E R _ hin
      obtain ⟨g1, g2⟩ := spT_gap (J := J0) (d := d) (num J d) hN (fun n a b => (now1 n b).mpr (fun z => by obtain ⟨j, hj, _⟩ := hin n a z.1; omega))
      rw [← g1] at R
      rw [← g2]
      have hal' : al T' p 1 := hal.mono (by rw [E.2.1]; exact Nat.le_refl _)
      have hal0' : al T' p0 1 := hal0.mono (by rw [E.2.1]; exact Nat.le_refl _)
      have e5 : gI T' (20 + 3 * d) 5 = J 54 d := ((R.d hd).1 5 (by decide)).trans (by show spT J0 d _ 54 d = _; rw [spT_ne (by decide) (by decide) (by decide) (by decide), e0 54 (by decide)])
      have RB : Rel (pI T' (20 + 3 * d) 5 (if J 54 d < nI (hi 0) then nI (hi 0) else J 54 d)) (uJ (spT J0 d (num J d)) 54 d (if J 54 d < nI (hi 0) then nI (hi 0) else J 54 d)) := by
        refine R.putD hd (k := 5) (by decide) (by decide) ((R.vd hd).p54 hd ?_)
        rw [nmT]
        by_cases z : J 54 d < nI (hi 0)
        · rw [if_pos z]; exact Or.inr ⟨hi 0, hh.2.2.2, rfl⟩
        · rw [if_neg z]; exact (hR.vd hd).2.2.2.2.2.2.1
      have EB : Ev T (pI T' (20 + 3 * d) 5 (if J 54 d < nI (hi 0) then nI (hi 0) else J 54 d)) := E.p (by omega)
      refine s4_takeTold_48 R.f (by rw [E.2.1]; exact Nat.le_refl _) O (R.f.sd hd) hal' hal0' ⟨fun _ => ?_, fun hc => absurd (by decide) hc⟩
      rw [e5]
      have fin : ∀ T2 C, Ev T T2 → Rel T2 C → (if J0 78 (hi 0) = 0 ∨ J 70 (300 * d + hi 0) = 0 then uJ (spT J0 d (num J d)) 54 d (if J 54 d < nI (hi 0) then nI (hi 0) else J 54 d) else spM (uJ (spT J0 d (num J d)) 54 d (if J 54 d < nI (hi 0) then nI (hi 0) else J 54 d)) d (J 26 3 - J 66 (300 * d + hi 0))) = C →
          (anyT J0 d (num J d) = 0 → Cv K4_lookForLost [vr 0, vr (20 + 3 * d)] T2 (fun S5 => Q S5)) ∧ (¬ anyT J0 d (num J d) = 0 → Cv K4_lookForLost [vr 0, vr (20 + 3 * d)] (pI T2 (20 + 3 * d + 2) 7 0) (fun S5 => Q S5)) := by
        intro T2 C E2 R2 hC
        rw [hC] at hspec
        refine ⟨fun a0 => ?_, fun a1 => ?_⟩
        · rw [if_pos a0] at hspec
          exact c_lookForLost R2 hd (fun T3 E3 R3 => h T3 (E2.tr E3) (hspec ▸ R3))
        · rw [if_neg a1] at hspec
          rw [show 20 + 3 * d + 2 = 22 + 3 * d by omega]
          have R3 := R2.putP hd (k := 7) (x := 0) (by decide) ((R2.vd hd).free (r := 52) (by decide) hd)
          exact c_lookForLost R3 hd (fun T4 E4 R4 => h T4 ((E2.p (by omega)).tr E4) (hspec ▸ R4))
      refine ⟨fun w0 => fin _ _ EB RB (if_pos (w01.mp w0)), fun w1 => ?_⟩
      have g4 : gI (pI T' (20 + 3 * d) 5 (if J 54 d < nI (hi 0) then nI (hi 0) else J 54 d)) 0 4 = J 26 3 := (RB.g 4 (by decide)).trans (by show uJ _ 54 _ _ 26 3 = _; rw [uJ_ne (by decide), spT_ne (by decide) (by decide) (by decide) (by decide), e0 26 (by decide)])
      have g2' : gI (pI T' (20 + 3 * d) 5 (if J 54 d < nI (hi 0) then nI (hi 0) else J 54 d)) p0 2 = J 66 (300 * d + hi 0) := by
        obtain ⟨-, p2, hp2, -, hK2⟩ := RB.pk hd (show hi 0 < num _ d by rw [num_of (show uJ (spT J0 d (num J d)) 54 d (if J 54 d < nI (hi 0) then nI (hi 0) else J 54 d) 44 d = spT J0 d (num J d) 44 d by rw [uJ_ne (by decide)]), nmT]; exact hh.2.2.2)
        rw [EB.2.2, hp0] at hp2
        cases hp2
        exact (hK2.1 2 (by decide)).trans (by show uJ _ 54 _ _ 66 _ = _; rw [uJ_ne (by decide), spT_ne (by decide) (by decide) (by decide) (by decide), e0 66 (by decide)])
      rw [g4, g2']
      exact c_measure RB hd (fun T2 E2 R2 => fin T2 _ (EB.tr E2) R2 (if_neg (fun z => w1 (w01.mpr z))))
    | succ k ih =>
      intro hk4 T' N hN E R hlo hin
      have hal' : al T' p 1 := hal.mono (by rw [E.2.1]; exact Nat.le_refl _)
      have hal0' : al T' p0 1 := hal0.mono (by rw [E.2.1]; exact Nat.le_refl _)
      have hpre : pre1 (k + 1) = nI k := rfl
      rw [hpre]
      -- the teller's spans stay
      have sp2 : ∀ T2, Ev T T2 → (∃ N2, Rel T2 (spT J0 d N2)) → ∀ j, j < 4 → (j < m → gI T2 (p + 2) (2 * j) = nI (lo j) ∧ gI T2 (p + 2) (2 * j + 1) = nI (hi j)) ∧ (¬ j < m → gI T2 (p + 2) (2 * j) = -6 ∧ gI T2 (p + 2) (2 * j + 1) = -6) := by
        intro T2 E2 ⟨N2, R2⟩ j hj
        obtain ⟨-, p2, hp2, -, hK2⟩ := R2.pk (show 1 - d < 2 by omega) (show nn < num _ (1 - d) by rw [num_of (show spT J0 d N2 44 (1 - d) = J 44 (1 - d) by rw [spT_ne (by decide) (by decide) (by decide) (by decide), e0 44 (by decide)])]; exact hnn)
        rw [E2.2.2, hp] at hp2
        cases hp2
        have q0 := hK2.2.2.2.2.2 j hj
        unfold prt at q0
        rw [spT_ne (r := 74) (by decide) (by decide) (by decide) (by decide), spT_ne (r := 75) (by decide) (by decide) (by decide) (by decide), e0 74 (by decide), e0 75 (by decide)] at q0
        refine ⟨fun hjm => ?_, fun hjm => ?_⟩
        · have := q0.1 ⟨h0, by have := h3; unfold prt at this; rw [this, nI_ltI (by omega) (by omega)]; exact hjm⟩
          exact ⟨this.1.trans (hl j hjm).1, this.2.trans (hl j hjm).2.1⟩
        · exact q0.2 (fun z => by have h3' := h3; unfold prt at h3'; rw [h3', nI_ltI (by omega) (by omega)] at z; exact hjm z.2)
      have tk : (2 * nI k : Int32) = nI (2 * k) := by rw [show (2 : Int32) = nI 2 from rfl, pk_mul]
      have nk : ¬ nI k < 0 := by rw [show (0 : Int32) = nI 0 from rfl, nI_ltI (by omega) (by omega)]; omega
      have enter : ∀ x, (if 0 < gI T' (p + 2) (2 * k) then gI T' (p + 2) (2 * k) else 0 : Int32) = x → WP X 68 [(0, vr 0), (1, vr (20 + 3 * d)), (2, vr p), (3, vi (nI (hi 0))), (4, vr p0), (5, vi w), (6, vi (anyT J0 d N)), (7, vi (nI k)), (8, vi x)] [] T' 0 0 → WP X 48 [(0, vr 0), (1, vr (20 + 3 * d)), (2, vr p), (3, vi (nI (hi 0))), (4, vr p0), (5, vi w), (6, vi (anyT J0 d N)), (7, vi (nI k))] [] T' 0 0 := fun x hx hw' => by
        refine s4_takeTold_48 R.f (by rw [E.2.1]; exact Nat.le_refl _) O (R.f.sd hd) hal' hal0' ⟨fun hc => absurd hc nk, fun _ => ?_⟩
        rw [tk, tnN (show 2 * k < 2 ^ 31 by omega), hx]
        exact ⟨ixN (by omega) (by decide), hw'⟩
      by_cases hkm : k < m
      · obtain ⟨s1, s2⟩ := (sp2 T' E ⟨N, R⟩ k (by omega)).1 hkm
        have lk := hl k hkm
        have hNk : N ≤ lo k := hlo k (by omega) hkm
        have gap := spT_gap (J := J0) (d := d) (lo k) hNk (fun n a b => (now1 n (by omega)).mpr (fun z => by
          obtain ⟨j, hj, hjm, q1, q2⟩ := hin n a z.1
          by_cases e : j = k
          · subst e; omega
          · have := ch k hkm j (by omega); omega))
        have B : ∀ (c n : Nat) (T2 : Sto), n + c = hi k + 1 → lo k ≤ n → Ev T T2 → Rel T2 (spT J0 d n) → WP X 68 [(0, vr 0), (1, vr (20 + 3 * d)), (2, vr p), (3, vi (nI (hi 0))), (4, vr p0), (5, vi w), (6, vi (anyT J0 d n)), (7, vi (nI k)), (8, vi (nI n))] [] T2 0 0 := by
          intro c
          induction c with
          | zero =>
            intro n T2 hn hln E2 R2
            have hal2 : al T2 p 1 := hal.mono (by rw [E2.2.1]; exact Nat.le_refl _)
            have hal02 : al T2 p0 1 := hal0.mono (by rw [E2.2.1]; exact Nat.le_refl _)
            refine s4_takeTold_68 R2.f (by rw [E2.2.1]; exact Nat.le_refl _) O (R2.f.sd hd) hal2 hal02 ?_
            rw [tk, nI_suc, tnN (show 2 * k + 1 < 2 ^ 31 by omega), ((sp2 T2 E2 ⟨n, R2⟩ k (by omega)).1 hkm).2, pre1_s k (by omega)]
            refine ⟨ixN (by omega) (by decide), fun _ => ?_, fun hc => ?_⟩
            · refine ih (by omega) T2 n (by omega) E2 R2 (fun j hj hjm => ?_) (fun n' hn' hsp => ?_)
              · have := ch k hkm j hj; omega
              · obtain ⟨j, hj, hjm, q1, q2⟩ := hin n' (by omega) hsp
                have : j ≠ k := fun e => by subst e; omega
                exact ⟨j, by omega, hjm, q1, q2⟩
            · rw [nI_ltI (by omega) (by omega)] at hc; omega
          | succ c ihc =>
            intro n T2 hn hln E2 R2
            have hal2 : al T2 p 1 := hal.mono (by rw [E2.2.1]; exact Nat.le_refl _)
            have hal02 : al T2 p0 1 := hal0.mono (by rw [E2.2.1]; exact Nat.le_refl _)
            have hnd : n < num J d := by omega
            have hnd2 : n < num (spT J0 d n) d := by rw [nmT]; exact hnd
            obtain ⟨-, pn, hpn, haln, hKn⟩ := R2.pk hd hnd2
            have k10' : gI T2 pn 10 = J 71 (300 * d + n) := (hKn.1 10 (by decide)).trans (by show spT J0 d n 71 _ = _; rw [spT_71 (Nat.le_refl _), e0 71 (by decide)])
            have k9' : gI T2 pn 9 = J0 70 (300 * d + n) := (hKn.1 9 (by decide)).trans (by show spT J0 d n 70 _ = _; rw [spT_ne (by decide) (by decide) (by decide) (by decide)])
            refine s4_takeTold_68 R2.f (by rw [E2.2.1]; exact Nat.le_refl _) O (R2.f.sd hd) hal2 hal02 ?_
            rw [tk, nI_suc, nI_suc, tnN (show 2 * k + 1 < 2 ^ 31 by omega), ((sp2 T2 E2 ⟨n, R2⟩ k (by omega)).1 hkm).2]
            refine ⟨ixN (by omega) (by decide), fun hc => ?_, fun _ => ?_⟩
            · rw [nI_ltI (by omega) (by omega)] at hc; omega
            · refine c_packetAt R2 hd hnd2 hpn ⟨fun b hb => by cases hb; exact haln, fun b hb => ?_, fun hb => by cases hb⟩
              cases hb
              rw [k10', k9']
              have st := ihc (n + 1)
              refine ⟨fun n1 => ?_, fun y0 => ?_⟩
              · have z : J0 78 n = 0 := (now1 n hnd).mpr (fun z => n1 z.2)
                have := st T2 (by omega) (by omega) E2 (by unfold spT; rw [if_pos z]; exact R2)
                unfold anyT at this
                rw [if_pos z] at this
                exact this
              · have z : ¬ J0 78 n = 0 := fun z => (now1 n hnd).mp z ⟨inSp_iff.mpr ⟨k, hkm, hln, by omega⟩, y0⟩
                intro w14 hw14
                refine c_settle R2 hd hnd2 hpn (by rw [spT_71 (Nat.le_refl _), e0 71 (by decide)]; exact y0) (fun T3 E3 R3 => ?_)
                have := st T3 (by omega) (by omega) (E2.tr E3) (by unfold spT; rw [if_neg z]; exact R3)
                unfold anyT at this
                rw [if_neg z] at this
                rw [hw14]
                exact this
        refine enter (nI (lo k)) ?_ ?_
        · rw [s1]
          by_cases e : lo k = 0
          · rw [e]; decide
          · rw [if_pos]
            rw [show (0 : Int32) = nI 0 from rfl, nI_ltI (by omega) (by omega)]; omega
        · rw [← gap.2]
          exact B (hi k + 1 - lo k) (lo k) T' (by omega) (Nat.le_refl _) E (gap.1 ▸ R)
      · obtain ⟨s1, s2⟩ := (sp2 T' E ⟨N, R⟩ k (by omega)).2 hkm
        refine enter 0 (by rw [s1]; decide) ?_
        refine s4_takeTold_68 R.f (by rw [E.2.1]; exact Nat.le_refl _) O (R.f.sd hd) hal' hal0' ?_
        rw [tk, nI_suc, tnN (show 2 * k + 1 < 2 ^ 31 by omega), s2, pre1_s k (by omega)]
        refine ⟨ixN (by omega) (by decide), fun _ => ?_, fun hc => absurd (by decide) hc⟩
        refine ih (by omega) T' N hN E R (fun j hj hjm => hlo j (by omega) hjm) (fun n' hn' hsp => ?_)
        obtain ⟨j, hj, hjm, q1, q2⟩ := hin n' hn' hsp
        exact ⟨j, by omega, hjm, q1, q2⟩
  refine A 4 (Nat.le_refl _) T 0 (Nat.zero_le _) Ev.rf R0 (fun j _ _ => Nat.zero_le _) (fun n _ hsp => ?_)
  obtain ⟨j, hj, q1, q2⟩ := inSp_iff.mp hsp
  exact ⟨j, by omega, hj, q1, q2⟩
end TAKETOLD
