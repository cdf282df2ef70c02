section NEWP
variable {T : Sto}
/-- the cells of a new PACKET -/
theorem kdP {n : Nat} (h1 : 79 ≤ n) (h2 : (n - 79) % 3 = 0) : kd n = 1 ∧ kd (n + 1) = 7 ∧ ln (n + 1) = 64 ∧ kd (n + 2) = 7 ∧ ln (n + 2) = 8 := by
  have h : kd n = 1 := by unfold kd; rw [if_neg (by omega), if_pos h2]
  obtain ⟨-, -, a, b, c, d⟩ := kd1 h
  exact ⟨h, a, b, c, d⟩
def nwB (T : Sto) (p : Nat) (a1 a2 a3 a4 a5 : Int32) : Sto :=
  pI (pI (pI (pI (pI (pI (pR (nw (pR (nw (nw T)) p 5 (some (p + 1)))) p 6 (some (p + 2))) p 8 10) p 0 a1) p 1 a2) p 2 a3) p 3 a4) p 4 a5
def nwL (U : Sto) (p : Nat) : Nat → Sto
  | 0 => U
  | n + 1 => pI (nwL U p n) (p + 2) n (-6)
theorem nwL_n {U : Sto} {p n : Nat} : sN (nwL U p n) = sN U := by
  induction n with
  | zero => rfl
  | succ n ih => exact ih
theorem nwL_R {U : Sto} {p n : Nat} : gR (nwL U p n) = gR U := by
  induction n with
  | zero => rfl
  | succ n ih => exact ih
theorem nwL_I {U : Sto} {p n a : Nat} (h : a ≠ p + 2) : gI (nwL U p n) a = gI U a := by
  induction n with
  | zero => rfl
  | succ n ih =>
    show gI (pI (nwL U p n) (p + 2) n (-6)) a = gI U a
    rw [gI_ne h]; exact ih
theorem nwL_2 {U : Sto} {p n j : Nat} : gI (nwL U p n) (p + 2) j = if j < n then -6 else gI U (p + 2) j := by
  induction n with
  | zero => rw [if_neg (by omega)]; rfl
  | succ n ih =>
    show gI (pI (nwL U p n) (p + 2) n (-6)) (p + 2) j = _
    rw [gI_eq, upd_at]
    by_cases z : j = n
    · rw [if_pos z, if_pos (by omega)]
    · rw [if_neg z, ih]
      by_cases y : j < n
      · rw [if_pos y, if_pos (by omega)]
      · rw [if_neg y, if_neg (by omega)]
set_option maxHeartbeats 4000000 in
set_option maxRecDepth 100000 in
theorem c_newPacket {p : Nat} {a1 a2 a3 a4 a5 : Int32} {Q : Option AV → Sto → Prop} (hp : p = sN T) (h1 : 79 ≤ p) (h2 : (p - 79) % 3 = 0) (h : Q none (nwL (nwB T p a1 a2 a3 a4 a5) p 8)) : CALL K1_init [vr p, vi a1, vi a2, vi a3, vi a4, vi a5] (nw T) Q := by
  obtain ⟨k0, k1, l1, k2, l2⟩ := kdP h1 h2
  have s1 : sN (nw T) = p + 1 := by rw [hp]; rfl
  have s2 : sN (pR (nw (nw T)) p 5 (some (p + 1))) = p + 2 := by rw [hp]; rfl
  have n2 : sN (nw (nw T)) = p + 2 := by rw [hp]; rfl
  have n3 : sN (nw (pR (nw (nw T)) p 5 (some (p + 1)))) = p + 3 := by rw [hp]; rfl
  refine CALL.intro rfl (Nat.le_of_ble_eq_true rfl) (fun X O => ?_)
  have C := O.1
  show WP X 0 [(0, vr p), (1, vi a1), (2, vi a2), (3, vi a3), (4, vi a4), (5, vi a5)] [] (nw T) 0 0
  refine r_aloadn C 0 dX1_init_0 rfl ?_
  refine r_objInit C oi_1 oi_m oi_c (by decide) (by decide) dX1_init_1 ?_
  refine r_aloadn C 0 dX1_init_4 rfl ?_
  refine r_bipush C (x := 64) dX1_init_5 (by decide) ?_
  refine r_newa C (c := 7) (by decide) rfl (mB 352 (by decide +kernel) rfl) (by rw [s1]; exact k1) (by rw [s1, l1]; rfl) (by rw [s1, l1]; decide) (by decide) (by rw [s1, l1]; decide) dX1_init_7 ?_
  rw [s1, l1]
  have A2 : al (nw (nw T)) p 1 := ⟨by rw [n2]; omega, k0⟩
  refine r_putFR C A2 fl_1_9 (Or.inr ⟨_, rfl⟩) ⟨rfl, rfl, rfl⟩ dX1_init_9 ?_
  refine r_aloadn C 0 dX1_init_12 rfl ?_
  refine r_bipush C (x := 8) dX1_init_13 (by decide) ?_
  refine r_newa C (c := 7) (by decide) rfl (mB 352 (by decide +kernel) rfl) (by rw [s2]; exact k2) (by rw [s2, l2]; rfl) (by rw [s2, l2]; decide) (by decide) (by rw [s2, l2]; decide) dX1_init_15 ?_
  rw [s2, l2]
  have A3 : al (nw (pR (nw (nw T)) p 5 (some (p + 1)))) p 1 := ⟨by rw [n3]; omega, k0⟩
  refine r_putFR C A3 fl_1_15 (Or.inr ⟨_, rfl⟩) ⟨rfl, rfl, rfl⟩ dX1_init_17 ?_
  have A4 : al (pR (nw (pR (nw (nw T)) p 5 (some (p + 1)))) p 6 (some (p + 2))) p 1 := A3
  refine r_aloadn C 0 dX1_init_20 rfl ?_
  refine r_bipush C (x := 10) dX1_init_21 (by decide) ?_
  refine r_putI C A4 fl_1_18 rfl rfl dX1_init_23 ?_
  refine r_aloadn C 0 dX1_init_26 rfl ?_
  refine r_iloadn C 1 dX1_init_27 rfl ?_
  refine r_putFI C (c := 1) A4 fl_1_22 rfl ⟨rfl, rfl, rfl⟩ dX1_init_28 ?_
  refine r_aloadn C 0 dX1_init_31 rfl ?_
  refine r_iloadn C 2 dX1_init_32 rfl ?_
  refine r_putFI C (c := 1) A4 fl_1_25 rfl ⟨rfl, rfl, rfl⟩ dX1_init_33 ?_
  refine r_aloadn C 0 dX1_init_36 rfl ?_
  refine r_iloadn C 3 dX1_init_37 rfl ?_
  refine r_putFI C (c := 1) A4 fl_1_28 rfl ⟨rfl, rfl, rfl⟩ dX1_init_38 ?_
  refine r_aloadn C 0 dX1_init_41 rfl ?_
  refine r_iload C 4 dX1_init_42 rfl ?_
  refine r_putFI C (c := 1) A4 fl_1_31 rfl ⟨rfl, rfl, rfl⟩ dX1_init_44 ?_
  refine r_aloadn C 0 dX1_init_47 rfl ?_
  refine r_iload C 5 dX1_init_48 rfl ?_
  refine r_putFI C (c := 1) A4 fl_1_34 rfl ⟨rfl, rfl, rfl⟩ dX1_init_50 ?_
  refine r_iconst C (x := 0) dX1_init_53 (by decide) ?_
  refine r_istore C dX1_init_54 (by decide) rfl rfl ?_
  have AB : ∀ n, al (nwL (nwB T p a1 a2 a3 a4 a5) p n) p 1 := fun n => ⟨by rw [nwL_n]; exact A4.1, k0⟩
  have A7 : ∀ n, al (nwL (nwB T p a1 a2 a3 a4 a5) p n) (p + 2) 7 := fun n => ⟨by rw [nwL_n]; show p + 2 < sN (nw (pR (nw (nw T)) p 5 (some (p + 1)))); rw [n3]; omega, k2⟩
  have R6 : ∀ n, gR (nwL (nwB T p a1 a2 a3 a4 a5) p n) p 6 = some (p + 2) := fun n => by
    rw [nwL_R]
    show gR (pR (nw (pR (nw (nw T)) p 5 (some (p + 1)))) p 6 (some (p + 2))) p 6 = some (p + 2)
    rw [gR_pR, if_pos rfl]
    exact if_pos rfl
  have loop : ∀ (b i : Nat), i + b = 8 → WP X 56 [(6, vi (nI i)), (0, vr p), (1, vi a1), (2, vi a2), (3, vi a3), (4, vi a4), (5, vi a5)] [] (nwL (nwB T p a1 a2 a3 a4 a5) p i) (0 + 1 + 1) (0 + 64 + 8) := by
    intro b
    induction b with
    | zero =>
      intro i hi
      obtain rfl : i = 8 := by omega
      refine r_iload C 0 dX1_init_56 rfl ?_
      refine r_aloadn C 1 dX1_init_58 rfl ?_
      refine r_getR C (AB 8) fl_1_15 rfl (R6 8) dX1_init_59 ?_
      refine r_alen C (n := 8) (A7 8) (by decide) (by rw [l2]; rfl) dX1_init_62 ?_
      refine r_icmp_ge C dX1_init_63 (tgt := 81) (by decide) (fun _ => ?_) (fun hc => absurd (by decide) hc)
      exact r_vret O rfl dX1_init_81 (by decide) (by decide) h
    | succ b ih =>
      intro i hi
      have ih2 := ih (i + 1) (by omega)
      refine r_iload C 0 dX1_init_56 rfl ?_
      refine r_aloadn C 1 dX1_init_58 rfl ?_
      refine r_getR C (AB i) fl_1_15 rfl (R6 i) dX1_init_59 ?_
      refine r_alen C (n := 8) (A7 i) (by decide) (by rw [l2]; rfl) dX1_init_62 ?_
      refine r_icmp_ge C dX1_init_63 (tgt := 81) (by decide) (fun hc => absurd hc (nge (N := 8) (by omega) (by decide))) (fun _ => ?_)
      refine r_aloadn C 1 dX1_init_66 rfl ?_
      refine r_getR C (AB i) fl_1_15 rfl (R6 i) dX1_init_67 ?_
      refine r_iload C 0 dX1_init_70 rfl ?_
      refine r_bipush C (x := -6) dX1_init_72 (by decide) ?_
      refine r_iast C (A7 i) (by rw [l2]; exact ixN (by omega) (by decide)) dX1_init_74 ?_
      rw [tnN (show i < 2 ^ 31 by omega)]
      refine r_iinc C 0 (y := nI (i + 1)) dX1_init_75 rfl (nI_suc i) (by decide) rfl rfl ?_
      refine r_goto C dX1_init_78 (tgt := 56) (by decide) ?_
      exact ih2
  exact loop 8 0 (by omega)
end NEWP
