section MINIT
variable {S : Sto}
def mK (n : Nat) : Nat := if n < 39 then n + 5 else if n < 51 then n + 11 else 64
def M0 (S : Sto) : Sto := pI (pI (pI (nw S) 26 0 200) 26 1 300) 26 2 600
def Mn (S : Sto) : Nat → Sto
  | 0 => M0 S
  | n + 1 => pR (nw (Mn S n)) 26 (mK n) (some (27 + n))
theorem Mn_n (h : sN S = 26) : ∀ n, sN (Mn S n) = 27 + n := fun n => by
  induction n with
  | zero => show sN S + 1 = 27 + 0; rw [h]
  | succ n ih => show sN (Mn S n) + 1 = _; rw [ih]; omega
theorem Mn_s (n : Nat) : Mn S (n + 1) = pR (nw (Mn S n)) 26 (mK n) (some (27 + n)) := rfl
set_option maxHeartbeats 4000000 in
set_option maxRecDepth 100000 in
theorem t_mi0 {X : Ctx} {Q : Option AV → Sto → Prop} (O : Ok X K5_init Q) (hS : sN S = 26) (h : WP X 131 [(0, vr 26)] [] (Mn S 13) 13 16088) : WP X 25 [(0, vr 26)] [] (Mn S 0) 0 0 := by
  have C := O.1
  have m0 : sN (Mn S 0) = 27 := Mn_n hS 0
  refine r_aloadn C 0 dX5_init_25 rfl ?_
  refine r_bipush C (x := 8) dX5_init_26 (by decide) ?_
  refine r_newa C (c := 7) (by decide) rfl (mB 352 (by decide +kernel) rfl) (by rw [m0]; decide) (by rw [m0]; decide) (by rw [m0]; decide) (by decide) (by rw [m0]; decide) dX5_init_28 ?_
  rw [m0, show ln 27 = 8 from by decide]
  refine r_putFR C (a := 26) (c := 5) (k := 5) ⟨by rw [sN_nw, m0]; decide, rfl⟩ fl_5_19 (Or.inr ⟨_, rfl⟩) ⟨rfl, rfl, rfl⟩ dX5_init_30 ?_
  have z0 : pR (nw (Mn S 0)) 26 5 (some 27) = Mn S 1 := Mn_s 0
  rw [z0]
  show WP X 33 [(0, vr 26)] [] (Mn S 1) 1 8
  have m1 : sN (Mn S 1) = 28 := Mn_n hS 1
  refine r_aloadn C 0 dX5_init_33 rfl ?_
  refine r_bipush C (x := 8) dX5_init_34 (by decide) ?_
  refine r_newa C (c := 8) (by decide) rfl (mB 788 (by decide +kernel) rfl) (by rw [m1]; decide) (by rw [m1]; decide) (by rw [m1]; decide) (by decide) (by rw [m1]; decide) dX5_init_36 ?_
  rw [m1, show ln 28 = 8 from by decide]
  refine r_putFR C (a := 26) (c := 5) (k := 6) ⟨by rw [sN_nw, m1]; decide, rfl⟩ fl_5_23 (Or.inr ⟨_, rfl⟩) ⟨rfl, rfl, rfl⟩ dX5_init_38 ?_
  have z1 : pR (nw (Mn S 1)) 26 6 (some 28) = Mn S 2 := Mn_s 1
  rw [z1]
  show WP X 41 [(0, vr 26)] [] (Mn S 2) 2 16
  have m2 : sN (Mn S 2) = 29 := Mn_n hS 2
  refine r_aloadn C 0 dX5_init_41 rfl ?_
  refine r_bipush C (x := 8) dX5_init_42 (by decide) ?_
  refine r_newa C (c := 8) (by decide) rfl (mB 788 (by decide +kernel) rfl) (by rw [m2]; decide) (by rw [m2]; decide) (by rw [m2]; decide) (by decide) (by rw [m2]; decide) dX5_init_44 ?_
  rw [m2, show ln 29 = 8 from by decide]
  refine r_putFR C (a := 26) (c := 5) (k := 7) ⟨by rw [sN_nw, m2]; decide, rfl⟩ fl_5_27 (Or.inr ⟨_, rfl⟩) ⟨rfl, rfl, rfl⟩ dX5_init_46 ?_
  have z2 : pR (nw (Mn S 2)) 26 7 (some 29) = Mn S 3 := Mn_s 2
  rw [z2]
  show WP X 49 [(0, vr 26)] [] (Mn S 3) 3 24
  have m3 : sN (Mn S 3) = 30 := Mn_n hS 3
  refine r_aloadn C 0 dX5_init_49 rfl ?_
  refine r_bipush C (x := 8) dX5_init_50 (by decide) ?_
  refine r_newa C (c := 8) (by decide) rfl (mB 788 (by decide +kernel) rfl) (by rw [m3]; decide) (by rw [m3]; decide) (by rw [m3]; decide) (by decide) (by rw [m3]; decide) dX5_init_52 ?_
  rw [m3, show ln 30 = 8 from by decide]
  refine r_putFR C (a := 26) (c := 5) (k := 8) ⟨by rw [sN_nw, m3]; decide, rfl⟩ fl_5_30 (Or.inr ⟨_, rfl⟩) ⟨rfl, rfl, rfl⟩ dX5_init_54 ?_
  have z3 : pR (nw (Mn S 3)) 26 8 (some 30) = Mn S 4 := Mn_s 3
  rw [z3]
  show WP X 57 [(0, vr 26)] [] (Mn S 4) 4 32
  have m4 : sN (Mn S 4) = 31 := Mn_n hS 4
  refine r_aloadn C 0 dX5_init_57 rfl ?_
  refine r_bipush C (x := 8) dX5_init_58 (by decide) ?_
  refine r_newa C (c := 7) (by decide) rfl (mB 352 (by decide +kernel) rfl) (by rw [m4]; decide) (by rw [m4]; decide) (by rw [m4]; decide) (by decide) (by rw [m4]; decide) dX5_init_60 ?_
  rw [m4, show ln 31 = 8 from by decide]
  refine r_putFR C (a := 26) (c := 5) (k := 9) ⟨by rw [sN_nw, m4]; decide, rfl⟩ fl_5_33 (Or.inr ⟨_, rfl⟩) ⟨rfl, rfl, rfl⟩ dX5_init_62 ?_
  have z4 : pR (nw (Mn S 4)) 26 9 (some 31) = Mn S 5 := Mn_s 4
  rw [z4]
  show WP X 65 [(0, vr 26)] [] (Mn S 5) 5 40
  have m5 : sN (Mn S 5) = 32 := Mn_n hS 5
  refine r_aloadn C 0 dX5_init_65 rfl ?_
  refine r_bipush C (x := 8) dX5_init_66 (by decide) ?_
  refine r_newa C (c := 8) (by decide) rfl (mB 788 (by decide +kernel) rfl) (by rw [m5]; decide) (by rw [m5]; decide) (by rw [m5]; decide) (by decide) (by rw [m5]; decide) dX5_init_68 ?_
  rw [m5, show ln 32 = 8 from by decide]
  refine r_putFR C (a := 26) (c := 5) (k := 10) ⟨by rw [sN_nw, m5]; decide, rfl⟩ fl_5_36 (Or.inr ⟨_, rfl⟩) ⟨rfl, rfl, rfl⟩ dX5_init_70 ?_
  have z5 : pR (nw (Mn S 5)) 26 10 (some 32) = Mn S 6 := Mn_s 5
  rw [z5]
  show WP X 73 [(0, vr 26)] [] (Mn S 6) 6 48
  have m6 : sN (Mn S 6) = 33 := Mn_n hS 6
  refine r_aloadn C 0 dX5_init_73 rfl ?_
  refine r_bipush C (x := 8) dX5_init_74 (by decide) ?_
  refine r_newa C (c := 8) (by decide) rfl (mB 788 (by decide +kernel) rfl) (by rw [m6]; decide) (by rw [m6]; decide) (by rw [m6]; decide) (by decide) (by rw [m6]; decide) dX5_init_76 ?_
  rw [m6, show ln 33 = 8 from by decide]
  refine r_putFR C (a := 26) (c := 5) (k := 11) ⟨by rw [sN_nw, m6]; decide, rfl⟩ fl_5_39 (Or.inr ⟨_, rfl⟩) ⟨rfl, rfl, rfl⟩ dX5_init_78 ?_
  have z6 : pR (nw (Mn S 6)) 26 11 (some 33) = Mn S 7 := Mn_s 6
  rw [z6]
  show WP X 81 [(0, vr 26)] [] (Mn S 7) 7 56
  have m7 : sN (Mn S 7) = 34 := Mn_n hS 7
  refine r_aloadn C 0 dX5_init_81 rfl ?_
  refine r_bipush C (x := 8) dX5_init_82 (by decide) ?_
  refine r_newa C (c := 8) (by decide) rfl (mB 788 (by decide +kernel) rfl) (by rw [m7]; decide) (by rw [m7]; decide) (by rw [m7]; decide) (by decide) (by rw [m7]; decide) dX5_init_84 ?_
  rw [m7, show ln 34 = 8 from by decide]
  refine r_putFR C (a := 26) (c := 5) (k := 12) ⟨by rw [sN_nw, m7]; decide, rfl⟩ fl_5_42 (Or.inr ⟨_, rfl⟩) ⟨rfl, rfl, rfl⟩ dX5_init_86 ?_
  have z7 : pR (nw (Mn S 7)) 26 12 (some 34) = Mn S 8 := Mn_s 7
  rw [z7]
  show WP X 89 [(0, vr 26)] [] (Mn S 8) 8 64
  have m8 : sN (Mn S 8) = 35 := Mn_n hS 8
  refine r_aloadn C 0 dX5_init_89 rfl ?_
  refine r_bipush C (x := 8) dX5_init_90 (by decide) ?_
  refine r_newa C (c := 7) (by decide) rfl (mB 352 (by decide +kernel) rfl) (by rw [m8]; decide) (by rw [m8]; decide) (by rw [m8]; decide) (by decide) (by rw [m8]; decide) dX5_init_92 ?_
  rw [m8, show ln 35 = 8 from by decide]
  refine r_putFR C (a := 26) (c := 5) (k := 13) ⟨by rw [sN_nw, m8]; decide, rfl⟩ fl_5_45 (Or.inr ⟨_, rfl⟩) ⟨rfl, rfl, rfl⟩ dX5_init_94 ?_
  have z8 : pR (nw (Mn S 8)) 26 13 (some 35) = Mn S 9 := Mn_s 8
  rw [z8]
  show WP X 97 [(0, vr 26)] [] (Mn S 9) 9 72
  have m9 : sN (Mn S 9) = 36 := Mn_n hS 9
  refine r_aloadn C 0 dX5_init_97 rfl ?_
  refine r_sipush C (x := 8000) dX5_init_98 (by decide) ?_
  refine r_newa C (c := 6) (by decide) rfl (mB 90 (by decide +kernel) rfl) (by rw [m9]; decide) (by rw [m9]; decide) (by rw [m9]; decide) (by decide) (by rw [m9]; decide) dX5_init_101 ?_
  rw [m9, show ln 36 = 8000 from by decide]
  refine r_putFR C (a := 26) (c := 5) (k := 14) ⟨by rw [sN_nw, m9]; decide, rfl⟩ fl_5_48 (Or.inr ⟨_, rfl⟩) ⟨rfl, rfl, rfl⟩ dX5_init_103 ?_
  have z9 : pR (nw (Mn S 9)) 26 14 (some 36) = Mn S 10 := Mn_s 9
  rw [z9]
  show WP X 106 [(0, vr 26)] [] (Mn S 10) 10 8072
  have m10 : sN (Mn S 10) = 37 := Mn_n hS 10
  refine r_aloadn C 0 dX5_init_106 rfl ?_
  refine r_sipush C (x := 8000) dX5_init_107 (by decide) ?_
  refine r_newa C (c := 8) (by decide) rfl (mB 788 (by decide +kernel) rfl) (by rw [m10]; decide) (by rw [m10]; decide) (by rw [m10]; decide) (by decide) (by rw [m10]; decide) dX5_init_110 ?_
  rw [m10, show ln 37 = 8000 from by decide]
  refine r_putFR C (a := 26) (c := 5) (k := 15) ⟨by rw [sN_nw, m10]; decide, rfl⟩ fl_5_52 (Or.inr ⟨_, rfl⟩) ⟨rfl, rfl, rfl⟩ dX5_init_112 ?_
  have z10 : pR (nw (Mn S 10)) 26 15 (some 37) = Mn S 11 := Mn_s 10
  rw [z10]
  show WP X 115 [(0, vr 26)] [] (Mn S 11) 11 16072
  have m11 : sN (Mn S 11) = 38 := Mn_n hS 11
  refine r_aloadn C 0 dX5_init_115 rfl ?_
  refine r_bipush C (x := 8) dX5_init_116 (by decide) ?_
  refine r_newa C (c := 7) (by decide) rfl (mB 352 (by decide +kernel) rfl) (by rw [m11]; decide) (by rw [m11]; decide) (by rw [m11]; decide) (by decide) (by rw [m11]; decide) dX5_init_118 ?_
  rw [m11, show ln 38 = 8 from by decide]
  refine r_putFR C (a := 26) (c := 5) (k := 16) ⟨by rw [sN_nw, m11]; decide, rfl⟩ fl_5_55 (Or.inr ⟨_, rfl⟩) ⟨rfl, rfl, rfl⟩ dX5_init_120 ?_
  have z11 : pR (nw (Mn S 11)) 26 16 (some 38) = Mn S 12 := Mn_s 11
  rw [z11]
  show WP X 123 [(0, vr 26)] [] (Mn S 12) 12 16080
  have m12 : sN (Mn S 12) = 39 := Mn_n hS 12
  refine r_aloadn C 0 dX5_init_123 rfl ?_
  refine r_bipush C (x := 8) dX5_init_124 (by decide) ?_
  refine r_newa C (c := 7) (by decide) rfl (mB 352 (by decide +kernel) rfl) (by rw [m12]; decide) (by rw [m12]; decide) (by rw [m12]; decide) (by decide) (by rw [m12]; decide) dX5_init_126 ?_
  rw [m12, show ln 39 = 8 from by decide]
  refine r_putFR C (a := 26) (c := 5) (k := 17) ⟨by rw [sN_nw, m12]; decide, rfl⟩ fl_5_58 (Or.inr ⟨_, rfl⟩) ⟨rfl, rfl, rfl⟩ dX5_init_128 ?_
  have z12 : pR (nw (Mn S 12)) 26 17 (some 39) = Mn S 13 := Mn_s 12
  rw [z12]
  exact h
set_option maxHeartbeats 4000000 in
set_option maxRecDepth 100000 in
theorem t_mi1 {X : Ctx} {Q : Option AV → Sto → Prop} (O : Ok X K5_init Q) (hS : sN S = 26) (h : WP X 226 [(0, vr 26)] [] (Mn S 26) 26 16138) : WP X 131 [(0, vr 26)] [] (Mn S 13) 13 16088 := by
  have C := O.1
  have m13 : sN (Mn S 13) = 40 := Mn_n hS 13
  refine r_aloadn C 0 dX5_init_131 rfl ?_
  refine r_bipush C (x := 8) dX5_init_132 (by decide) ?_
  refine r_newa C (c := 7) (by decide) rfl (mB 352 (by decide +kernel) rfl) (by rw [m13]; decide) (by rw [m13]; decide) (by rw [m13]; decide) (by decide) (by rw [m13]; decide) dX5_init_134 ?_
  rw [m13, show ln 40 = 8 from by decide]
  refine r_putFR C (a := 26) (c := 5) (k := 18) ⟨by rw [sN_nw, m13]; decide, rfl⟩ fl_5_61 (Or.inr ⟨_, rfl⟩) ⟨rfl, rfl, rfl⟩ dX5_init_136 ?_
  have z13 : pR (nw (Mn S 13)) 26 18 (some 40) = Mn S 14 := Mn_s 13
  rw [z13]
  show WP X 139 [(0, vr 26)] [] (Mn S 14) 14 16096
  have m14 : sN (Mn S 14) = 41 := Mn_n hS 14
  refine r_aloadn C 0 dX5_init_139 rfl ?_
  refine r_bipush C (x := 8) dX5_init_140 (by decide) ?_
  refine r_newa C (c := 8) (by decide) rfl (mB 788 (by decide +kernel) rfl) (by rw [m14]; decide) (by rw [m14]; decide) (by rw [m14]; decide) (by decide) (by rw [m14]; decide) dX5_init_142 ?_
  rw [m14, show ln 41 = 8 from by decide]
  refine r_putFR C (a := 26) (c := 5) (k := 19) ⟨by rw [sN_nw, m14]; decide, rfl⟩ fl_5_64 (Or.inr ⟨_, rfl⟩) ⟨rfl, rfl, rfl⟩ dX5_init_144 ?_
  have z14 : pR (nw (Mn S 14)) 26 19 (some 41) = Mn S 15 := Mn_s 14
  rw [z14]
  show WP X 147 [(0, vr 26)] [] (Mn S 15) 15 16104
  have m15 : sN (Mn S 15) = 42 := Mn_n hS 15
  refine r_aloadn C 0 dX5_init_147 rfl ?_
  refine r_bipush C (x := 8) dX5_init_148 (by decide) ?_
  refine r_newa C (c := 7) (by decide) rfl (mB 352 (by decide +kernel) rfl) (by rw [m15]; decide) (by rw [m15]; decide) (by rw [m15]; decide) (by decide) (by rw [m15]; decide) dX5_init_150 ?_
  rw [m15, show ln 42 = 8 from by decide]
  refine r_putFR C (a := 26) (c := 5) (k := 20) ⟨by rw [sN_nw, m15]; decide, rfl⟩ fl_5_67 (Or.inr ⟨_, rfl⟩) ⟨rfl, rfl, rfl⟩ dX5_init_152 ?_
  have z15 : pR (nw (Mn S 15)) 26 20 (some 42) = Mn S 16 := Mn_s 15
  rw [z15]
  show WP X 155 [(0, vr 26)] [] (Mn S 16) 16 16112
  have m16 : sN (Mn S 16) = 43 := Mn_n hS 16
  refine r_aloadn C 0 dX5_init_155 rfl ?_
  refine r_bipush C (x := 8) dX5_init_156 (by decide) ?_
  refine r_newa C (c := 8) (by decide) rfl (mB 788 (by decide +kernel) rfl) (by rw [m16]; decide) (by rw [m16]; decide) (by rw [m16]; decide) (by decide) (by rw [m16]; decide) dX5_init_158 ?_
  rw [m16, show ln 43 = 8 from by decide]
  refine r_putFR C (a := 26) (c := 5) (k := 21) ⟨by rw [sN_nw, m16]; decide, rfl⟩ fl_5_70 (Or.inr ⟨_, rfl⟩) ⟨rfl, rfl, rfl⟩ dX5_init_160 ?_
  have z16 : pR (nw (Mn S 16)) 26 21 (some 43) = Mn S 17 := Mn_s 16
  rw [z16]
  show WP X 163 [(0, vr 26)] [] (Mn S 17) 17 16120
  have m17 : sN (Mn S 17) = 44 := Mn_n hS 17
  refine r_aloadn C 0 dX5_init_163 rfl ?_
  refine r_iconst C (x := 2) dX5_init_164 (by decide) ?_
  refine r_newa C (c := 7) (by decide) rfl (mB 352 (by decide +kernel) rfl) (by rw [m17]; decide) (by rw [m17]; decide) (by rw [m17]; decide) (by decide) (by rw [m17]; decide) dX5_init_165 ?_
  rw [m17, show ln 44 = 2 from by decide]
  refine r_putFR C (a := 26) (c := 5) (k := 22) ⟨by rw [sN_nw, m17]; decide, rfl⟩ fl_5_73 (Or.inr ⟨_, rfl⟩) ⟨rfl, rfl, rfl⟩ dX5_init_167 ?_
  have z17 : pR (nw (Mn S 17)) 26 22 (some 44) = Mn S 18 := Mn_s 17
  rw [z17]
  show WP X 170 [(0, vr 26)] [] (Mn S 18) 18 16122
  have m18 : sN (Mn S 18) = 45 := Mn_n hS 18
  refine r_aloadn C 0 dX5_init_170 rfl ?_
  refine r_iconst C (x := 2) dX5_init_171 (by decide) ?_
  refine r_newa C (c := 7) (by decide) rfl (mB 352 (by decide +kernel) rfl) (by rw [m18]; decide) (by rw [m18]; decide) (by rw [m18]; decide) (by decide) (by rw [m18]; decide) dX5_init_172 ?_
  rw [m18, show ln 45 = 2 from by decide]
  refine r_putFR C (a := 26) (c := 5) (k := 23) ⟨by rw [sN_nw, m18]; decide, rfl⟩ fl_5_76 (Or.inr ⟨_, rfl⟩) ⟨rfl, rfl, rfl⟩ dX5_init_174 ?_
  have z18 : pR (nw (Mn S 18)) 26 23 (some 45) = Mn S 19 := Mn_s 18
  rw [z18]
  show WP X 177 [(0, vr 26)] [] (Mn S 19) 19 16124
  have m19 : sN (Mn S 19) = 46 := Mn_n hS 19
  refine r_aloadn C 0 dX5_init_177 rfl ?_
  refine r_iconst C (x := 2) dX5_init_178 (by decide) ?_
  refine r_newa C (c := 7) (by decide) rfl (mB 352 (by decide +kernel) rfl) (by rw [m19]; decide) (by rw [m19]; decide) (by rw [m19]; decide) (by decide) (by rw [m19]; decide) dX5_init_179 ?_
  rw [m19, show ln 46 = 2 from by decide]
  refine r_putFR C (a := 26) (c := 5) (k := 24) ⟨by rw [sN_nw, m19]; decide, rfl⟩ fl_5_79 (Or.inr ⟨_, rfl⟩) ⟨rfl, rfl, rfl⟩ dX5_init_181 ?_
  have z19 : pR (nw (Mn S 19)) 26 24 (some 46) = Mn S 20 := Mn_s 19
  rw [z19]
  show WP X 184 [(0, vr 26)] [] (Mn S 20) 20 16126
  have m20 : sN (Mn S 20) = 47 := Mn_n hS 20
  refine r_aloadn C 0 dX5_init_184 rfl ?_
  refine r_iconst C (x := 2) dX5_init_185 (by decide) ?_
  refine r_newa C (c := 7) (by decide) rfl (mB 352 (by decide +kernel) rfl) (by rw [m20]; decide) (by rw [m20]; decide) (by rw [m20]; decide) (by decide) (by rw [m20]; decide) dX5_init_186 ?_
  rw [m20, show ln 47 = 2 from by decide]
  refine r_putFR C (a := 26) (c := 5) (k := 25) ⟨by rw [sN_nw, m20]; decide, rfl⟩ fl_5_82 (Or.inr ⟨_, rfl⟩) ⟨rfl, rfl, rfl⟩ dX5_init_188 ?_
  have z20 : pR (nw (Mn S 20)) 26 25 (some 47) = Mn S 21 := Mn_s 20
  rw [z20]
  show WP X 191 [(0, vr 26)] [] (Mn S 21) 21 16128
  have m21 : sN (Mn S 21) = 48 := Mn_n hS 21
  refine r_aloadn C 0 dX5_init_191 rfl ?_
  refine r_iconst C (x := 2) dX5_init_192 (by decide) ?_
  refine r_newa C (c := 7) (by decide) rfl (mB 352 (by decide +kernel) rfl) (by rw [m21]; decide) (by rw [m21]; decide) (by rw [m21]; decide) (by decide) (by rw [m21]; decide) dX5_init_193 ?_
  rw [m21, show ln 48 = 2 from by decide]
  refine r_putFR C (a := 26) (c := 5) (k := 26) ⟨by rw [sN_nw, m21]; decide, rfl⟩ fl_5_85 (Or.inr ⟨_, rfl⟩) ⟨rfl, rfl, rfl⟩ dX5_init_195 ?_
  have z21 : pR (nw (Mn S 21)) 26 26 (some 48) = Mn S 22 := Mn_s 21
  rw [z21]
  show WP X 198 [(0, vr 26)] [] (Mn S 22) 22 16130
  have m22 : sN (Mn S 22) = 49 := Mn_n hS 22
  refine r_aloadn C 0 dX5_init_198 rfl ?_
  refine r_iconst C (x := 2) dX5_init_199 (by decide) ?_
  refine r_newa C (c := 7) (by decide) rfl (mB 352 (by decide +kernel) rfl) (by rw [m22]; decide) (by rw [m22]; decide) (by rw [m22]; decide) (by decide) (by rw [m22]; decide) dX5_init_200 ?_
  rw [m22, show ln 49 = 2 from by decide]
  refine r_putFR C (a := 26) (c := 5) (k := 27) ⟨by rw [sN_nw, m22]; decide, rfl⟩ fl_5_88 (Or.inr ⟨_, rfl⟩) ⟨rfl, rfl, rfl⟩ dX5_init_202 ?_
  have z22 : pR (nw (Mn S 22)) 26 27 (some 49) = Mn S 23 := Mn_s 22
  rw [z22]
  show WP X 205 [(0, vr 26)] [] (Mn S 23) 23 16132
  have m23 : sN (Mn S 23) = 50 := Mn_n hS 23
  refine r_aloadn C 0 dX5_init_205 rfl ?_
  refine r_iconst C (x := 2) dX5_init_206 (by decide) ?_
  refine r_newa C (c := 7) (by decide) rfl (mB 352 (by decide +kernel) rfl) (by rw [m23]; decide) (by rw [m23]; decide) (by rw [m23]; decide) (by decide) (by rw [m23]; decide) dX5_init_207 ?_
  rw [m23, show ln 50 = 2 from by decide]
  refine r_putFR C (a := 26) (c := 5) (k := 28) ⟨by rw [sN_nw, m23]; decide, rfl⟩ fl_5_91 (Or.inr ⟨_, rfl⟩) ⟨rfl, rfl, rfl⟩ dX5_init_209 ?_
  have z23 : pR (nw (Mn S 23)) 26 28 (some 50) = Mn S 24 := Mn_s 23
  rw [z23]
  show WP X 212 [(0, vr 26)] [] (Mn S 24) 24 16134
  have m24 : sN (Mn S 24) = 51 := Mn_n hS 24
  refine r_aloadn C 0 dX5_init_212 rfl ?_
  refine r_iconst C (x := 2) dX5_init_213 (by decide) ?_
  refine r_newa C (c := 7) (by decide) rfl (mB 352 (by decide +kernel) rfl) (by rw [m24]; decide) (by rw [m24]; decide) (by rw [m24]; decide) (by decide) (by rw [m24]; decide) dX5_init_214 ?_
  rw [m24, show ln 51 = 2 from by decide]
  refine r_putFR C (a := 26) (c := 5) (k := 29) ⟨by rw [sN_nw, m24]; decide, rfl⟩ fl_5_94 (Or.inr ⟨_, rfl⟩) ⟨rfl, rfl, rfl⟩ dX5_init_216 ?_
  have z24 : pR (nw (Mn S 24)) 26 29 (some 51) = Mn S 25 := Mn_s 24
  rw [z24]
  show WP X 219 [(0, vr 26)] [] (Mn S 25) 25 16136
  have m25 : sN (Mn S 25) = 52 := Mn_n hS 25
  refine r_aloadn C 0 dX5_init_219 rfl ?_
  refine r_iconst C (x := 2) dX5_init_220 (by decide) ?_
  refine r_newa C (c := 7) (by decide) rfl (mB 352 (by decide +kernel) rfl) (by rw [m25]; decide) (by rw [m25]; decide) (by rw [m25]; decide) (by decide) (by rw [m25]; decide) dX5_init_221 ?_
  rw [m25, show ln 52 = 2 from by decide]
  refine r_putFR C (a := 26) (c := 5) (k := 30) ⟨by rw [sN_nw, m25]; decide, rfl⟩ fl_5_97 (Or.inr ⟨_, rfl⟩) ⟨rfl, rfl, rfl⟩ dX5_init_223 ?_
  have z25 : pR (nw (Mn S 25)) 26 30 (some 52) = Mn S 26 := Mn_s 25
  rw [z25]
  exact h
set_option maxHeartbeats 4000000 in
set_option maxRecDepth 100000 in
theorem t_mi2 {X : Ctx} {Q : Option AV → Sto → Prop} (O : Ok X K5_init Q) (hS : sN S = 26) (h : WP X 317 [(0, vr 26)] [] (Mn S 39) 39 16164) : WP X 226 [(0, vr 26)] [] (Mn S 26) 26 16138 := by
  have C := O.1
  have m26 : sN (Mn S 26) = 53 := Mn_n hS 26
  refine r_aloadn C 0 dX5_init_226 rfl ?_
  refine r_iconst C (x := 2) dX5_init_227 (by decide) ?_
  refine r_newa C (c := 8) (by decide) rfl (mB 788 (by decide +kernel) rfl) (by rw [m26]; decide) (by rw [m26]; decide) (by rw [m26]; decide) (by decide) (by rw [m26]; decide) dX5_init_228 ?_
  rw [m26, show ln 53 = 2 from by decide]
  refine r_putFR C (a := 26) (c := 5) (k := 31) ⟨by rw [sN_nw, m26]; decide, rfl⟩ fl_5_100 (Or.inr ⟨_, rfl⟩) ⟨rfl, rfl, rfl⟩ dX5_init_230 ?_
  have z26 : pR (nw (Mn S 26)) 26 31 (some 53) = Mn S 27 := Mn_s 26
  rw [z26]
  show WP X 233 [(0, vr 26)] [] (Mn S 27) 27 16140
  have m27 : sN (Mn S 27) = 54 := Mn_n hS 27
  refine r_aloadn C 0 dX5_init_233 rfl ?_
  refine r_iconst C (x := 2) dX5_init_234 (by decide) ?_
  refine r_newa C (c := 7) (by decide) rfl (mB 352 (by decide +kernel) rfl) (by rw [m27]; decide) (by rw [m27]; decide) (by rw [m27]; decide) (by decide) (by rw [m27]; decide) dX5_init_235 ?_
  rw [m27, show ln 54 = 2 from by decide]
  refine r_putFR C (a := 26) (c := 5) (k := 32) ⟨by rw [sN_nw, m27]; decide, rfl⟩ fl_5_103 (Or.inr ⟨_, rfl⟩) ⟨rfl, rfl, rfl⟩ dX5_init_237 ?_
  have z27 : pR (nw (Mn S 27)) 26 32 (some 54) = Mn S 28 := Mn_s 27
  rw [z27]
  show WP X 240 [(0, vr 26)] [] (Mn S 28) 28 16142
  have m28 : sN (Mn S 28) = 55 := Mn_n hS 28
  refine r_aloadn C 0 dX5_init_240 rfl ?_
  refine r_iconst C (x := 2) dX5_init_241 (by decide) ?_
  refine r_newa C (c := 7) (by decide) rfl (mB 352 (by decide +kernel) rfl) (by rw [m28]; decide) (by rw [m28]; decide) (by rw [m28]; decide) (by decide) (by rw [m28]; decide) dX5_init_242 ?_
  rw [m28, show ln 55 = 2 from by decide]
  refine r_putFR C (a := 26) (c := 5) (k := 33) ⟨by rw [sN_nw, m28]; decide, rfl⟩ fl_5_106 (Or.inr ⟨_, rfl⟩) ⟨rfl, rfl, rfl⟩ dX5_init_244 ?_
  have z28 : pR (nw (Mn S 28)) 26 33 (some 55) = Mn S 29 := Mn_s 28
  rw [z28]
  show WP X 247 [(0, vr 26)] [] (Mn S 29) 29 16144
  have m29 : sN (Mn S 29) = 56 := Mn_n hS 29
  refine r_aloadn C 0 dX5_init_247 rfl ?_
  refine r_iconst C (x := 2) dX5_init_248 (by decide) ?_
  refine r_newa C (c := 8) (by decide) rfl (mB 788 (by decide +kernel) rfl) (by rw [m29]; decide) (by rw [m29]; decide) (by rw [m29]; decide) (by decide) (by rw [m29]; decide) dX5_init_249 ?_
  rw [m29, show ln 56 = 2 from by decide]
  refine r_putFR C (a := 26) (c := 5) (k := 34) ⟨by rw [sN_nw, m29]; decide, rfl⟩ fl_5_109 (Or.inr ⟨_, rfl⟩) ⟨rfl, rfl, rfl⟩ dX5_init_251 ?_
  have z29 : pR (nw (Mn S 29)) 26 34 (some 56) = Mn S 30 := Mn_s 29
  rw [z29]
  show WP X 254 [(0, vr 26)] [] (Mn S 30) 30 16146
  have m30 : sN (Mn S 30) = 57 := Mn_n hS 30
  refine r_aloadn C 0 dX5_init_254 rfl ?_
  refine r_iconst C (x := 2) dX5_init_255 (by decide) ?_
  refine r_newa C (c := 7) (by decide) rfl (mB 352 (by decide +kernel) rfl) (by rw [m30]; decide) (by rw [m30]; decide) (by rw [m30]; decide) (by decide) (by rw [m30]; decide) dX5_init_256 ?_
  rw [m30, show ln 57 = 2 from by decide]
  refine r_putFR C (a := 26) (c := 5) (k := 35) ⟨by rw [sN_nw, m30]; decide, rfl⟩ fl_5_112 (Or.inr ⟨_, rfl⟩) ⟨rfl, rfl, rfl⟩ dX5_init_258 ?_
  have z30 : pR (nw (Mn S 30)) 26 35 (some 57) = Mn S 31 := Mn_s 30
  rw [z30]
  show WP X 261 [(0, vr 26)] [] (Mn S 31) 31 16148
  have m31 : sN (Mn S 31) = 58 := Mn_n hS 31
  refine r_aloadn C 0 dX5_init_261 rfl ?_
  refine r_iconst C (x := 2) dX5_init_262 (by decide) ?_
  refine r_newa C (c := 8) (by decide) rfl (mB 788 (by decide +kernel) rfl) (by rw [m31]; decide) (by rw [m31]; decide) (by rw [m31]; decide) (by decide) (by rw [m31]; decide) dX5_init_263 ?_
  rw [m31, show ln 58 = 2 from by decide]
  refine r_putFR C (a := 26) (c := 5) (k := 36) ⟨by rw [sN_nw, m31]; decide, rfl⟩ fl_5_115 (Or.inr ⟨_, rfl⟩) ⟨rfl, rfl, rfl⟩ dX5_init_265 ?_
  have z31 : pR (nw (Mn S 31)) 26 36 (some 58) = Mn S 32 := Mn_s 31
  rw [z31]
  show WP X 268 [(0, vr 26)] [] (Mn S 32) 32 16150
  have m32 : sN (Mn S 32) = 59 := Mn_n hS 32
  refine r_aloadn C 0 dX5_init_268 rfl ?_
  refine r_iconst C (x := 2) dX5_init_269 (by decide) ?_
  refine r_newa C (c := 7) (by decide) rfl (mB 352 (by decide +kernel) rfl) (by rw [m32]; decide) (by rw [m32]; decide) (by rw [m32]; decide) (by decide) (by rw [m32]; decide) dX5_init_270 ?_
  rw [m32, show ln 59 = 2 from by decide]
  refine r_putFR C (a := 26) (c := 5) (k := 37) ⟨by rw [sN_nw, m32]; decide, rfl⟩ fl_5_118 (Or.inr ⟨_, rfl⟩) ⟨rfl, rfl, rfl⟩ dX5_init_272 ?_
  have z32 : pR (nw (Mn S 32)) 26 37 (some 59) = Mn S 33 := Mn_s 32
  rw [z32]
  show WP X 275 [(0, vr 26)] [] (Mn S 33) 33 16152
  have m33 : sN (Mn S 33) = 60 := Mn_n hS 33
  refine r_aloadn C 0 dX5_init_275 rfl ?_
  refine r_iconst C (x := 2) dX5_init_276 (by decide) ?_
  refine r_newa C (c := 7) (by decide) rfl (mB 352 (by decide +kernel) rfl) (by rw [m33]; decide) (by rw [m33]; decide) (by rw [m33]; decide) (by decide) (by rw [m33]; decide) dX5_init_277 ?_
  rw [m33, show ln 60 = 2 from by decide]
  refine r_putFR C (a := 26) (c := 5) (k := 38) ⟨by rw [sN_nw, m33]; decide, rfl⟩ fl_5_121 (Or.inr ⟨_, rfl⟩) ⟨rfl, rfl, rfl⟩ dX5_init_279 ?_
  have z33 : pR (nw (Mn S 33)) 26 38 (some 60) = Mn S 34 := Mn_s 33
  rw [z33]
  show WP X 282 [(0, vr 26)] [] (Mn S 34) 34 16154
  have m34 : sN (Mn S 34) = 61 := Mn_n hS 34
  refine r_aloadn C 0 dX5_init_282 rfl ?_
  refine r_iconst C (x := 2) dX5_init_283 (by decide) ?_
  refine r_newa C (c := 7) (by decide) rfl (mB 352 (by decide +kernel) rfl) (by rw [m34]; decide) (by rw [m34]; decide) (by rw [m34]; decide) (by decide) (by rw [m34]; decide) dX5_init_284 ?_
  rw [m34, show ln 61 = 2 from by decide]
  refine r_putFR C (a := 26) (c := 5) (k := 39) ⟨by rw [sN_nw, m34]; decide, rfl⟩ fl_5_124 (Or.inr ⟨_, rfl⟩) ⟨rfl, rfl, rfl⟩ dX5_init_286 ?_
  have z34 : pR (nw (Mn S 34)) 26 39 (some 61) = Mn S 35 := Mn_s 34
  rw [z34]
  show WP X 289 [(0, vr 26)] [] (Mn S 35) 35 16156
  have m35 : sN (Mn S 35) = 62 := Mn_n hS 35
  refine r_aloadn C 0 dX5_init_289 rfl ?_
  refine r_iconst C (x := 2) dX5_init_290 (by decide) ?_
  refine r_newa C (c := 8) (by decide) rfl (mB 788 (by decide +kernel) rfl) (by rw [m35]; decide) (by rw [m35]; decide) (by rw [m35]; decide) (by decide) (by rw [m35]; decide) dX5_init_291 ?_
  rw [m35, show ln 62 = 2 from by decide]
  refine r_putFR C (a := 26) (c := 5) (k := 40) ⟨by rw [sN_nw, m35]; decide, rfl⟩ fl_5_127 (Or.inr ⟨_, rfl⟩) ⟨rfl, rfl, rfl⟩ dX5_init_293 ?_
  have z35 : pR (nw (Mn S 35)) 26 40 (some 62) = Mn S 36 := Mn_s 35
  rw [z35]
  show WP X 296 [(0, vr 26)] [] (Mn S 36) 36 16158
  have m36 : sN (Mn S 36) = 63 := Mn_n hS 36
  refine r_aloadn C 0 dX5_init_296 rfl ?_
  refine r_iconst C (x := 2) dX5_init_297 (by decide) ?_
  refine r_newa C (c := 7) (by decide) rfl (mB 352 (by decide +kernel) rfl) (by rw [m36]; decide) (by rw [m36]; decide) (by rw [m36]; decide) (by decide) (by rw [m36]; decide) dX5_init_298 ?_
  rw [m36, show ln 63 = 2 from by decide]
  refine r_putFR C (a := 26) (c := 5) (k := 41) ⟨by rw [sN_nw, m36]; decide, rfl⟩ fl_5_130 (Or.inr ⟨_, rfl⟩) ⟨rfl, rfl, rfl⟩ dX5_init_300 ?_
  have z36 : pR (nw (Mn S 36)) 26 41 (some 63) = Mn S 37 := Mn_s 36
  rw [z36]
  show WP X 303 [(0, vr 26)] [] (Mn S 37) 37 16160
  have m37 : sN (Mn S 37) = 64 := Mn_n hS 37
  refine r_aloadn C 0 dX5_init_303 rfl ?_
  refine r_iconst C (x := 2) dX5_init_304 (by decide) ?_
  refine r_newa C (c := 8) (by decide) rfl (mB 788 (by decide +kernel) rfl) (by rw [m37]; decide) (by rw [m37]; decide) (by rw [m37]; decide) (by decide) (by rw [m37]; decide) dX5_init_305 ?_
  rw [m37, show ln 64 = 2 from by decide]
  refine r_putFR C (a := 26) (c := 5) (k := 42) ⟨by rw [sN_nw, m37]; decide, rfl⟩ fl_5_133 (Or.inr ⟨_, rfl⟩) ⟨rfl, rfl, rfl⟩ dX5_init_307 ?_
  have z37 : pR (nw (Mn S 37)) 26 42 (some 64) = Mn S 38 := Mn_s 37
  rw [z37]
  show WP X 310 [(0, vr 26)] [] (Mn S 38) 38 16162
  have m38 : sN (Mn S 38) = 65 := Mn_n hS 38
  refine r_aloadn C 0 dX5_init_310 rfl ?_
  refine r_iconst C (x := 2) dX5_init_311 (by decide) ?_
  refine r_newa C (c := 7) (by decide) rfl (mB 352 (by decide +kernel) rfl) (by rw [m38]; decide) (by rw [m38]; decide) (by rw [m38]; decide) (by decide) (by rw [m38]; decide) dX5_init_312 ?_
  rw [m38, show ln 65 = 2 from by decide]
  refine r_putFR C (a := 26) (c := 5) (k := 43) ⟨by rw [sN_nw, m38]; decide, rfl⟩ fl_5_136 (Or.inr ⟨_, rfl⟩) ⟨rfl, rfl, rfl⟩ dX5_init_314 ?_
  have z38 : pR (nw (Mn S 38)) 26 43 (some 65) = Mn S 39 := Mn_s 38
  rw [z38]
  exact h
set_option maxHeartbeats 4000000 in
set_option maxRecDepth 100000 in
theorem t_mi3 {X : Ctx} {Q : Option AV → Sto → Prop} (O : Ok X K5_init Q) (hS : sN S = 26) (h : WP X 433 [(0, vr 26)] [] (Mn S 52) 52 84464) : WP X 317 [(0, vr 26)] [] (Mn S 39) 39 16164 := by
  have C := O.1
  have m39 : sN (Mn S 39) = 66 := Mn_n hS 39
  refine r_aloadn C 0 dX5_init_317 rfl ?_
  refine r_sipush C (x := 600) dX5_init_318 (by decide) ?_
  refine r_newa C (c := 7) (by decide) rfl (mB 352 (by decide +kernel) rfl) (by rw [m39]; decide) (by rw [m39]; decide) (by rw [m39]; decide) (by decide) (by rw [m39]; decide) dX5_init_321 ?_
  rw [m39, show ln 66 = 600 from by decide]
  refine r_putFR C (a := 26) (c := 5) (k := 50) ⟨by rw [sN_nw, m39]; decide, rfl⟩ fl_5_139 (Or.inr ⟨_, rfl⟩) ⟨rfl, rfl, rfl⟩ dX5_init_323 ?_
  have z39 : pR (nw (Mn S 39)) 26 50 (some 66) = Mn S 40 := Mn_s 39
  rw [z39]
  show WP X 326 [(0, vr 26)] [] (Mn S 40) 40 16764
  have m40 : sN (Mn S 40) = 67 := Mn_n hS 40
  refine r_aloadn C 0 dX5_init_326 rfl ?_
  refine r_sipush C (x := 600) dX5_init_327 (by decide) ?_
  refine r_newa C (c := 7) (by decide) rfl (mB 352 (by decide +kernel) rfl) (by rw [m40]; decide) (by rw [m40]; decide) (by rw [m40]; decide) (by decide) (by rw [m40]; decide) dX5_init_330 ?_
  rw [m40, show ln 67 = 600 from by decide]
  refine r_putFR C (a := 26) (c := 5) (k := 51) ⟨by rw [sN_nw, m40]; decide, rfl⟩ fl_5_142 (Or.inr ⟨_, rfl⟩) ⟨rfl, rfl, rfl⟩ dX5_init_332 ?_
  have z40 : pR (nw (Mn S 40)) 26 51 (some 67) = Mn S 41 := Mn_s 40
  rw [z40]
  show WP X 335 [(0, vr 26)] [] (Mn S 41) 41 17364
  have m41 : sN (Mn S 41) = 68 := Mn_n hS 41
  refine r_aloadn C 0 dX5_init_335 rfl ?_
  refine r_sipush C (x := 600) dX5_init_336 (by decide) ?_
  refine r_newa C (c := 7) (by decide) rfl (mB 352 (by decide +kernel) rfl) (by rw [m41]; decide) (by rw [m41]; decide) (by rw [m41]; decide) (by decide) (by rw [m41]; decide) dX5_init_339 ?_
  rw [m41, show ln 68 = 600 from by decide]
  refine r_putFR C (a := 26) (c := 5) (k := 52) ⟨by rw [sN_nw, m41]; decide, rfl⟩ fl_5_145 (Or.inr ⟨_, rfl⟩) ⟨rfl, rfl, rfl⟩ dX5_init_341 ?_
  have z41 : pR (nw (Mn S 41)) 26 52 (some 68) = Mn S 42 := Mn_s 41
  rw [z41]
  show WP X 344 [(0, vr 26)] [] (Mn S 42) 42 17964
  have m42 : sN (Mn S 42) = 69 := Mn_n hS 42
  refine r_aloadn C 0 dX5_init_344 rfl ?_
  refine r_sipush C (x := 600) dX5_init_345 (by decide) ?_
  refine r_newa C (c := 7) (by decide) rfl (mB 352 (by decide +kernel) rfl) (by rw [m42]; decide) (by rw [m42]; decide) (by rw [m42]; decide) (by decide) (by rw [m42]; decide) dX5_init_348 ?_
  rw [m42, show ln 69 = 600 from by decide]
  refine r_putFR C (a := 26) (c := 5) (k := 53) ⟨by rw [sN_nw, m42]; decide, rfl⟩ fl_5_148 (Or.inr ⟨_, rfl⟩) ⟨rfl, rfl, rfl⟩ dX5_init_350 ?_
  have z42 : pR (nw (Mn S 42)) 26 53 (some 69) = Mn S 43 := Mn_s 42
  rw [z42]
  show WP X 353 [(0, vr 26)] [] (Mn S 43) 43 18564
  have m43 : sN (Mn S 43) = 70 := Mn_n hS 43
  refine r_aloadn C 0 dX5_init_353 rfl ?_
  refine r_sipush C (x := 600) dX5_init_354 (by decide) ?_
  refine r_newa C (c := 8) (by decide) rfl (mB 788 (by decide +kernel) rfl) (by rw [m43]; decide) (by rw [m43]; decide) (by rw [m43]; decide) (by decide) (by rw [m43]; decide) dX5_init_357 ?_
  rw [m43, show ln 70 = 600 from by decide]
  refine r_putFR C (a := 26) (c := 5) (k := 54) ⟨by rw [sN_nw, m43]; decide, rfl⟩ fl_5_151 (Or.inr ⟨_, rfl⟩) ⟨rfl, rfl, rfl⟩ dX5_init_359 ?_
  have z43 : pR (nw (Mn S 43)) 26 54 (some 70) = Mn S 44 := Mn_s 43
  rw [z43]
  show WP X 362 [(0, vr 26)] [] (Mn S 44) 44 19164
  have m44 : sN (Mn S 44) = 71 := Mn_n hS 44
  refine r_aloadn C 0 dX5_init_362 rfl ?_
  refine r_sipush C (x := 600) dX5_init_363 (by decide) ?_
  refine r_newa C (c := 8) (by decide) rfl (mB 788 (by decide +kernel) rfl) (by rw [m44]; decide) (by rw [m44]; decide) (by rw [m44]; decide) (by decide) (by rw [m44]; decide) dX5_init_366 ?_
  rw [m44, show ln 71 = 600 from by decide]
  refine r_putFR C (a := 26) (c := 5) (k := 55) ⟨by rw [sN_nw, m44]; decide, rfl⟩ fl_5_154 (Or.inr ⟨_, rfl⟩) ⟨rfl, rfl, rfl⟩ dX5_init_368 ?_
  have z44 : pR (nw (Mn S 44)) 26 55 (some 71) = Mn S 45 := Mn_s 44
  rw [z44]
  show WP X 371 [(0, vr 26)] [] (Mn S 45) 45 19764
  have m45 : sN (Mn S 45) = 72 := Mn_n hS 45
  refine r_aloadn C 0 dX5_init_371 rfl ?_
  refine r_sipush C (x := 600) dX5_init_372 (by decide) ?_
  refine r_newa C (c := 8) (by decide) rfl (mB 788 (by decide +kernel) rfl) (by rw [m45]; decide) (by rw [m45]; decide) (by rw [m45]; decide) (by decide) (by rw [m45]; decide) dX5_init_375 ?_
  rw [m45, show ln 72 = 600 from by decide]
  refine r_putFR C (a := 26) (c := 5) (k := 56) ⟨by rw [sN_nw, m45]; decide, rfl⟩ fl_5_157 (Or.inr ⟨_, rfl⟩) ⟨rfl, rfl, rfl⟩ dX5_init_377 ?_
  have z45 : pR (nw (Mn S 45)) 26 56 (some 72) = Mn S 46 := Mn_s 45
  rw [z45]
  show WP X 380 [(0, vr 26)] [] (Mn S 46) 46 20364
  have m46 : sN (Mn S 46) = 73 := Mn_n hS 46
  refine r_aloadn C 0 dX5_init_380 rfl ?_
  refine r_sipush C (x := 600) dX5_init_381 (by decide) ?_
  refine r_newa C (c := 8) (by decide) rfl (mB 788 (by decide +kernel) rfl) (by rw [m46]; decide) (by rw [m46]; decide) (by rw [m46]; decide) (by decide) (by rw [m46]; decide) dX5_init_384 ?_
  rw [m46, show ln 73 = 600 from by decide]
  refine r_putFR C (a := 26) (c := 5) (k := 57) ⟨by rw [sN_nw, m46]; decide, rfl⟩ fl_5_160 (Or.inr ⟨_, rfl⟩) ⟨rfl, rfl, rfl⟩ dX5_init_386 ?_
  have z46 : pR (nw (Mn S 46)) 26 57 (some 73) = Mn S 47 := Mn_s 46
  rw [z46]
  show WP X 389 [(0, vr 26)] [] (Mn S 47) 47 20964
  have m47 : sN (Mn S 47) = 74 := Mn_n hS 47
  refine r_aloadn C 0 dX5_init_389 rfl ?_
  refine r_ldc C (x := 57600) (mB 586 (by decide +kernel) rfl) dX5_init_390 ?_
  refine r_newa C (c := 7) (by decide) rfl (mB 352 (by decide +kernel) rfl) (by rw [m47]; decide) (by rw [m47]; decide) (by rw [m47]; decide) (by decide) (by rw [m47]; decide) dX5_init_392 ?_
  rw [m47, show ln 74 = 57600 from by decide]
  refine r_putFR C (a := 26) (c := 5) (k := 58) ⟨by rw [sN_nw, m47]; decide, rfl⟩ fl_5_164 (Or.inr ⟨_, rfl⟩) ⟨rfl, rfl, rfl⟩ dX5_init_394 ?_
  have z47 : pR (nw (Mn S 47)) 26 58 (some 74) = Mn S 48 := Mn_s 47
  rw [z47]
  show WP X 397 [(0, vr 26)] [] (Mn S 48) 48 78564
  have m48 : sN (Mn S 48) = 75 := Mn_n hS 48
  refine r_aloadn C 0 dX5_init_397 rfl ?_
  refine r_sipush C (x := 4800) dX5_init_398 (by decide) ?_
  refine r_newa C (c := 7) (by decide) rfl (mB 352 (by decide +kernel) rfl) (by rw [m48]; decide) (by rw [m48]; decide) (by rw [m48]; decide) (by decide) (by rw [m48]; decide) dX5_init_401 ?_
  rw [m48, show ln 75 = 4800 from by decide]
  refine r_putFR C (a := 26) (c := 5) (k := 59) ⟨by rw [sN_nw, m48]; decide, rfl⟩ fl_5_167 (Or.inr ⟨_, rfl⟩) ⟨rfl, rfl, rfl⟩ dX5_init_403 ?_
  have z48 : pR (nw (Mn S 48)) 26 59 (some 75) = Mn S 49 := Mn_s 48
  rw [z48]
  show WP X 406 [(0, vr 26)] [] (Mn S 49) 49 83364
  have m49 : sN (Mn S 49) = 76 := Mn_n hS 49
  refine r_aloadn C 0 dX5_init_406 rfl ?_
  refine r_sipush C (x := 400) dX5_init_407 (by decide) ?_
  refine r_newa C (c := 7) (by decide) rfl (mB 352 (by decide +kernel) rfl) (by rw [m49]; decide) (by rw [m49]; decide) (by rw [m49]; decide) (by decide) (by rw [m49]; decide) dX5_init_410 ?_
  rw [m49, show ln 76 = 400 from by decide]
  refine r_putFR C (a := 26) (c := 5) (k := 60) ⟨by rw [sN_nw, m49]; decide, rfl⟩ fl_5_170 (Or.inr ⟨_, rfl⟩) ⟨rfl, rfl, rfl⟩ dX5_init_412 ?_
  have z49 : pR (nw (Mn S 49)) 26 60 (some 76) = Mn S 50 := Mn_s 49
  rw [z49]
  show WP X 415 [(0, vr 26)] [] (Mn S 50) 50 83764
  have m50 : sN (Mn S 50) = 77 := Mn_n hS 50
  refine r_aloadn C 0 dX5_init_415 rfl ?_
  refine r_sipush C (x := 400) dX5_init_416 (by decide) ?_
  refine r_newa C (c := 7) (by decide) rfl (mB 352 (by decide +kernel) rfl) (by rw [m50]; decide) (by rw [m50]; decide) (by rw [m50]; decide) (by decide) (by rw [m50]; decide) dX5_init_419 ?_
  rw [m50, show ln 77 = 400 from by decide]
  refine r_putFR C (a := 26) (c := 5) (k := 61) ⟨by rw [sN_nw, m50]; decide, rfl⟩ fl_5_173 (Or.inr ⟨_, rfl⟩) ⟨rfl, rfl, rfl⟩ dX5_init_421 ?_
  have z50 : pR (nw (Mn S 50)) 26 61 (some 77) = Mn S 51 := Mn_s 50
  rw [z50]
  show WP X 424 [(0, vr 26)] [] (Mn S 51) 51 84164
  have m51 : sN (Mn S 51) = 78 := Mn_n hS 51
  refine r_aloadn C 0 dX5_init_424 rfl ?_
  refine r_sipush C (x := 300) dX5_init_425 (by decide) ?_
  refine r_newa C (c := 8) (by decide) rfl (mB 788 (by decide +kernel) rfl) (by rw [m51]; decide) (by rw [m51]; decide) (by rw [m51]; decide) (by decide) (by rw [m51]; decide) dX5_init_428 ?_
  rw [m51, show ln 78 = 300 from by decide]
  refine r_putFR C (a := 26) (c := 5) (k := 64) ⟨by rw [sN_nw, m51]; decide, rfl⟩ fl_5_176 (Or.inr ⟨_, rfl⟩) ⟨rfl, rfl, rfl⟩ dX5_init_430 ?_
  have z51 : pR (nw (Mn S 51)) 26 64 (some 78) = Mn S 52 := Mn_s 51
  rw [z51]
  exact h
set_option maxHeartbeats 4000000 in
set_option maxRecDepth 100000 in
theorem c_newModel {Q1 : Sto → Prop} {Q : Option AV → Sto → Prop} (hS : sN S = 26) (hF : Fx (Mn S 52)) (hb : Cv K5_begin [vr 26] (Mn S 52) Q1) (h : ∀ S1, Q1 S1 → Fx S1 → Q none S1) : CALL K5_init [vr 26] (nw S) Q := by
  have a0 : al (nw S) 26 5 := ⟨by rw [sN_nw, hS]; decide, rfl⟩
  refine CALL.intro rfl (Nat.le_of_ble_eq_true rfl) (fun X O => ?_)
  have C := O.1
  show WP X 0 [(0, vr 26)] [] (nw S) 0 0
  refine r_aloadn C 0 dX5_init_0 rfl ?_
  refine r_objInit C oi_5 oi_m oi_c (by decide) (by decide) dX5_init_1 ?_
  refine r_aloadn C 0 dX5_init_4 rfl ?_
  refine r_sipush C (x := 200) dX5_init_5 (by decide) ?_
  refine r_putI C (c := 5) a0 fl_5_7 rfl rfl dX5_init_8 ?_
  refine r_aloadn C 0 dX5_init_11 rfl ?_
  refine r_sipush C (x := 300) dX5_init_12 (by decide) ?_
  refine r_putI C (c := 5) a0 fl_5_13 rfl rfl dX5_init_15 ?_
  refine r_aloadn C 0 dX5_init_18 rfl ?_
  refine r_sipush C (x := 600) dX5_init_19 (by decide) ?_
  refine r_putI C (c := 5) a0 fl_5_16 rfl rfl dX5_init_22 ?_
  show WP X 25 [(0, vr 26)] [] (Mn S 0) 0 0
  refine t_mi0 O hS (t_mi1 O hS (t_mi2 O hS (t_mi3 O hS ?_)))
  refine r_aloadn C 0 dX5_init_433 rfl ?_
  refine r_callVv C K5_begin [] [] (hF.k (by decide) rfl) (by decide) rfl cl_5_179 rm_5_init_5_begin ⟨rfl, rfl⟩ (by decide) (by decide) rfl (Nat.le_of_ble_eq_true rfl) dX5_init_434 hb (fun S1 hF1 _ q => ?_)
  exact r_vret O rfl dX5_init_437 (by decide) (by decide) (h S1 q hF1)
end MINIT
