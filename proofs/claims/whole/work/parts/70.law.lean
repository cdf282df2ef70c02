section LAWWALK
theorem ar_p {s : State} {A : Array Value} {ty : FieldType} (h : (Cond.arrayClass ty).before A s = true) : ∃ cA, ArrOfT s cA ty ∧ s.vm.findClass ("[" ++ ty.toString) = some cA := by
  obtain ⟨c, k, comp, h1, h2, h3⟩ := Cond.arrayClass_spec h
  exact ⟨c, fun n z => ⟨fun k h => (by cases h), k, h2, comp, h3⟩, h1⟩
theorem ar_o {s : State} {A : Array Value} {C : String} (h : (Cond.arrayOver (.object C)).before A s = true) : ∃ cA, ArrOfT s cA (.object C) ∧ va_RA s cA (.object C) := by
  obtain ⟨comp, c, k, h1, h2, h3, h4, h5⟩ := Cond.arrayOver_spec h
  exact ⟨c, fun n z => ⟨fun k h => (by cases h), k, h3, comp, h4⟩, k, comp, h3, h4, h1, h5⟩
theorem mTb (i : Nat) {w : Cond} (h : tables_1[i]? = some w) : w ∈ lw_tbl := List.mem_append_right _ (List.mem_of_getElem? h)
theorem dk_of {s : State} {A : Array Value} (htl : ∀ w ∈ lw_tbl, w.before A s = true) : ∃ D : Dd, DK D s := by
  have hts : ∀ w ∈ BIG, w.before A s = true := fun w hw => htl w (BIG_in w hw)
  have hC : ∀ c, ∃ (cC : ClassId) (iS : Nat → Nat), c < 6 → u_Kn s (RC c) (TC c) (NC c) cC iS := fun c => by
    have go : ∀ c, c < 6 → Cond.instantiable (RC c) (NC c) ∈ BIG → ∃ (cC : ClassId) (iS : Nat → Nat), c < 6 → u_Kn s (RC c) (TC c) (NC c) cC iS := fun c hc hw => by
      obtain ⟨a, b, h⟩ := u_known (C := RC c) (T := TC c) (N := NC c) (n := NC c) hts (lays_in c hc) (hts _ hw)
      exact ⟨a, b, fun _ => h⟩
    by_cases hc : c < 6
    · rcases (show c = 0 ∨ c = 1 ∨ c = 2 ∨ c = 3 ∨ c = 4 ∨ c = 5 by omega) with rfl | rfl | rfl | rfl | rfl | rfl
      · exact go 0 hc (mB 100 (by decide +kernel) rfl)
      · exact go 1 hc (mB 297 (by decide +kernel) rfl)
      · exact go 2 hc (mB 93 (by decide +kernel) rfl)
      · exact go 3 hc (mB 20 (by decide +kernel) rfl)
      · exact go 4 hc (mB 9 (by decide +kernel) rfl)
      · exact go 5 hc (mB 581 (by decide +kernel) rfl)
    · obtain ⟨a, b, -⟩ := go 0 (by decide) (mB 100 (by decide +kernel) rfl)
      exact ⟨a, b, fun h => absurd h hc⟩
  have hO1 := htl (.arrayOver (.object RX1)) (mTb 17 (by decide +kernel))
  have hO2 := htl (.arrayOver (.object RX2)) (mTb 92 (by decide +kernel))
  have hO3 := htl (.arrayOver (.object RX3)) (mTb 19 (by decide +kernel))
  have hA : ∀ k, ∃ cA : ClassId, 6 ≤ k → k < 12 → ArrOfT s cA (eT k) ∧ va_RA s cA (eT k) := fun k => by
    obtain ⟨a6, x6, y6⟩ := ar_p (hts (.arrayClass .byte) (mB 90 (by decide +kernel) rfl))
    obtain ⟨a7, x7, y7⟩ := ar_p (hts (.arrayClass .int) (mB 352 (by decide +kernel) rfl))
    obtain ⟨a8, x8, y8⟩ := ar_p (hts (.arrayClass .boolean) (mB 788 (by decide +kernel) rfl))
    obtain ⟨a9, x9, y9⟩ := ar_o hO1
    obtain ⟨a10, x10, y10⟩ := ar_o hO2
    obtain ⟨a11, x11, y11⟩ := ar_o hO3
    by_cases hk : 6 ≤ k ∧ k < 12
    · rcases (show k = 6 ∨ k = 7 ∨ k = 8 ∨ k = 9 ∨ k = 10 ∨ k = 11 by omega) with rfl | rfl | rfl | rfl | rfl | rfl
      · exact ⟨a6, fun _ _ => ⟨x6, y6⟩⟩
      · exact ⟨a7, fun _ _ => ⟨x7, y7⟩⟩
      · exact ⟨a8, fun _ _ => ⟨x8, y8⟩⟩
      · exact ⟨a9, fun _ _ => ⟨x9, y9⟩⟩
      · exact ⟨a10, fun _ _ => ⟨x10, y10⟩⟩
      · exact ⟨a11, fun _ _ => ⟨x11, y11⟩⟩
    · exact ⟨a6, fun h1 h2 => absurd ⟨h1, h2⟩ hk⟩
  exact ⟨(fun c => (hC c).choose, fun c => (hC c).choose_spec.choose, fun k => (hA k).choose), fun c hc => (hC c).choose_spec.choose_spec hc, fun k h1 h2 => (hA k).choose_spec h1 h2, va_AO.of hO1, va_AO.of hO2, va_AO.of hO3⟩
/-- the law as a method of the walk -/
def KLw (nm : String) : Mt := (⟨RL, nm, "([I)Z"⟩, cL_law, 4, some .boolean, room_1)
theorem law_cx {p : Program} {l : Launch} {e : Env} {s : State} {m : MethodId} {below : List Frame} {meth : Method} {c : Code} {b L : Nat} {xs : Nat → Int32} {Z : State → Prop} (h : lw_At p s m meth c b L xs) : ∃ D : Dd, Cx (p, l, e, room_1, s, m, #[Value.ref b], below, meth, c, D, s.heap.size, Z) (KLw meth.name) := by
  obtain ⟨hx, hb, hr, hml, hown, hts, hX, hbl, hlocks, hgv⟩ := h
  have ht : ∀ w ∈ BIG, w.before #[Value.ref b] s = true := fun w hw => hts w (BIG_in w hw)
  obtain ⟨D, hD⟩ := dk_of hts
  exact ⟨D, hx, hb, hml, hown, ht, hD, Nat.le_refl _, rfl, rfl⟩
theorem vpk {c k N : Nat} (h : 5 * c + k < N) (hN : N ≤ 2560) : vp_in (nI (5 * c) + nI k) N := by
  rw [nI_add]; exact vp_in_iff.mpr (ixN h (by omega))
theorem LI.f {S : Sto} {t : Nat} (h : LI S t) : Fx S := by
  obtain ⟨T, J, rfl, hR, -⟩ := h
  exact FxJ hR.f
/-- the law's locals in its loop -/
def LLw (X : Ctx) (b i : Nat) : List (Nat × Value) := [(3, .int (nI i)), (2, .ref (xz X + 26)), (1, .ref (xz X + 0)), (0, .ref b)]
theorem cl_L_9 : CalI RL 9 K4_init 0 := ⟨⟨mB 10 (by decide +kernel) rfl, mB 1 (by decide +kernel) rfl, mB 12 (by decide +kernel) rfl, by decide +kernel, by decide +kernel, by decide +kernel⟩, rfl, rfl, mB 11 (by decide +kernel) rfl⟩
theorem rm_L_K4_init {nm : String} : Rm (KLw nm) K4_init := ⟨Nat.le_of_ble_eq_true rfl, Nat.le_of_ble_eq_true rfl⟩
theorem cl_L_12 : CalI RL 12 K5_init 0 := ⟨⟨mB 582 (by decide +kernel) rfl, mB 5 (by decide +kernel) rfl, mB 584 (by decide +kernel) rfl, by decide +kernel, by decide +kernel, by decide +kernel⟩, rfl, rfl, mB 583 (by decide +kernel) rfl⟩
theorem rm_L_K5_init {nm : String} : Rm (KLw nm) K5_init := ⟨Nat.le_of_ble_eq_true rfl, Nat.le_of_ble_eq_true rfl⟩
theorem cl_L_13 : CalV RL 13 K4_shape 3 := ⟨⟨mB 246 (by decide +kernel) rfl, mB 1 (by decide +kernel) rfl, mB 249 (by decide +kernel) rfl, by decide +kernel, by decide +kernel, by decide +kernel⟩, mB 247 (by decide +kernel) rfl, mB 248 (by decide +kernel) rfl⟩
theorem rm_L_K4_shape {nm : String} : Rm (KLw nm) K4_shape := ⟨Nat.le_of_ble_eq_true rfl, Nat.le_of_ble_eq_true rfl⟩
theorem cl_L_17 : CalV RL 17 K5_shape 3 := ⟨⟨mB 789 (by decide +kernel) rfl, mB 5 (by decide +kernel) rfl, mB 792 (by decide +kernel) rfl, by decide +kernel, by decide +kernel, by decide +kernel⟩, mB 790 (by decide +kernel) rfl, mB 791 (by decide +kernel) rfl⟩
theorem rm_L_K5_shape {nm : String} : Rm (KLw nm) K5_shape := ⟨Nat.le_of_ble_eq_true rfl, Nat.le_of_ble_eq_true rfl⟩
theorem cl_L_18 : CalV RL 18 K4_write 2 := ⟨⟨mB 258 (by decide +kernel) rfl, mB 1 (by decide +kernel) rfl, mB 261 (by decide +kernel) rfl, by decide +kernel, by decide +kernel, by decide +kernel⟩, mB 259 (by decide +kernel) rfl, mB 260 (by decide +kernel) rfl⟩
theorem rm_L_K4_write {nm : String} : Rm (KLw nm) K4_write := ⟨Nat.le_of_ble_eq_true rfl, Nat.le_of_ble_eq_true rfl⟩
theorem cl_L_22 : CalV RL 22 K5_write 2 := ⟨⟨mB 800 (by decide +kernel) rfl, mB 5 (by decide +kernel) rfl, mB 803 (by decide +kernel) rfl, by decide +kernel, by decide +kernel, by decide +kernel⟩, mB 801 (by decide +kernel) rfl, mB 802 (by decide +kernel) rfl⟩
theorem rm_L_K5_write {nm : String} : Rm (KLw nm) K5_write := ⟨Nat.le_of_ble_eq_true rfl, Nat.le_of_ble_eq_true rfl⟩
theorem cl_L_23 : CalV RL 23 K4_end 1 := ⟨⟨mB 266 (by decide +kernel) rfl, mB 1 (by decide +kernel) rfl, mB 269 (by decide +kernel) rfl, by decide +kernel, by decide +kernel, by decide +kernel⟩, mB 267 (by decide +kernel) rfl, mB 268 (by decide +kernel) rfl⟩
theorem rm_L_K4_end {nm : String} : Rm (KLw nm) K4_end := ⟨Nat.le_of_ble_eq_true rfl, Nat.le_of_ble_eq_true rfl⟩
theorem cl_L_27 : CalV RL 27 K5_end 1 := ⟨⟨mB 808 (by decide +kernel) rfl, mB 5 (by decide +kernel) rfl, mB 811 (by decide +kernel) rfl, by decide +kernel, by decide +kernel, by decide +kernel⟩, mB 809 (by decide +kernel) rfl, mB 810 (by decide +kernel) rfl⟩
theorem rm_L_K5_end {nm : String} : Rm (KLw nm) K5_end := ⟨Nat.le_of_ble_eq_true rfl, Nat.le_of_ble_eq_true rfl⟩
theorem cl_L_28 : CalV RL 28 K4_cut 1 := ⟨⟨mB 270 (by decide +kernel) rfl, mB 1 (by decide +kernel) rfl, mB 273 (by decide +kernel) rfl, by decide +kernel, by decide +kernel, by decide +kernel⟩, mB 271 (by decide +kernel) rfl, mB 272 (by decide +kernel) rfl⟩
theorem rm_L_K4_cut {nm : String} : Rm (KLw nm) K4_cut := ⟨Nat.le_of_ble_eq_true rfl, Nat.le_of_ble_eq_true rfl⟩
theorem cl_L_31 : CalV RL 31 K5_cut 1 := ⟨⟨mB 812 (by decide +kernel) rfl, mB 5 (by decide +kernel) rfl, mB 815 (by decide +kernel) rfl, by decide +kernel, by decide +kernel, by decide +kernel⟩, mB 813 (by decide +kernel) rfl, mB 814 (by decide +kernel) rfl⟩
theorem rm_L_K5_cut {nm : String} : Rm (KLw nm) K5_cut := ⟨Nat.le_of_ble_eq_true rfl, Nat.le_of_ble_eq_true rfl⟩
theorem cl_L_32 : CalV RL 32 K4_read 2 := ⟨⟨mB 274 (by decide +kernel) rfl, mB 1 (by decide +kernel) rfl, mB 277 (by decide +kernel) rfl, by decide +kernel, by decide +kernel, by decide +kernel⟩, mB 275 (by decide +kernel) rfl, mB 276 (by decide +kernel) rfl⟩
theorem rm_L_K4_read {nm : String} : Rm (KLw nm) K4_read := ⟨Nat.le_of_ble_eq_true rfl, Nat.le_of_ble_eq_true rfl⟩
theorem cl_L_35 : CalV RL 35 K5_read 2 := ⟨⟨mB 816 (by decide +kernel) rfl, mB 5 (by decide +kernel) rfl, mB 819 (by decide +kernel) rfl, by decide +kernel, by decide +kernel, by decide +kernel⟩, mB 817 (by decide +kernel) rfl, mB 818 (by decide +kernel) rfl⟩
theorem rm_L_K5_read {nm : String} : Rm (KLw nm) K5_read := ⟨Nat.le_of_ble_eq_true rfl, Nat.le_of_ble_eq_true rfl⟩
theorem cl_L_36 : CalV RL 36 K4_move 0 := ⟨⟨mB 285 (by decide +kernel) rfl, mB 1 (by decide +kernel) rfl, mB 288 (by decide +kernel) rfl, by decide +kernel, by decide +kernel, by decide +kernel⟩, mB 286 (by decide +kernel) rfl, mB 287 (by decide +kernel) rfl⟩
theorem rm_L_K4_move {nm : String} : Rm (KLw nm) K4_move := ⟨Nat.le_of_ble_eq_true rfl, Nat.le_of_ble_eq_true rfl⟩
theorem cl_L_40 : CalV RL 40 K5_move 0 := ⟨⟨mB 824 (by decide +kernel) rfl, mB 5 (by decide +kernel) rfl, mB 827 (by decide +kernel) rfl, by decide +kernel, by decide +kernel, by decide +kernel⟩, mB 825 (by decide +kernel) rfl, mB 826 (by decide +kernel) rfl⟩
theorem rm_L_K5_move {nm : String} : Rm (KLw nm) K5_move := ⟨Nat.le_of_ble_eq_true rfl, Nat.le_of_ble_eq_true rfl⟩
theorem cl_L_41 : CalV RL 41 K4_send 1 := ⟨⟨mB 289 (by decide +kernel) rfl, mB 1 (by decide +kernel) rfl, mB 292 (by decide +kernel) rfl, by decide +kernel, by decide +kernel, by decide +kernel⟩, mB 290 (by decide +kernel) rfl, mB 291 (by decide +kernel) rfl⟩
theorem rm_L_K4_send {nm : String} : Rm (KLw nm) K4_send := ⟨Nat.le_of_ble_eq_true rfl, Nat.le_of_ble_eq_true rfl⟩
theorem cl_L_44 : CalV RL 44 K5_send 1 := ⟨⟨mB 828 (by decide +kernel) rfl, mB 5 (by decide +kernel) rfl, mB 831 (by decide +kernel) rfl, by decide +kernel, by decide +kernel, by decide +kernel⟩, mB 829 (by decide +kernel) rfl, mB 830 (by decide +kernel) rfl⟩
theorem rm_L_K5_send {nm : String} : Rm (KLw nm) K5_send := ⟨Nat.le_of_ble_eq_true rfl, Nat.le_of_ble_eq_true rfl⟩
theorem cl_L_45 : CalV RL 45 K4_come 1 := ⟨⟨mB 447 (by decide +kernel) rfl, mB 1 (by decide +kernel) rfl, mB 450 (by decide +kernel) rfl, by decide +kernel, by decide +kernel, by decide +kernel⟩, mB 448 (by decide +kernel) rfl, mB 449 (by decide +kernel) rfl⟩
theorem rm_L_K4_come {nm : String} : Rm (KLw nm) K4_come := ⟨Nat.le_of_ble_eq_true rfl, Nat.le_of_ble_eq_true rfl⟩
theorem cl_L_48 : CalV RL 48 K5_come 1 := ⟨⟨mB 867 (by decide +kernel) rfl, mB 5 (by decide +kernel) rfl, mB 870 (by decide +kernel) rfl, by decide +kernel, by decide +kernel, by decide +kernel⟩, mB 868 (by decide +kernel) rfl, mB 869 (by decide +kernel) rfl⟩
theorem rm_L_K5_come {nm : String} : Rm (KLw nm) K5_come := ⟨Nat.le_of_ble_eq_true rfl, Nat.le_of_ble_eq_true rfl⟩
theorem cl_L_49 : CalV RL 49 K4_drop 1 := ⟨⟨mB 524 (by decide +kernel) rfl, mB 1 (by decide +kernel) rfl, mB 527 (by decide +kernel) rfl, by decide +kernel, by decide +kernel, by decide +kernel⟩, mB 525 (by decide +kernel) rfl, mB 526 (by decide +kernel) rfl⟩
theorem rm_L_K4_drop {nm : String} : Rm (KLw nm) K4_drop := ⟨Nat.le_of_ble_eq_true rfl, Nat.le_of_ble_eq_true rfl⟩
theorem cl_L_52 : CalV RL 52 K5_drop 1 := ⟨⟨mB 911 (by decide +kernel) rfl, mB 5 (by decide +kernel) rfl, mB 914 (by decide +kernel) rfl, by decide +kernel, by decide +kernel, by decide +kernel⟩, mB 912 (by decide +kernel) rfl, mB 913 (by decide +kernel) rfl⟩
theorem rm_L_K5_drop {nm : String} : Rm (KLw nm) K5_drop := ⟨Nat.le_of_ble_eq_true rfl, Nat.le_of_ble_eq_true rfl⟩
theorem cl_L_53 : CalV RL 53 K4_twice 1 := ⟨⟨mB 528 (by decide +kernel) rfl, mB 1 (by decide +kernel) rfl, mB 531 (by decide +kernel) rfl, by decide +kernel, by decide +kernel, by decide +kernel⟩, mB 529 (by decide +kernel) rfl, mB 530 (by decide +kernel) rfl⟩
theorem rm_L_K4_twice {nm : String} : Rm (KLw nm) K4_twice := ⟨Nat.le_of_ble_eq_true rfl, Nat.le_of_ble_eq_true rfl⟩
theorem cl_L_56 : CalV RL 56 K5_twice 1 := ⟨⟨mB 915 (by decide +kernel) rfl, mB 5 (by decide +kernel) rfl, mB 918 (by decide +kernel) rfl, by decide +kernel, by decide +kernel, by decide +kernel⟩, mB 916 (by decide +kernel) rfl, mB 917 (by decide +kernel) rfl⟩
theorem rm_L_K5_twice {nm : String} : Rm (KLw nm) K5_twice := ⟨Nat.le_of_ble_eq_true rfl, Nat.le_of_ble_eq_true rfl⟩
theorem cl_L_57 : CalV RL 57 K4_tick 1 := ⟨⟨mB 532 (by decide +kernel) rfl, mB 1 (by decide +kernel) rfl, mB 535 (by decide +kernel) rfl, by decide +kernel, by decide +kernel, by decide +kernel⟩, mB 533 (by decide +kernel) rfl, mB 534 (by decide +kernel) rfl⟩
theorem rm_L_K4_tick {nm : String} : Rm (KLw nm) K4_tick := ⟨Nat.le_of_ble_eq_true rfl, Nat.le_of_ble_eq_true rfl⟩
theorem cl_L_60 : CalV RL 60 K5_tick 1 := ⟨⟨mB 919 (by decide +kernel) rfl, mB 5 (by decide +kernel) rfl, mB 922 (by decide +kernel) rfl, by decide +kernel, by decide +kernel, by decide +kernel⟩, mB 920 (by decide +kernel) rfl, mB 921 (by decide +kernel) rfl⟩
theorem rm_L_K5_tick {nm : String} : Rm (KLw nm) K5_tick := ⟨Nat.le_of_ble_eq_true rfl, Nat.le_of_ble_eq_true rfl⟩
theorem cl_L_61 : CalV RL 61 K4_stream 2 := ⟨⟨mB 545 (by decide +kernel) rfl, mB 1 (by decide +kernel) rfl, mB 548 (by decide +kernel) rfl, by decide +kernel, by decide +kernel, by decide +kernel⟩, mB 546 (by decide +kernel) rfl, mB 547 (by decide +kernel) rfl⟩
theorem rm_L_K4_stream {nm : String} : Rm (KLw nm) K4_stream := ⟨Nat.le_of_ble_eq_true rfl, Nat.le_of_ble_eq_true rfl⟩
theorem cl_L_64 : CalV RL 64 K5_stream 2 := ⟨⟨mB 927 (by decide +kernel) rfl, mB 5 (by decide +kernel) rfl, mB 930 (by decide +kernel) rfl, by decide +kernel, by decide +kernel, by decide +kernel⟩, mB 928 (by decide +kernel) rfl, mB 929 (by decide +kernel) rfl⟩
theorem rm_L_K5_stream {nm : String} : Rm (KLw nm) K5_stream := ⟨Nat.le_of_ble_eq_true rfl, Nat.le_of_ble_eq_true rfl⟩
theorem cl_L_65 : CalV RL 65 K4_state 2 := ⟨⟨mB 552 (by decide +kernel) rfl, mB 1 (by decide +kernel) rfl, mB 555 (by decide +kernel) rfl, by decide +kernel, by decide +kernel, by decide +kernel⟩, mB 553 (by decide +kernel) rfl, mB 554 (by decide +kernel) rfl⟩
theorem rm_L_K4_state {nm : String} : Rm (KLw nm) K4_state := ⟨Nat.le_of_ble_eq_true rfl, Nat.le_of_ble_eq_true rfl⟩
theorem cl_L_68 : CalV RL 68 K5_state 2 := ⟨⟨mB 942 (by decide +kernel) rfl, mB 5 (by decide +kernel) rfl, mB 945 (by decide +kernel) rfl, by decide +kernel, by decide +kernel, by decide +kernel⟩, mB 943 (by decide +kernel) rfl, mB 944 (by decide +kernel) rfl⟩
theorem rm_L_K5_state {nm : String} : Rm (KLw nm) K5_state := ⟨Nat.le_of_ble_eq_true rfl, Nat.le_of_ble_eq_true rfl⟩
theorem cl_L_69 : CalV RL 69 K4_side 2 := ⟨⟨mB 556 (by decide +kernel) rfl, mB 1 (by decide +kernel) rfl, mB 559 (by decide +kernel) rfl, by decide +kernel, by decide +kernel, by decide +kernel⟩, mB 557 (by decide +kernel) rfl, mB 558 (by decide +kernel) rfl⟩
theorem rm_L_K4_side {nm : String} : Rm (KLw nm) K4_side := ⟨Nat.le_of_ble_eq_true rfl, Nat.le_of_ble_eq_true rfl⟩
theorem cl_L_72 : CalV RL 72 K5_side 2 := ⟨⟨mB 947 (by decide +kernel) rfl, mB 5 (by decide +kernel) rfl, mB 950 (by decide +kernel) rfl, by decide +kernel, by decide +kernel, by decide +kernel⟩, mB 948 (by decide +kernel) rfl, mB 949 (by decide +kernel) rfl⟩
theorem rm_L_K5_side {nm : String} : Rm (KLw nm) K5_side := ⟨Nat.le_of_ble_eq_true rfl, Nat.le_of_ble_eq_true rfl⟩
theorem cl_L_73 : CalV RL 73 K4_packet 3 := ⟨⟨mB 560 (by decide +kernel) rfl, mB 1 (by decide +kernel) rfl, mB 563 (by decide +kernel) rfl, by decide +kernel, by decide +kernel, by decide +kernel⟩, mB 561 (by decide +kernel) rfl, mB 562 (by decide +kernel) rfl⟩
theorem rm_L_K4_packet {nm : String} : Rm (KLw nm) K4_packet := ⟨Nat.le_of_ble_eq_true rfl, Nat.le_of_ble_eq_true rfl⟩
theorem cl_L_76 : CalV RL 76 K5_packet 3 := ⟨⟨mB 951 (by decide +kernel) rfl, mB 5 (by decide +kernel) rfl, mB 954 (by decide +kernel) rfl, by decide +kernel, by decide +kernel, by decide +kernel⟩, mB 952 (by decide +kernel) rfl, mB 953 (by decide +kernel) rfl⟩
theorem rm_L_K5_packet {nm : String} : Rm (KLw nm) K5_packet := ⟨Nat.le_of_ble_eq_true rfl, Nat.le_of_ble_eq_true rfl⟩
theorem cl_L_77 : CalV RL 77 K4_part 4 := ⟨⟨mB 568 (by decide +kernel) rfl, mB 1 (by decide +kernel) rfl, mB 571 (by decide +kernel) rfl, by decide +kernel, by decide +kernel, by decide +kernel⟩, mB 569 (by decide +kernel) rfl, mB 570 (by decide +kernel) rfl⟩
theorem rm_L_K4_part {nm : String} : Rm (KLw nm) K4_part := ⟨Nat.le_of_ble_eq_true rfl, Nat.le_of_ble_eq_true rfl⟩
theorem cl_L_81 : CalV RL 81 K5_part 4 := ⟨⟨mB 959 (by decide +kernel) rfl, mB 5 (by decide +kernel) rfl, mB 962 (by decide +kernel) rfl, by decide +kernel, by decide +kernel, by decide +kernel⟩, mB 960 (by decide +kernel) rfl, mB 961 (by decide +kernel) rfl⟩
theorem rm_L_K5_part {nm : String} : Rm (KLw nm) K5_part := ⟨Nat.le_of_ble_eq_true rfl, Nat.le_of_ble_eq_true rfl⟩
theorem cl_L_82 : CalV RL 82 K4_net 2 := ⟨⟨mB 572 (by decide +kernel) rfl, mB 1 (by decide +kernel) rfl, mB 575 (by decide +kernel) rfl, by decide +kernel, by decide +kernel, by decide +kernel⟩, mB 573 (by decide +kernel) rfl, mB 574 (by decide +kernel) rfl⟩
theorem rm_L_K4_net {nm : String} : Rm (KLw nm) K4_net := ⟨Nat.le_of_ble_eq_true rfl, Nat.le_of_ble_eq_true rfl⟩
theorem cl_L_85 : CalV RL 85 K5_net 2 := ⟨⟨mB 964 (by decide +kernel) rfl, mB 5 (by decide +kernel) rfl, mB 967 (by decide +kernel) rfl, by decide +kernel, by decide +kernel, by decide +kernel⟩, mB 965 (by decide +kernel) rfl, mB 966 (by decide +kernel) rfl⟩
theorem rm_L_K5_net {nm : String} : Rm (KLw nm) K5_net := ⟨Nat.le_of_ble_eq_true rfl, Nat.le_of_ble_eq_true rfl⟩
theorem cl_L_86 : CalV RL 86 K4_told 1 := ⟨⟨mB 576 (by decide +kernel) rfl, mB 1 (by decide +kernel) rfl, mB 579 (by decide +kernel) rfl, by decide +kernel, by decide +kernel, by decide +kernel⟩, mB 577 (by decide +kernel) rfl, mB 578 (by decide +kernel) rfl⟩
theorem rm_L_K4_told {nm : String} : Rm (KLw nm) K4_told := ⟨Nat.le_of_ble_eq_true rfl, Nat.le_of_ble_eq_true rfl⟩
theorem cl_L_89 : CalV RL 89 K5_told 1 := ⟨⟨mB 968 (by decide +kernel) rfl, mB 5 (by decide +kernel) rfl, mB 971 (by decide +kernel) rfl, by decide +kernel, by decide +kernel, by decide +kernel⟩, mB 969 (by decide +kernel) rfl, mB 970 (by decide +kernel) rfl⟩
theorem rm_L_K5_told {nm : String} : Rm (KLw nm) K5_told := ⟨Nat.le_of_ble_eq_true rfl, Nat.le_of_ble_eq_true rfl⟩
variable {X : Ctx} {nm : String} {b N c t u v : Nat} {f : Nat → Int32} {S : Sto}
set_option maxHeartbeats 4000000 in
set_option maxRecDepth 100000 in
theorem law_op0 (C : Cx X (KLw nm)) (hX : va_X b N f (xs X) (xs X).heap) (hb : b < (xs X).heap.size) (hz : b < xz X) (hN : N ≤ 2560) (h5 : 5 * c + 5 ≤ N) (hI : LI S t) (ht : t + 1000 ≤ 512000) (hu : u + 3 ≤ 600000) (hv : v + 85 ≤ 7302250) (go : ∀ S' t', t' ≤ t + 1000 → LI S' t' → WLa X (LLw X b (5 * c)) 654 [] S' (u + 3) (v + 85)) : WLa X (LLw X b (5 * c)) 120 [] S u v := by
  have hF := hI.f
  refine w_aloadn C 2 dL_law_120 rfl ?_
  refine w_elt C hX hb hz 3 0 rfl rfl (y := nI 1) (by decide) (vpk (by omega) hN) dL_law_121 dL_law_122 dL_law_123 dL_law_124 dL_law_125 ?_
  refine w_elt C hX hb hz 3 0 rfl rfl (y := nI 2) (by decide) (vpk (by omega) hN) dL_law_126 dL_law_127 dL_law_128 dL_law_129 dL_law_130 ?_
  refine w_elt C hX hb hz 3 0 rfl rfl (y := nI 3) (by decide) (vpk (by omega) hN) dL_law_131 dL_law_132 dL_law_133 dL_law_134 dL_law_135 ?_
  refine w_callV C K4_shape (av := [vi (f (nI (5 * c) + nI 1).toNatClampNeg), vi (f (nI (5 * c) + nI 2).toNatClampNeg), vi (f (nI (5 * c) + nI 3).toNatClampNeg)]) [] (hF.k (by decide) rfl) (by decide) rfl cl_L_13 rm_L_K4_shape (by show u + 0 ≤ 600000; omega) (by show v + 0 ≤ 7302250; omega) rfl (Nat.le_of_ble_eq_true rfl) dL_law_136 (CALL.mono (p_shape hI) (fun r S1 hq => ?_))
  obtain ⟨x, rfl, hF1, -, hq⟩ := hq
  show WLa X (LLw X b (5 * c)) 139 [vi x] S1 (u + 0) (v + 0)
  refine w_aloadn C 1 dL_law_139 rfl ?_
  refine w_elt C hX hb hz 3 0 rfl rfl (y := nI 1) (by decide) (vpk (by omega) hN) dL_law_140 dL_law_141 dL_law_142 dL_law_143 dL_law_144 ?_
  refine w_elt C hX hb hz 3 0 rfl rfl (y := nI 2) (by decide) (vpk (by omega) hN) dL_law_145 dL_law_146 dL_law_147 dL_law_148 dL_law_149 ?_
  refine w_elt C hX hb hz 3 0 rfl rfl (y := nI 3) (by decide) (vpk (by omega) hN) dL_law_150 dL_law_151 dL_law_152 dL_law_153 dL_law_154 ?_
  refine w_callV C K5_shape (av := [vi (f (nI (5 * c) + nI 1).toNatClampNeg), vi (f (nI (5 * c) + nI 2).toNatClampNeg), vi (f (nI (5 * c) + nI 3).toNatClampNeg)]) [vi x] (hF1.k (by decide) rfl) (by decide) rfl cl_L_17 rm_L_K5_shape (by show u + 0 + 0 ≤ 600000; omega) (by show v + 0 + 0 ≤ 7302250; omega) rfl (Nat.le_of_ble_eq_true rfl) dL_law_155 (CALL.mono hq (fun r S2 hq2 => ?_))
  obtain ⟨y, rfl, hF2, -, rfl, hL⟩ := hq2
  refine w_same C rfl dL_law_158 (tgt := 654) (by decide) (w_wide (k := u + 3) (n := v + 85) (by show u + 0 + 0 ≤ u + 3; omega) (by show v + 0 + 0 ≤ v + 85; omega) (go S2 t (by omega) hL))
set_option maxHeartbeats 4000000 in
set_option maxRecDepth 100000 in
theorem law_op1 (C : Cx X (KLw nm)) (hX : va_X b N f (xs X) (xs X).heap) (hb : b < (xs X).heap.size) (hz : b < xz X) (hN : N ≤ 2560) (h5 : 5 * c + 5 ≤ N) (hI : LI S t) (ht : t + 1000 ≤ 512000) (hu : u + 3 ≤ 600000) (hv : v + 85 ≤ 7302250) (go : ∀ S' t', t' ≤ t + 1000 → LI S' t' → WLa X (LLw X b (5 * c)) 654 [] S' (u + 3) (v + 85)) : WLa X (LLw X b (5 * c)) 163 [] S u v := by
  have hF := hI.f
  refine w_aloadn C 2 dL_law_163 rfl ?_
  refine w_elt C hX hb hz 3 0 rfl rfl (y := nI 1) (by decide) (vpk (by omega) hN) dL_law_164 dL_law_165 dL_law_166 dL_law_167 dL_law_168 ?_
  refine w_elt C hX hb hz 3 0 rfl rfl (y := nI 2) (by decide) (vpk (by omega) hN) dL_law_169 dL_law_170 dL_law_171 dL_law_172 dL_law_173 ?_
  refine w_callV C K4_write (av := [vi (f (nI (5 * c) + nI 1).toNatClampNeg), vi (f (nI (5 * c) + nI 2).toNatClampNeg)]) [] (hF.k (by decide) rfl) (by decide) rfl cl_L_18 rm_L_K4_write (by show u + 0 ≤ 600000; omega) (by show v + 0 ≤ 7302250; omega) rfl (Nat.le_of_ble_eq_true rfl) dL_law_174 (CALL.mono (p_write hI) (fun r S1 hq => ?_))
  obtain ⟨x, rfl, hF1, -, hq⟩ := hq
  show WLa X (LLw X b (5 * c)) 177 [vi x] S1 (u + 0) (v + 0)
  refine w_aloadn C 1 dL_law_177 rfl ?_
  refine w_elt C hX hb hz 3 0 rfl rfl (y := nI 1) (by decide) (vpk (by omega) hN) dL_law_178 dL_law_179 dL_law_180 dL_law_181 dL_law_182 ?_
  refine w_elt C hX hb hz 3 0 rfl rfl (y := nI 2) (by decide) (vpk (by omega) hN) dL_law_183 dL_law_184 dL_law_185 dL_law_186 dL_law_187 ?_
  refine w_callV C K5_write (av := [vi (f (nI (5 * c) + nI 1).toNatClampNeg), vi (f (nI (5 * c) + nI 2).toNatClampNeg)]) [vi x] (hF1.k (by decide) rfl) (by decide) rfl cl_L_22 rm_L_K5_write (by show u + 0 + 0 ≤ 600000; omega) (by show v + 0 + 0 ≤ 7302250; omega) rfl (Nat.le_of_ble_eq_true rfl) dL_law_188 (CALL.mono hq (fun r S2 hq2 => ?_))
  obtain ⟨y, rfl, hF2, -, rfl, hL⟩ := hq2
  refine w_same C rfl dL_law_191 (tgt := 654) (by decide) (w_wide (k := u + 3) (n := v + 85) (by show u + 0 + 0 ≤ u + 3; omega) (by show v + 0 + 0 ≤ v + 85; omega) (go S2 t (by omega) hL))
set_option maxHeartbeats 4000000 in
set_option maxRecDepth 100000 in
theorem law_op2 (C : Cx X (KLw nm)) (hX : va_X b N f (xs X) (xs X).heap) (hb : b < (xs X).heap.size) (hz : b < xz X) (hN : N ≤ 2560) (h5 : 5 * c + 5 ≤ N) (hI : LI S t) (ht : t + 1000 ≤ 512000) (hu : u + 3 ≤ 600000) (hv : v + 85 ≤ 7302250) (go : ∀ S' t', t' ≤ t + 1000 → LI S' t' → WLa X (LLw X b (5 * c)) 654 [] S' (u + 3) (v + 85)) : WLa X (LLw X b (5 * c)) 196 [] S u v := by
  have hF := hI.f
  refine w_aloadn C 2 dL_law_196 rfl ?_
  refine w_elt C hX hb hz 3 0 rfl rfl (y := nI 1) (by decide) (vpk (by omega) hN) dL_law_197 dL_law_198 dL_law_199 dL_law_200 dL_law_201 ?_
  refine w_callV C K4_end (av := [vi (f (nI (5 * c) + nI 1).toNatClampNeg)]) [] (hF.k (by decide) rfl) (by decide) rfl cl_L_23 rm_L_K4_end (by show u + 0 ≤ 600000; omega) (by show v + 0 ≤ 7302250; omega) rfl (Nat.le_of_ble_eq_true rfl) dL_law_202 (CALL.mono (p_end hI) (fun r S1 hq => ?_))
  obtain ⟨x, rfl, hF1, -, hq⟩ := hq
  show WLa X (LLw X b (5 * c)) 205 [vi x] S1 (u + 0) (v + 0)
  refine w_aloadn C 1 dL_law_205 rfl ?_
  refine w_elt C hX hb hz 3 0 rfl rfl (y := nI 1) (by decide) (vpk (by omega) hN) dL_law_206 dL_law_207 dL_law_208 dL_law_209 dL_law_210 ?_
  refine w_callV C K5_end (av := [vi (f (nI (5 * c) + nI 1).toNatClampNeg)]) [vi x] (hF1.k (by decide) rfl) (by decide) rfl cl_L_27 rm_L_K5_end (by show u + 0 + 0 ≤ 600000; omega) (by show v + 0 + 0 ≤ 7302250; omega) rfl (Nat.le_of_ble_eq_true rfl) dL_law_211 (CALL.mono hq (fun r S2 hq2 => ?_))
  obtain ⟨y, rfl, hF2, -, rfl, hL⟩ := hq2
  refine w_same C rfl dL_law_214 (tgt := 654) (by decide) (w_wide (k := u + 3) (n := v + 85) (by show u + 0 + 0 ≤ u + 3; omega) (by show v + 0 + 0 ≤ v + 85; omega) (go S2 t (by omega) hL))
set_option maxHeartbeats 4000000 in
set_option maxRecDepth 100000 in
theorem law_op3 (C : Cx X (KLw nm)) (hX : va_X b N f (xs X) (xs X).heap) (hb : b < (xs X).heap.size) (hz : b < xz X) (hN : N ≤ 2560) (h5 : 5 * c + 5 ≤ N) (hI : LI S t) (ht : t + 1000 ≤ 512000) (hu : u + 3 ≤ 600000) (hv : v + 85 ≤ 7302250) (go : ∀ S' t', t' ≤ t + 1000 → LI S' t' → WLa X (LLw X b (5 * c)) 654 [] S' (u + 3) (v + 85)) : WLa X (LLw X b (5 * c)) 219 [] S u v := by
  have hF := hI.f
  refine w_aloadn C 2 dL_law_219 rfl ?_
  refine w_elt C hX hb hz 3 0 rfl rfl (y := nI 1) (by decide) (vpk (by omega) hN) dL_law_220 dL_law_221 dL_law_222 dL_law_223 dL_law_224 ?_
  refine w_callV C K4_cut (av := [vi (f (nI (5 * c) + nI 1).toNatClampNeg)]) [] (hF.k (by decide) rfl) (by decide) rfl cl_L_28 rm_L_K4_cut (by show u + 0 ≤ 600000; omega) (by show v + 0 ≤ 7302250; omega) rfl (Nat.le_of_ble_eq_true rfl) dL_law_225 (CALL.mono (p_cut hI) (fun r S1 hq => ?_))
  obtain ⟨x, rfl, hF1, -, hq⟩ := hq
  show WLa X (LLw X b (5 * c)) 228 [vi x] S1 (u + 0) (v + 0)
  refine w_aloadn C 1 dL_law_228 rfl ?_
  refine w_elt C hX hb hz 3 0 rfl rfl (y := nI 1) (by decide) (vpk (by omega) hN) dL_law_229 dL_law_230 dL_law_231 dL_law_232 dL_law_233 ?_
  refine w_callV C K5_cut (av := [vi (f (nI (5 * c) + nI 1).toNatClampNeg)]) [vi x] (hF1.k (by decide) rfl) (by decide) rfl cl_L_31 rm_L_K5_cut (by show u + 0 + 0 ≤ 600000; omega) (by show v + 0 + 0 ≤ 7302250; omega) rfl (Nat.le_of_ble_eq_true rfl) dL_law_234 (CALL.mono hq (fun r S2 hq2 => ?_))
  obtain ⟨y, rfl, hF2, -, rfl, hL⟩ := hq2
  refine w_same C rfl dL_law_237 (tgt := 654) (by decide) (w_wide (k := u + 3) (n := v + 85) (by show u + 0 + 0 ≤ u + 3; omega) (by show v + 0 + 0 ≤ v + 85; omega) (go S2 t (by omega) hL))
set_option maxHeartbeats 4000000 in
set_option maxRecDepth 100000 in
theorem law_op4 (C : Cx X (KLw nm)) (hX : va_X b N f (xs X) (xs X).heap) (hb : b < (xs X).heap.size) (hz : b < xz X) (hN : N ≤ 2560) (h5 : 5 * c + 5 ≤ N) (hI : LI S t) (ht : t + 1000 ≤ 512000) (hu : u + 3 ≤ 600000) (hv : v + 85 ≤ 7302250) (go : ∀ S' t', t' ≤ t + 1000 → LI S' t' → WLa X (LLw X b (5 * c)) 654 [] S' (u + 3) (v + 85)) : WLa X (LLw X b (5 * c)) 242 [] S u v := by
  have hF := hI.f
  refine w_aloadn C 2 dL_law_242 rfl ?_
  refine w_elt C hX hb hz 3 0 rfl rfl (y := nI 1) (by decide) (vpk (by omega) hN) dL_law_243 dL_law_244 dL_law_245 dL_law_246 dL_law_247 ?_
  refine w_elt C hX hb hz 3 0 rfl rfl (y := nI 2) (by decide) (vpk (by omega) hN) dL_law_248 dL_law_249 dL_law_250 dL_law_251 dL_law_252 ?_
  refine w_callV C K4_read (av := [vi (f (nI (5 * c) + nI 1).toNatClampNeg), vi (f (nI (5 * c) + nI 2).toNatClampNeg)]) [] (hF.k (by decide) rfl) (by decide) rfl cl_L_32 rm_L_K4_read (by show u + 0 ≤ 600000; omega) (by show v + 0 ≤ 7302250; omega) rfl (Nat.le_of_ble_eq_true rfl) dL_law_253 (CALL.mono (p_read hI) (fun r S1 hq => ?_))
  obtain ⟨x, rfl, hF1, -, hq⟩ := hq
  show WLa X (LLw X b (5 * c)) 256 [vi x] S1 (u + 0) (v + 0)
  refine w_aloadn C 1 dL_law_256 rfl ?_
  refine w_elt C hX hb hz 3 0 rfl rfl (y := nI 1) (by decide) (vpk (by omega) hN) dL_law_257 dL_law_258 dL_law_259 dL_law_260 dL_law_261 ?_
  refine w_elt C hX hb hz 3 0 rfl rfl (y := nI 2) (by decide) (vpk (by omega) hN) dL_law_262 dL_law_263 dL_law_264 dL_law_265 dL_law_266 ?_
  refine w_callV C K5_read (av := [vi (f (nI (5 * c) + nI 1).toNatClampNeg), vi (f (nI (5 * c) + nI 2).toNatClampNeg)]) [vi x] (hF1.k (by decide) rfl) (by decide) rfl cl_L_35 rm_L_K5_read (by show u + 0 + 0 ≤ 600000; omega) (by show v + 0 + 0 ≤ 7302250; omega) rfl (Nat.le_of_ble_eq_true rfl) dL_law_267 (CALL.mono hq (fun r S2 hq2 => ?_))
  obtain ⟨y, rfl, hF2, -, rfl, hL⟩ := hq2
  refine w_same C rfl dL_law_270 (tgt := 654) (by decide) (w_wide (k := u + 3) (n := v + 85) (by show u + 0 + 0 ≤ u + 3; omega) (by show v + 0 + 0 ≤ v + 85; omega) (go S2 t (by omega) hL))
set_option maxHeartbeats 4000000 in
set_option maxRecDepth 100000 in
theorem law_op5 (C : Cx X (KLw nm)) (hX : va_X b N f (xs X) (xs X).heap) (hb : b < (xs X).heap.size) (hz : b < xz X) (hN : N ≤ 2560) (h5 : 5 * c + 5 ≤ N) (hI : LI S t) (ht : t + 1000 ≤ 512000) (hu : u + 3 ≤ 600000) (hv : v + 85 ≤ 7302250) (go : ∀ S' t', t' ≤ t + 1000 → LI S' t' → WLa X (LLw X b (5 * c)) 654 [] S' (u + 3) (v + 85)) : WLa X (LLw X b (5 * c)) 275 [] S u v := by
  have hF := hI.f
  refine w_aloadn C 2 dL_law_275 rfl ?_
  refine w_callV C K4_move (av := []) [] (hF.k (by decide) rfl) (by decide) rfl cl_L_36 rm_L_K4_move (by show u + 0 ≤ 600000; omega) (by show v + 0 ≤ 7302250; omega) rfl (Nat.le_of_ble_eq_true rfl) dL_law_276 (CALL.mono (p_move hI) (fun r S1 hq => ?_))
  obtain ⟨x, rfl, hF1, -, hq⟩ := hq
  show WLa X (LLw X b (5 * c)) 279 [vi x] S1 (u + 0) (v + 0)
  refine w_aloadn C 1 dL_law_279 rfl ?_
  refine w_callV C K5_move (av := []) [vi x] (hF1.k (by decide) rfl) (by decide) rfl cl_L_40 rm_L_K5_move (by show u + 0 + 0 ≤ 600000; omega) (by show v + 0 + 0 ≤ 7302250; omega) rfl (Nat.le_of_ble_eq_true rfl) dL_law_280 (CALL.mono hq (fun r S2 hq2 => ?_))
  obtain ⟨y, rfl, hF2, -, rfl, hL⟩ := hq2
  refine w_same C rfl dL_law_283 (tgt := 654) (by decide) (w_wide (k := u + 3) (n := v + 85) (by show u + 0 + 0 ≤ u + 3; omega) (by show v + 0 + 0 ≤ v + 85; omega) (go S2 t (by omega) hL))
set_option maxHeartbeats 4000000 in
set_option maxRecDepth 100000 in
theorem law_op6 (C : Cx X (KLw nm)) (hX : va_X b N f (xs X) (xs X).heap) (hb : b < (xs X).heap.size) (hz : b < xz X) (hN : N ≤ 2560) (h5 : 5 * c + 5 ≤ N) (hI : LI S t) (ht : t + 1000 ≤ 512000) (hu : u + 3 ≤ 600000) (hv : v + 85 ≤ 7302250) (go : ∀ S' t', t' ≤ t + 1000 → LI S' t' → WLa X (LLw X b (5 * c)) 654 [] S' (u + 3) (v + 85)) : WLa X (LLw X b (5 * c)) 288 [] S u v := by
  have hF := hI.f
  refine w_aloadn C 2 dL_law_288 rfl ?_
  refine w_elt C hX hb hz 3 0 rfl rfl (y := nI 1) (by decide) (vpk (by omega) hN) dL_law_289 dL_law_290 dL_law_291 dL_law_292 dL_law_293 ?_
  refine w_callV C K4_send (av := [vi (f (nI (5 * c) + nI 1).toNatClampNeg)]) [] (hF.k (by decide) rfl) (by decide) rfl cl_L_41 rm_L_K4_send (by show u + 3 ≤ 600000; omega) (by show v + 85 ≤ 7302250; omega) rfl (Nat.le_of_ble_eq_true rfl) dL_law_294 (CALL.mono (p_send hI) (fun r S1 hq => ?_))
  obtain ⟨x, rfl, hF1, -, hq⟩ := hq
  show WLa X (LLw X b (5 * c)) 297 [vi x] S1 (u + 3) (v + 85)
  refine w_aloadn C 1 dL_law_297 rfl ?_
  refine w_elt C hX hb hz 3 0 rfl rfl (y := nI 1) (by decide) (vpk (by omega) hN) dL_law_298 dL_law_299 dL_law_300 dL_law_301 dL_law_302 ?_
  refine w_callV C K5_send (av := [vi (f (nI (5 * c) + nI 1).toNatClampNeg)]) [vi x] (hF1.k (by decide) rfl) (by decide) rfl cl_L_44 rm_L_K5_send (by show u + 3 + 0 ≤ 600000; omega) (by show v + 85 + 0 ≤ 7302250; omega) rfl (Nat.le_of_ble_eq_true rfl) dL_law_303 (CALL.mono hq (fun r S2 hq2 => ?_))
  obtain ⟨y, rfl, hF2, -, rfl, hL⟩ := hq2
  refine w_same C rfl dL_law_306 (tgt := 654) (by decide) (w_wide (k := u + 3) (n := v + 85) (by show u + 3 + 0 ≤ u + 3; omega) (by show v + 85 + 0 ≤ v + 85; omega) (go S2 t (by omega) hL))
set_option maxHeartbeats 4000000 in
set_option maxRecDepth 100000 in
theorem law_op7 (C : Cx X (KLw nm)) (hX : va_X b N f (xs X) (xs X).heap) (hb : b < (xs X).heap.size) (hz : b < xz X) (hN : N ≤ 2560) (h5 : 5 * c + 5 ≤ N) (hI : LI S t) (ht : t + 1000 ≤ 512000) (hu : u + 3 ≤ 600000) (hv : v + 85 ≤ 7302250) (go : ∀ S' t', t' ≤ t + 1000 → LI S' t' → WLa X (LLw X b (5 * c)) 654 [] S' (u + 3) (v + 85)) : WLa X (LLw X b (5 * c)) 311 [] S u v := by
  have hF := hI.f
  refine w_aloadn C 2 dL_law_311 rfl ?_
  refine w_elt C hX hb hz 3 0 rfl rfl (y := nI 1) (by decide) (vpk (by omega) hN) dL_law_312 dL_law_313 dL_law_314 dL_law_315 dL_law_316 ?_
  refine w_callV C K4_come (av := [vi (f (nI (5 * c) + nI 1).toNatClampNeg)]) [] (hF.k (by decide) rfl) (by decide) rfl cl_L_45 rm_L_K4_come (by show u + 0 ≤ 600000; omega) (by show v + 0 ≤ 7302250; omega) rfl (Nat.le_of_ble_eq_true rfl) dL_law_317 (CALL.mono (p_come hI) (fun r S1 hq => ?_))
  obtain ⟨x, rfl, hF1, -, hq⟩ := hq
  show WLa X (LLw X b (5 * c)) 320 [vi x] S1 (u + 0) (v + 0)
  refine w_aloadn C 1 dL_law_320 rfl ?_
  refine w_elt C hX hb hz 3 0 rfl rfl (y := nI 1) (by decide) (vpk (by omega) hN) dL_law_321 dL_law_322 dL_law_323 dL_law_324 dL_law_325 ?_
  refine w_callV C K5_come (av := [vi (f (nI (5 * c) + nI 1).toNatClampNeg)]) [vi x] (hF1.k (by decide) rfl) (by decide) rfl cl_L_48 rm_L_K5_come (by show u + 0 + 0 ≤ 600000; omega) (by show v + 0 + 0 ≤ 7302250; omega) rfl (Nat.le_of_ble_eq_true rfl) dL_law_326 (CALL.mono hq (fun r S2 hq2 => ?_))
  obtain ⟨y, rfl, hF2, -, rfl, hL⟩ := hq2
  refine w_same C rfl dL_law_329 (tgt := 654) (by decide) (w_wide (k := u + 3) (n := v + 85) (by show u + 0 + 0 ≤ u + 3; omega) (by show v + 0 + 0 ≤ v + 85; omega) (go S2 t (by omega) hL))
set_option maxHeartbeats 4000000 in
set_option maxRecDepth 100000 in
theorem law_op8 (C : Cx X (KLw nm)) (hX : va_X b N f (xs X) (xs X).heap) (hb : b < (xs X).heap.size) (hz : b < xz X) (hN : N ≤ 2560) (h5 : 5 * c + 5 ≤ N) (hI : LI S t) (ht : t + 1000 ≤ 512000) (hu : u + 3 ≤ 600000) (hv : v + 85 ≤ 7302250) (go : ∀ S' t', t' ≤ t + 1000 → LI S' t' → WLa X (LLw X b (5 * c)) 654 [] S' (u + 3) (v + 85)) : WLa X (LLw X b (5 * c)) 334 [] S u v := by
  have hF := hI.f
  refine w_aloadn C 2 dL_law_334 rfl ?_
  refine w_elt C hX hb hz 3 0 rfl rfl (y := nI 1) (by decide) (vpk (by omega) hN) dL_law_335 dL_law_336 dL_law_337 dL_law_338 dL_law_339 ?_
  refine w_callV C K4_drop (av := [vi (f (nI (5 * c) + nI 1).toNatClampNeg)]) [] (hF.k (by decide) rfl) (by decide) rfl cl_L_49 rm_L_K4_drop (by show u + 0 ≤ 600000; omega) (by show v + 0 ≤ 7302250; omega) rfl (Nat.le_of_ble_eq_true rfl) dL_law_340 (CALL.mono (p_drop hI) (fun r S1 hq => ?_))
  obtain ⟨x, rfl, hF1, -, hq⟩ := hq
  show WLa X (LLw X b (5 * c)) 343 [vi x] S1 (u + 0) (v + 0)
  refine w_aloadn C 1 dL_law_343 rfl ?_
  refine w_elt C hX hb hz 3 0 rfl rfl (y := nI 1) (by decide) (vpk (by omega) hN) dL_law_344 dL_law_345 dL_law_346 dL_law_347 dL_law_348 ?_
  refine w_callV C K5_drop (av := [vi (f (nI (5 * c) + nI 1).toNatClampNeg)]) [vi x] (hF1.k (by decide) rfl) (by decide) rfl cl_L_52 rm_L_K5_drop (by show u + 0 + 0 ≤ 600000; omega) (by show v + 0 + 0 ≤ 7302250; omega) rfl (Nat.le_of_ble_eq_true rfl) dL_law_349 (CALL.mono hq (fun r S2 hq2 => ?_))
  obtain ⟨y, rfl, hF2, -, rfl, hL⟩ := hq2
  refine w_same C rfl dL_law_352 (tgt := 654) (by decide) (w_wide (k := u + 3) (n := v + 85) (by show u + 0 + 0 ≤ u + 3; omega) (by show v + 0 + 0 ≤ v + 85; omega) (go S2 t (by omega) hL))
set_option maxHeartbeats 4000000 in
set_option maxRecDepth 100000 in
theorem law_op9 (C : Cx X (KLw nm)) (hX : va_X b N f (xs X) (xs X).heap) (hb : b < (xs X).heap.size) (hz : b < xz X) (hN : N ≤ 2560) (h5 : 5 * c + 5 ≤ N) (hI : LI S t) (ht : t + 1000 ≤ 512000) (hu : u + 3 ≤ 600000) (hv : v + 85 ≤ 7302250) (go : ∀ S' t', t' ≤ t + 1000 → LI S' t' → WLa X (LLw X b (5 * c)) 654 [] S' (u + 3) (v + 85)) : WLa X (LLw X b (5 * c)) 357 [] S u v := by
  have hF := hI.f
  refine w_aloadn C 2 dL_law_357 rfl ?_
  refine w_elt C hX hb hz 3 0 rfl rfl (y := nI 1) (by decide) (vpk (by omega) hN) dL_law_358 dL_law_359 dL_law_360 dL_law_361 dL_law_362 ?_
  refine w_callV C K4_twice (av := [vi (f (nI (5 * c) + nI 1).toNatClampNeg)]) [] (hF.k (by decide) rfl) (by decide) rfl cl_L_53 rm_L_K4_twice (by show u + 0 ≤ 600000; omega) (by show v + 0 ≤ 7302250; omega) rfl (Nat.le_of_ble_eq_true rfl) dL_law_363 (CALL.mono (p_twice hI) (fun r S1 hq => ?_))
  obtain ⟨x, rfl, hF1, -, hq⟩ := hq
  show WLa X (LLw X b (5 * c)) 366 [vi x] S1 (u + 0) (v + 0)
  refine w_aloadn C 1 dL_law_366 rfl ?_
  refine w_elt C hX hb hz 3 0 rfl rfl (y := nI 1) (by decide) (vpk (by omega) hN) dL_law_367 dL_law_368 dL_law_369 dL_law_370 dL_law_371 ?_
  refine w_callV C K5_twice (av := [vi (f (nI (5 * c) + nI 1).toNatClampNeg)]) [vi x] (hF1.k (by decide) rfl) (by decide) rfl cl_L_56 rm_L_K5_twice (by show u + 0 + 0 ≤ 600000; omega) (by show v + 0 + 0 ≤ 7302250; omega) rfl (Nat.le_of_ble_eq_true rfl) dL_law_372 (CALL.mono hq (fun r S2 hq2 => ?_))
  obtain ⟨y, rfl, hF2, -, rfl, hL⟩ := hq2
  refine w_same C rfl dL_law_375 (tgt := 654) (by decide) (w_wide (k := u + 3) (n := v + 85) (by show u + 0 + 0 ≤ u + 3; omega) (by show v + 0 + 0 ≤ v + 85; omega) (go S2 t (by omega) hL))
set_option maxHeartbeats 4000000 in
set_option maxRecDepth 100000 in
theorem law_op10 (C : Cx X (KLw nm)) (hX : va_X b N f (xs X) (xs X).heap) (hb : b < (xs X).heap.size) (hz : b < xz X) (hN : N ≤ 2560) (h5 : 5 * c + 5 ≤ N) (hI : LI S t) (ht : t + 1000 ≤ 512000) (hu : u + 3 ≤ 600000) (hv : v + 85 ≤ 7302250) (go : ∀ S' t', t' ≤ t + 1000 → LI S' t' → WLa X (LLw X b (5 * c)) 654 [] S' (u + 3) (v + 85)) : WLa X (LLw X b (5 * c)) 380 [] S u v := by
  have hF := hI.f
  obtain ⟨t', ht', hp⟩ := p_tick (p := f (nI (5 * c) + nI 1).toNatClampNeg) hI ht
  refine w_aloadn C 2 dL_law_380 rfl ?_
  refine w_elt C hX hb hz 3 0 rfl rfl (y := nI 1) (by decide) (vpk (by omega) hN) dL_law_381 dL_law_382 dL_law_383 dL_law_384 dL_law_385 ?_
  refine w_callV C K4_tick (av := [vi (f (nI (5 * c) + nI 1).toNatClampNeg)]) [] (hF.k (by decide) rfl) (by decide) rfl cl_L_57 rm_L_K4_tick (by show u + 0 ≤ 600000; omega) (by show v + 0 ≤ 7302250; omega) rfl (Nat.le_of_ble_eq_true rfl) dL_law_386 (CALL.mono (hp) (fun r S1 hq => ?_))
  obtain ⟨x, rfl, hF1, -, hq⟩ := hq
  show WLa X (LLw X b (5 * c)) 389 [vi x] S1 (u + 0) (v + 0)
  refine w_aloadn C 1 dL_law_389 rfl ?_
  refine w_elt C hX hb hz 3 0 rfl rfl (y := nI 1) (by decide) (vpk (by omega) hN) dL_law_390 dL_law_391 dL_law_392 dL_law_393 dL_law_394 ?_
  refine w_callV C K5_tick (av := [vi (f (nI (5 * c) + nI 1).toNatClampNeg)]) [vi x] (hF1.k (by decide) rfl) (by decide) rfl cl_L_60 rm_L_K5_tick (by show u + 0 + 0 ≤ 600000; omega) (by show v + 0 + 0 ≤ 7302250; omega) rfl (Nat.le_of_ble_eq_true rfl) dL_law_395 (CALL.mono hq (fun r S2 hq2 => ?_))
  obtain ⟨y, rfl, hF2, -, rfl, hL⟩ := hq2
  refine w_same C rfl dL_law_398 (tgt := 654) (by decide) (w_wide (k := u + 3) (n := v + 85) (by show u + 0 + 0 ≤ u + 3; omega) (by show v + 0 + 0 ≤ v + 85; omega) (go S2 t' ht' hL))
set_option maxHeartbeats 4000000 in
set_option maxRecDepth 100000 in
theorem law_op11 (C : Cx X (KLw nm)) (hX : va_X b N f (xs X) (xs X).heap) (hb : b < (xs X).heap.size) (hz : b < xz X) (hN : N ≤ 2560) (h5 : 5 * c + 5 ≤ N) (hI : LI S t) (ht : t + 1000 ≤ 512000) (hu : u + 3 ≤ 600000) (hv : v + 85 ≤ 7302250) (go : ∀ S' t', t' ≤ t + 1000 → LI S' t' → WLa X (LLw X b (5 * c)) 654 [] S' (u + 3) (v + 85)) : WLa X (LLw X b (5 * c)) 403 [] S u v := by
  have hF := hI.f
  refine w_aloadn C 2 dL_law_403 rfl ?_
  refine w_elt C hX hb hz 3 0 rfl rfl (y := nI 1) (by decide) (vpk (by omega) hN) dL_law_404 dL_law_405 dL_law_406 dL_law_407 dL_law_408 ?_
  refine w_elt C hX hb hz 3 0 rfl rfl (y := nI 2) (by decide) (vpk (by omega) hN) dL_law_409 dL_law_410 dL_law_411 dL_law_412 dL_law_413 ?_
  refine w_callV C K4_stream (av := [vi (f (nI (5 * c) + nI 1).toNatClampNeg), vi (f (nI (5 * c) + nI 2).toNatClampNeg)]) [] (hF.k (by decide) rfl) (by decide) rfl cl_L_61 rm_L_K4_stream (by show u + 0 ≤ 600000; omega) (by show v + 0 ≤ 7302250; omega) rfl (Nat.le_of_ble_eq_true rfl) dL_law_414 (CALL.mono (p_stream hI) (fun r S1 hq => ?_))
  obtain ⟨x, rfl, hF1, -, hq⟩ := hq
  show WLa X (LLw X b (5 * c)) 417 [vi x] S1 (u + 0) (v + 0)
  refine w_aloadn C 1 dL_law_417 rfl ?_
  refine w_elt C hX hb hz 3 0 rfl rfl (y := nI 1) (by decide) (vpk (by omega) hN) dL_law_418 dL_law_419 dL_law_420 dL_law_421 dL_law_422 ?_
  refine w_elt C hX hb hz 3 0 rfl rfl (y := nI 2) (by decide) (vpk (by omega) hN) dL_law_423 dL_law_424 dL_law_425 dL_law_426 dL_law_427 ?_
  refine w_callV C K5_stream (av := [vi (f (nI (5 * c) + nI 1).toNatClampNeg), vi (f (nI (5 * c) + nI 2).toNatClampNeg)]) [vi x] (hF1.k (by decide) rfl) (by decide) rfl cl_L_64 rm_L_K5_stream (by show u + 0 + 0 ≤ 600000; omega) (by show v + 0 + 0 ≤ 7302250; omega) rfl (Nat.le_of_ble_eq_true rfl) dL_law_428 (CALL.mono hq (fun r S2 hq2 => ?_))
  obtain ⟨y, rfl, hF2, -, rfl, hL⟩ := hq2
  refine w_same C rfl dL_law_431 (tgt := 654) (by decide) (w_wide (k := u + 3) (n := v + 85) (by show u + 0 + 0 ≤ u + 3; omega) (by show v + 0 + 0 ≤ v + 85; omega) (go S2 t (by omega) hL))
set_option maxHeartbeats 4000000 in
set_option maxRecDepth 100000 in
theorem law_op12 (C : Cx X (KLw nm)) (hX : va_X b N f (xs X) (xs X).heap) (hb : b < (xs X).heap.size) (hz : b < xz X) (hN : N ≤ 2560) (h5 : 5 * c + 5 ≤ N) (hI : LI S t) (ht : t + 1000 ≤ 512000) (hu : u + 3 ≤ 600000) (hv : v + 85 ≤ 7302250) (go : ∀ S' t', t' ≤ t + 1000 → LI S' t' → WLa X (LLw X b (5 * c)) 654 [] S' (u + 3) (v + 85)) : WLa X (LLw X b (5 * c)) 436 [] S u v := by
  have hF := hI.f
  refine w_aloadn C 2 dL_law_436 rfl ?_
  refine w_elt C hX hb hz 3 0 rfl rfl (y := nI 1) (by decide) (vpk (by omega) hN) dL_law_437 dL_law_438 dL_law_439 dL_law_440 dL_law_441 ?_
  refine w_elt C hX hb hz 3 0 rfl rfl (y := nI 2) (by decide) (vpk (by omega) hN) dL_law_442 dL_law_443 dL_law_444 dL_law_445 dL_law_446 ?_
  refine w_callV C K4_state (av := [vi (f (nI (5 * c) + nI 1).toNatClampNeg), vi (f (nI (5 * c) + nI 2).toNatClampNeg)]) [] (hF.k (by decide) rfl) (by decide) rfl cl_L_65 rm_L_K4_state (by show u + 0 ≤ 600000; omega) (by show v + 0 ≤ 7302250; omega) rfl (Nat.le_of_ble_eq_true rfl) dL_law_447 (CALL.mono (p_state hI) (fun r S1 hq => ?_))
  obtain ⟨x, rfl, hF1, -, hq⟩ := hq
  show WLa X (LLw X b (5 * c)) 450 [vi x] S1 (u + 0) (v + 0)
  refine w_aloadn C 1 dL_law_450 rfl ?_
  refine w_elt C hX hb hz 3 0 rfl rfl (y := nI 1) (by decide) (vpk (by omega) hN) dL_law_451 dL_law_452 dL_law_453 dL_law_454 dL_law_455 ?_
  refine w_elt C hX hb hz 3 0 rfl rfl (y := nI 2) (by decide) (vpk (by omega) hN) dL_law_456 dL_law_457 dL_law_458 dL_law_459 dL_law_460 ?_
  refine w_callV C K5_state (av := [vi (f (nI (5 * c) + nI 1).toNatClampNeg), vi (f (nI (5 * c) + nI 2).toNatClampNeg)]) [vi x] (hF1.k (by decide) rfl) (by decide) rfl cl_L_68 rm_L_K5_state (by show u + 0 + 0 ≤ 600000; omega) (by show v + 0 + 0 ≤ 7302250; omega) rfl (Nat.le_of_ble_eq_true rfl) dL_law_461 (CALL.mono hq (fun r S2 hq2 => ?_))
  obtain ⟨y, rfl, hF2, -, rfl, hL⟩ := hq2
  refine w_same C rfl dL_law_464 (tgt := 654) (by decide) (w_wide (k := u + 3) (n := v + 85) (by show u + 0 + 0 ≤ u + 3; omega) (by show v + 0 + 0 ≤ v + 85; omega) (go S2 t (by omega) hL))
set_option maxHeartbeats 4000000 in
set_option maxRecDepth 100000 in
theorem law_op13 (C : Cx X (KLw nm)) (hX : va_X b N f (xs X) (xs X).heap) (hb : b < (xs X).heap.size) (hz : b < xz X) (hN : N ≤ 2560) (h5 : 5 * c + 5 ≤ N) (hI : LI S t) (ht : t + 1000 ≤ 512000) (hu : u + 3 ≤ 600000) (hv : v + 85 ≤ 7302250) (go : ∀ S' t', t' ≤ t + 1000 → LI S' t' → WLa X (LLw X b (5 * c)) 654 [] S' (u + 3) (v + 85)) : WLa X (LLw X b (5 * c)) 469 [] S u v := by
  have hF := hI.f
  refine w_aloadn C 2 dL_law_469 rfl ?_
  refine w_elt C hX hb hz 3 0 rfl rfl (y := nI 1) (by decide) (vpk (by omega) hN) dL_law_470 dL_law_471 dL_law_472 dL_law_473 dL_law_474 ?_
  refine w_elt C hX hb hz 3 0 rfl rfl (y := nI 2) (by decide) (vpk (by omega) hN) dL_law_475 dL_law_476 dL_law_477 dL_law_478 dL_law_479 ?_
  refine w_callV C K4_side (av := [vi (f (nI (5 * c) + nI 1).toNatClampNeg), vi (f (nI (5 * c) + nI 2).toNatClampNeg)]) [] (hF.k (by decide) rfl) (by decide) rfl cl_L_69 rm_L_K4_side (by show u + 0 ≤ 600000; omega) (by show v + 0 ≤ 7302250; omega) rfl (Nat.le_of_ble_eq_true rfl) dL_law_480 (CALL.mono (p_side hI) (fun r S1 hq => ?_))
  obtain ⟨x, rfl, hF1, -, hq⟩ := hq
  show WLa X (LLw X b (5 * c)) 483 [vi x] S1 (u + 0) (v + 0)
  refine w_aloadn C 1 dL_law_483 rfl ?_
  refine w_elt C hX hb hz 3 0 rfl rfl (y := nI 1) (by decide) (vpk (by omega) hN) dL_law_484 dL_law_485 dL_law_486 dL_law_487 dL_law_488 ?_
  refine w_elt C hX hb hz 3 0 rfl rfl (y := nI 2) (by decide) (vpk (by omega) hN) dL_law_489 dL_law_490 dL_law_491 dL_law_492 dL_law_493 ?_
  refine w_callV C K5_side (av := [vi (f (nI (5 * c) + nI 1).toNatClampNeg), vi (f (nI (5 * c) + nI 2).toNatClampNeg)]) [vi x] (hF1.k (by decide) rfl) (by decide) rfl cl_L_72 rm_L_K5_side (by show u + 0 + 0 ≤ 600000; omega) (by show v + 0 + 0 ≤ 7302250; omega) rfl (Nat.le_of_ble_eq_true rfl) dL_law_494 (CALL.mono hq (fun r S2 hq2 => ?_))
  obtain ⟨y, rfl, hF2, -, rfl, hL⟩ := hq2
  refine w_same C rfl dL_law_497 (tgt := 654) (by decide) (w_wide (k := u + 3) (n := v + 85) (by show u + 0 + 0 ≤ u + 3; omega) (by show v + 0 + 0 ≤ v + 85; omega) (go S2 t (by omega) hL))
set_option maxHeartbeats 4000000 in
set_option maxRecDepth 100000 in
theorem law_op14 (C : Cx X (KLw nm)) (hX : va_X b N f (xs X) (xs X).heap) (hb : b < (xs X).heap.size) (hz : b < xz X) (hN : N ≤ 2560) (h5 : 5 * c + 5 ≤ N) (hI : LI S t) (ht : t + 1000 ≤ 512000) (hu : u + 3 ≤ 600000) (hv : v + 85 ≤ 7302250) (go : ∀ S' t', t' ≤ t + 1000 → LI S' t' → WLa X (LLw X b (5 * c)) 654 [] S' (u + 3) (v + 85)) : WLa X (LLw X b (5 * c)) 502 [] S u v := by
  have hF := hI.f
  refine w_aloadn C 2 dL_law_502 rfl ?_
  refine w_elt C hX hb hz 3 0 rfl rfl (y := nI 1) (by decide) (vpk (by omega) hN) dL_law_503 dL_law_504 dL_law_505 dL_law_506 dL_law_507 ?_
  refine w_elt C hX hb hz 3 0 rfl rfl (y := nI 2) (by decide) (vpk (by omega) hN) dL_law_508 dL_law_509 dL_law_510 dL_law_511 dL_law_512 ?_
  refine w_elt C hX hb hz 3 0 rfl rfl (y := nI 3) (by decide) (vpk (by omega) hN) dL_law_513 dL_law_514 dL_law_515 dL_law_516 dL_law_517 ?_
  refine w_callV C K4_packet (av := [vi (f (nI (5 * c) + nI 1).toNatClampNeg), vi (f (nI (5 * c) + nI 2).toNatClampNeg), vi (f (nI (5 * c) + nI 3).toNatClampNeg)]) [] (hF.k (by decide) rfl) (by decide) rfl cl_L_73 rm_L_K4_packet (by show u + 0 ≤ 600000; omega) (by show v + 0 ≤ 7302250; omega) rfl (Nat.le_of_ble_eq_true rfl) dL_law_518 (CALL.mono (p_packet hI) (fun r S1 hq => ?_))
  obtain ⟨x, rfl, hF1, -, hq⟩ := hq
  show WLa X (LLw X b (5 * c)) 521 [vi x] S1 (u + 0) (v + 0)
  refine w_aloadn C 1 dL_law_521 rfl ?_
  refine w_elt C hX hb hz 3 0 rfl rfl (y := nI 1) (by decide) (vpk (by omega) hN) dL_law_522 dL_law_523 dL_law_524 dL_law_525 dL_law_526 ?_
  refine w_elt C hX hb hz 3 0 rfl rfl (y := nI 2) (by decide) (vpk (by omega) hN) dL_law_527 dL_law_528 dL_law_529 dL_law_530 dL_law_531 ?_
  refine w_elt C hX hb hz 3 0 rfl rfl (y := nI 3) (by decide) (vpk (by omega) hN) dL_law_532 dL_law_533 dL_law_534 dL_law_535 dL_law_536 ?_
  refine w_callV C K5_packet (av := [vi (f (nI (5 * c) + nI 1).toNatClampNeg), vi (f (nI (5 * c) + nI 2).toNatClampNeg), vi (f (nI (5 * c) + nI 3).toNatClampNeg)]) [vi x] (hF1.k (by decide) rfl) (by decide) rfl cl_L_76 rm_L_K5_packet (by show u + 0 + 0 ≤ 600000; omega) (by show v + 0 + 0 ≤ 7302250; omega) rfl (Nat.le_of_ble_eq_true rfl) dL_law_537 (CALL.mono hq (fun r S2 hq2 => ?_))
  obtain ⟨y, rfl, hF2, -, rfl, hL⟩ := hq2
  refine w_same C rfl dL_law_540 (tgt := 654) (by decide) (w_wide (k := u + 3) (n := v + 85) (by show u + 0 + 0 ≤ u + 3; omega) (by show v + 0 + 0 ≤ v + 85; omega) (go S2 t (by omega) hL))
set_option maxHeartbeats 4000000 in
set_option maxRecDepth 100000 in
theorem law_op15 (C : Cx X (KLw nm)) (hX : va_X b N f (xs X) (xs X).heap) (hb : b < (xs X).heap.size) (hz : b < xz X) (hN : N ≤ 2560) (h5 : 5 * c + 5 ≤ N) (hI : LI S t) (ht : t + 1000 ≤ 512000) (hu : u + 3 ≤ 600000) (hv : v + 85 ≤ 7302250) (go : ∀ S' t', t' ≤ t + 1000 → LI S' t' → WLa X (LLw X b (5 * c)) 654 [] S' (u + 3) (v + 85)) : WLa X (LLw X b (5 * c)) 545 [] S u v := by
  have hF := hI.f
  refine w_aloadn C 2 dL_law_545 rfl ?_
  refine w_elt C hX hb hz 3 0 rfl rfl (y := nI 1) (by decide) (vpk (by omega) hN) dL_law_546 dL_law_547 dL_law_548 dL_law_549 dL_law_550 ?_
  refine w_elt C hX hb hz 3 0 rfl rfl (y := nI 2) (by decide) (vpk (by omega) hN) dL_law_551 dL_law_552 dL_law_553 dL_law_554 dL_law_555 ?_
  refine w_elt C hX hb hz 3 0 rfl rfl (y := nI 3) (by decide) (vpk (by omega) hN) dL_law_556 dL_law_557 dL_law_558 dL_law_559 dL_law_560 ?_
  refine w_elt C hX hb hz 3 0 rfl rfl (y := nI 4) (by decide) (vpk (by omega) hN) dL_law_561 dL_law_562 dL_law_563 dL_law_564 dL_law_565 ?_
  refine w_callV C K4_part (av := [vi (f (nI (5 * c) + nI 1).toNatClampNeg), vi (f (nI (5 * c) + nI 2).toNatClampNeg), vi (f (nI (5 * c) + nI 3).toNatClampNeg), vi (f (nI (5 * c) + nI 4).toNatClampNeg)]) [] (hF.k (by decide) rfl) (by decide) rfl cl_L_77 rm_L_K4_part (by show u + 0 ≤ 600000; omega) (by show v + 0 ≤ 7302250; omega) rfl (Nat.le_of_ble_eq_true rfl) dL_law_566 (CALL.mono (p_part hI) (fun r S1 hq => ?_))
  obtain ⟨x, rfl, hF1, -, hq⟩ := hq
  show WLa X (LLw X b (5 * c)) 569 [vi x] S1 (u + 0) (v + 0)
  refine w_aloadn C 1 dL_law_569 rfl ?_
  refine w_elt C hX hb hz 3 0 rfl rfl (y := nI 1) (by decide) (vpk (by omega) hN) dL_law_570 dL_law_571 dL_law_572 dL_law_573 dL_law_574 ?_
  refine w_elt C hX hb hz 3 0 rfl rfl (y := nI 2) (by decide) (vpk (by omega) hN) dL_law_575 dL_law_576 dL_law_577 dL_law_578 dL_law_579 ?_
  refine w_elt C hX hb hz 3 0 rfl rfl (y := nI 3) (by decide) (vpk (by omega) hN) dL_law_580 dL_law_581 dL_law_582 dL_law_583 dL_law_584 ?_
  refine w_elt C hX hb hz 3 0 rfl rfl (y := nI 4) (by decide) (vpk (by omega) hN) dL_law_585 dL_law_586 dL_law_587 dL_law_588 dL_law_589 ?_
  refine w_callV C K5_part (av := [vi (f (nI (5 * c) + nI 1).toNatClampNeg), vi (f (nI (5 * c) + nI 2).toNatClampNeg), vi (f (nI (5 * c) + nI 3).toNatClampNeg), vi (f (nI (5 * c) + nI 4).toNatClampNeg)]) [vi x] (hF1.k (by decide) rfl) (by decide) rfl cl_L_81 rm_L_K5_part (by show u + 0 + 0 ≤ 600000; omega) (by show v + 0 + 0 ≤ 7302250; omega) rfl (Nat.le_of_ble_eq_true rfl) dL_law_590 (CALL.mono hq (fun r S2 hq2 => ?_))
  obtain ⟨y, rfl, hF2, -, rfl, hL⟩ := hq2
  refine w_same C rfl dL_law_593 (tgt := 654) (by decide) (w_wide (k := u + 3) (n := v + 85) (by show u + 0 + 0 ≤ u + 3; omega) (by show v + 0 + 0 ≤ v + 85; omega) (go S2 t (by omega) hL))
set_option maxHeartbeats 4000000 in
set_option maxRecDepth 100000 in
theorem law_op16 (C : Cx X (KLw nm)) (hX : va_X b N f (xs X) (xs X).heap) (hb : b < (xs X).heap.size) (hz : b < xz X) (hN : N ≤ 2560) (h5 : 5 * c + 5 ≤ N) (hI : LI S t) (ht : t + 1000 ≤ 512000) (hu : u + 3 ≤ 600000) (hv : v + 85 ≤ 7302250) (go : ∀ S' t', t' ≤ t + 1000 → LI S' t' → WLa X (LLw X b (5 * c)) 654 [] S' (u + 3) (v + 85)) : WLa X (LLw X b (5 * c)) 598 [] S u v := by
  have hF := hI.f
  refine w_aloadn C 2 dL_law_598 rfl ?_
  refine w_elt C hX hb hz 3 0 rfl rfl (y := nI 1) (by decide) (vpk (by omega) hN) dL_law_599 dL_law_600 dL_law_601 dL_law_602 dL_law_603 ?_
  refine w_elt C hX hb hz 3 0 rfl rfl (y := nI 2) (by decide) (vpk (by omega) hN) dL_law_604 dL_law_605 dL_law_606 dL_law_607 dL_law_608 ?_
  refine w_callV C K4_net (av := [vi (f (nI (5 * c) + nI 1).toNatClampNeg), vi (f (nI (5 * c) + nI 2).toNatClampNeg)]) [] (hF.k (by decide) rfl) (by decide) rfl cl_L_82 rm_L_K4_net (by show u + 0 ≤ 600000; omega) (by show v + 0 ≤ 7302250; omega) rfl (Nat.le_of_ble_eq_true rfl) dL_law_609 (CALL.mono (p_net hI) (fun r S1 hq => ?_))
  obtain ⟨x, rfl, hF1, -, hq⟩ := hq
  show WLa X (LLw X b (5 * c)) 612 [vi x] S1 (u + 0) (v + 0)
  refine w_aloadn C 1 dL_law_612 rfl ?_
  refine w_elt C hX hb hz 3 0 rfl rfl (y := nI 1) (by decide) (vpk (by omega) hN) dL_law_613 dL_law_614 dL_law_615 dL_law_616 dL_law_617 ?_
  refine w_elt C hX hb hz 3 0 rfl rfl (y := nI 2) (by decide) (vpk (by omega) hN) dL_law_618 dL_law_619 dL_law_620 dL_law_621 dL_law_622 ?_
  refine w_callV C K5_net (av := [vi (f (nI (5 * c) + nI 1).toNatClampNeg), vi (f (nI (5 * c) + nI 2).toNatClampNeg)]) [vi x] (hF1.k (by decide) rfl) (by decide) rfl cl_L_85 rm_L_K5_net (by show u + 0 + 0 ≤ 600000; omega) (by show v + 0 + 0 ≤ 7302250; omega) rfl (Nat.le_of_ble_eq_true rfl) dL_law_623 (CALL.mono hq (fun r S2 hq2 => ?_))
  obtain ⟨y, rfl, hF2, -, rfl, hL⟩ := hq2
  refine w_same C rfl dL_law_626 (tgt := 654) (by decide) (w_wide (k := u + 3) (n := v + 85) (by show u + 0 + 0 ≤ u + 3; omega) (by show v + 0 + 0 ≤ v + 85; omega) (go S2 t (by omega) hL))
set_option maxHeartbeats 4000000 in
set_option maxRecDepth 100000 in
theorem law_op17 (C : Cx X (KLw nm)) (hX : va_X b N f (xs X) (xs X).heap) (hb : b < (xs X).heap.size) (hz : b < xz X) (hN : N ≤ 2560) (h5 : 5 * c + 5 ≤ N) (hI : LI S t) (ht : t + 1000 ≤ 512000) (hu : u + 3 ≤ 600000) (hv : v + 85 ≤ 7302250) (go : ∀ S' t', t' ≤ t + 1000 → LI S' t' → WLa X (LLw X b (5 * c)) 654 [] S' (u + 3) (v + 85)) : WLa X (LLw X b (5 * c)) 631 [] S u v := by
  have hF := hI.f
  refine w_aloadn C 2 dL_law_631 rfl ?_
  refine w_elt C hX hb hz 3 0 rfl rfl (y := nI 1) (by decide) (vpk (by omega) hN) dL_law_632 dL_law_633 dL_law_634 dL_law_635 dL_law_636 ?_
  refine w_callV C K4_told (av := [vi (f (nI (5 * c) + nI 1).toNatClampNeg)]) [] (hF.k (by decide) rfl) (by decide) rfl cl_L_86 rm_L_K4_told (by show u + 0 ≤ 600000; omega) (by show v + 0 ≤ 7302250; omega) rfl (Nat.le_of_ble_eq_true rfl) dL_law_637 (CALL.mono (p_told hI) (fun r S1 hq => ?_))
  obtain ⟨x, rfl, hF1, -, hq⟩ := hq
  show WLa X (LLw X b (5 * c)) 640 [vi x] S1 (u + 0) (v + 0)
  refine w_aloadn C 1 dL_law_640 rfl ?_
  refine w_elt C hX hb hz 3 0 rfl rfl (y := nI 1) (by decide) (vpk (by omega) hN) dL_law_641 dL_law_642 dL_law_643 dL_law_644 dL_law_645 ?_
  refine w_callV C K5_told (av := [vi (f (nI (5 * c) + nI 1).toNatClampNeg)]) [vi x] (hF1.k (by decide) rfl) (by decide) rfl cl_L_89 rm_L_K5_told (by show u + 0 + 0 ≤ 600000; omega) (by show v + 0 + 0 ≤ 7302250; omega) rfl (Nat.le_of_ble_eq_true rfl) dL_law_646 (CALL.mono hq (fun r S2 hq2 => ?_))
  obtain ⟨y, rfl, hF2, -, rfl, hL⟩ := hq2
  refine w_same C rfl dL_law_649 (tgt := 654) (by decide) (w_wide (k := u + 3) (n := v + 85) (by show u + 0 + 0 ≤ u + 3; omega) (by show v + 0 + 0 ≤ v + 85; omega) (go S2 t (by omega) hL))
end LAWWALK
