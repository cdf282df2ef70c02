theorem tyS5 : ∀ k, k < NC 5 → (∃ n, tyC 5 k = .object n) ∨ (∃ t, tyC 5 k = .array t) ∨ tyC 5 k = .int ∨ tyC 5 k = .boolean ∨ tyC 5 k = .byte
  | 0, _ => by first | exact Or.inr (Or.inr (Or.inl rfl)) | exact Or.inr (Or.inl ⟨_, rfl⟩) | exact Or.inr (Or.inr (Or.inr (Or.inl rfl)))
  | 1, _ => by first | exact Or.inr (Or.inr (Or.inl rfl)) | exact Or.inr (Or.inl ⟨_, rfl⟩) | exact Or.inr (Or.inr (Or.inr (Or.inl rfl)))
  | 2, _ => by first | exact Or.inr (Or.inr (Or.inl rfl)) | exact Or.inr (Or.inl ⟨_, rfl⟩) | exact Or.inr (Or.inr (Or.inr (Or.inl rfl)))
  | 3, _ => by first | exact Or.inr (Or.inr (Or.inl rfl)) | exact Or.inr (Or.inl ⟨_, rfl⟩) | exact Or.inr (Or.inr (Or.inr (Or.inl rfl)))
  | 4, _ => by first | exact Or.inr (Or.inr (Or.inl rfl)) | exact Or.inr (Or.inl ⟨_, rfl⟩) | exact Or.inr (Or.inr (Or.inr (Or.inl rfl)))
  | 5, _ => by first | exact Or.inr (Or.inr (Or.inl rfl)) | exact Or.inr (Or.inl ⟨_, rfl⟩) | exact Or.inr (Or.inr (Or.inr (Or.inl rfl)))
  | 6, _ => by first | exact Or.inr (Or.inr (Or.inl rfl)) | exact Or.inr (Or.inl ⟨_, rfl⟩) | exact Or.inr (Or.inr (Or.inr (Or.inl rfl)))
  | 7, _ => by first | exact Or.inr (Or.inr (Or.inl rfl)) | exact Or.inr (Or.inl ⟨_, rfl⟩) | exact Or.inr (Or.inr (Or.inr (Or.inl rfl)))
  | 8, _ => by first | exact Or.inr (Or.inr (Or.inl rfl)) | exact Or.inr (Or.inl ⟨_, rfl⟩) | exact Or.inr (Or.inr (Or.inr (Or.inl rfl)))
  | 9, _ => by first | exact Or.inr (Or.inr (Or.inl rfl)) | exact Or.inr (Or.inl ⟨_, rfl⟩) | exact Or.inr (Or.inr (Or.inr (Or.inl rfl)))
  | 10, _ => by first | exact Or.inr (Or.inr (Or.inl rfl)) | exact Or.inr (Or.inl ⟨_, rfl⟩) | exact Or.inr (Or.inr (Or.inr (Or.inl rfl)))
  | 11, _ => by first | exact Or.inr (Or.inr (Or.inl rfl)) | exact Or.inr (Or.inl ⟨_, rfl⟩) | exact Or.inr (Or.inr (Or.inr (Or.inl rfl)))
  | 12, _ => by first | exact Or.inr (Or.inr (Or.inl rfl)) | exact Or.inr (Or.inl ⟨_, rfl⟩) | exact Or.inr (Or.inr (Or.inr (Or.inl rfl)))
  | 13, _ => by first | exact Or.inr (Or.inr (Or.inl rfl)) | exact Or.inr (Or.inl ⟨_, rfl⟩) | exact Or.inr (Or.inr (Or.inr (Or.inl rfl)))
  | 14, _ => by first | exact Or.inr (Or.inr (Or.inl rfl)) | exact Or.inr (Or.inl ⟨_, rfl⟩) | exact Or.inr (Or.inr (Or.inr (Or.inl rfl)))
  | 15, _ => by first | exact Or.inr (Or.inr (Or.inl rfl)) | exact Or.inr (Or.inl ⟨_, rfl⟩) | exact Or.inr (Or.inr (Or.inr (Or.inl rfl)))
  | 16, _ => by first | exact Or.inr (Or.inr (Or.inl rfl)) | exact Or.inr (Or.inl ⟨_, rfl⟩) | exact Or.inr (Or.inr (Or.inr (Or.inl rfl)))
  | 17, _ => by first | exact Or.inr (Or.inr (Or.inl rfl)) | exact Or.inr (Or.inl ⟨_, rfl⟩) | exact Or.inr (Or.inr (Or.inr (Or.inl rfl)))
  | 18, _ => by first | exact Or.inr (Or.inr (Or.inl rfl)) | exact Or.inr (Or.inl ⟨_, rfl⟩) | exact Or.inr (Or.inr (Or.inr (Or.inl rfl)))
  | 19, _ => by first | exact Or.inr (Or.inr (Or.inl rfl)) | exact Or.inr (Or.inl ⟨_, rfl⟩) | exact Or.inr (Or.inr (Or.inr (Or.inl rfl)))
  | 20, _ => by first | exact Or.inr (Or.inr (Or.inl rfl)) | exact Or.inr (Or.inl ⟨_, rfl⟩) | exact Or.inr (Or.inr (Or.inr (Or.inl rfl)))
  | 21, _ => by first | exact Or.inr (Or.inr (Or.inl rfl)) | exact Or.inr (Or.inl ⟨_, rfl⟩) | exact Or.inr (Or.inr (Or.inr (Or.inl rfl)))
  | 22, _ => by first | exact Or.inr (Or.inr (Or.inl rfl)) | exact Or.inr (Or.inl ⟨_, rfl⟩) | exact Or.inr (Or.inr (Or.inr (Or.inl rfl)))
  | 23, _ => by first | exact Or.inr (Or.inr (Or.inl rfl)) | exact Or.inr (Or.inl ⟨_, rfl⟩) | exact Or.inr (Or.inr (Or.inr (Or.inl rfl)))
  | 24, _ => by first | exact Or.inr (Or.inr (Or.inl rfl)) | exact Or.inr (Or.inl ⟨_, rfl⟩) | exact Or.inr (Or.inr (Or.inr (Or.inl rfl)))
  | 25, _ => by first | exact Or.inr (Or.inr (Or.inl rfl)) | exact Or.inr (Or.inl ⟨_, rfl⟩) | exact Or.inr (Or.inr (Or.inr (Or.inl rfl)))
  | 26, _ => by first | exact Or.inr (Or.inr (Or.inl rfl)) | exact Or.inr (Or.inl ⟨_, rfl⟩) | exact Or.inr (Or.inr (Or.inr (Or.inl rfl)))
  | 27, _ => by first | exact Or.inr (Or.inr (Or.inl rfl)) | exact Or.inr (Or.inl ⟨_, rfl⟩) | exact Or.inr (Or.inr (Or.inr (Or.inl rfl)))
  | 28, _ => by first | exact Or.inr (Or.inr (Or.inl rfl)) | exact Or.inr (Or.inl ⟨_, rfl⟩) | exact Or.inr (Or.inr (Or.inr (Or.inl rfl)))
  | 29, _ => by first | exact Or.inr (Or.inr (Or.inl rfl)) | exact Or.inr (Or.inl ⟨_, rfl⟩) | exact Or.inr (Or.inr (Or.inr (Or.inl rfl)))
  | 30, _ => by first | exact Or.inr (Or.inr (Or.inl rfl)) | exact Or.inr (Or.inl ⟨_, rfl⟩) | exact Or.inr (Or.inr (Or.inr (Or.inl rfl)))
  | 31, _ => by first | exact Or.inr (Or.inr (Or.inl rfl)) | exact Or.inr (Or.inl ⟨_, rfl⟩) | exact Or.inr (Or.inr (Or.inr (Or.inl rfl)))
  | 32, _ => by first | exact Or.inr (Or.inr (Or.inl rfl)) | exact Or.inr (Or.inl ⟨_, rfl⟩) | exact Or.inr (Or.inr (Or.inr (Or.inl rfl)))
  | 33, _ => by first | exact Or.inr (Or.inr (Or.inl rfl)) | exact Or.inr (Or.inl ⟨_, rfl⟩) | exact Or.inr (Or.inr (Or.inr (Or.inl rfl)))
  | 34, _ => by first | exact Or.inr (Or.inr (Or.inl rfl)) | exact Or.inr (Or.inl ⟨_, rfl⟩) | exact Or.inr (Or.inr (Or.inr (Or.inl rfl)))
  | 35, _ => by first | exact Or.inr (Or.inr (Or.inl rfl)) | exact Or.inr (Or.inl ⟨_, rfl⟩) | exact Or.inr (Or.inr (Or.inr (Or.inl rfl)))
  | 36, _ => by first | exact Or.inr (Or.inr (Or.inl rfl)) | exact Or.inr (Or.inl ⟨_, rfl⟩) | exact Or.inr (Or.inr (Or.inr (Or.inl rfl)))
  | 37, _ => by first | exact Or.inr (Or.inr (Or.inl rfl)) | exact Or.inr (Or.inl ⟨_, rfl⟩) | exact Or.inr (Or.inr (Or.inr (Or.inl rfl)))
  | 38, _ => by first | exact Or.inr (Or.inr (Or.inl rfl)) | exact Or.inr (Or.inl ⟨_, rfl⟩) | exact Or.inr (Or.inr (Or.inr (Or.inl rfl)))
  | 39, _ => by first | exact Or.inr (Or.inr (Or.inl rfl)) | exact Or.inr (Or.inl ⟨_, rfl⟩) | exact Or.inr (Or.inr (Or.inr (Or.inl rfl)))
  | 40, _ => by first | exact Or.inr (Or.inr (Or.inl rfl)) | exact Or.inr (Or.inl ⟨_, rfl⟩) | exact Or.inr (Or.inr (Or.inr (Or.inl rfl)))
  | 41, _ => by first | exact Or.inr (Or.inr (Or.inl rfl)) | exact Or.inr (Or.inl ⟨_, rfl⟩) | exact Or.inr (Or.inr (Or.inr (Or.inl rfl)))
  | 42, _ => by first | exact Or.inr (Or.inr (Or.inl rfl)) | exact Or.inr (Or.inl ⟨_, rfl⟩) | exact Or.inr (Or.inr (Or.inr (Or.inl rfl)))
  | 43, _ => by first | exact Or.inr (Or.inr (Or.inl rfl)) | exact Or.inr (Or.inl ⟨_, rfl⟩) | exact Or.inr (Or.inr (Or.inr (Or.inl rfl)))
  | 44, _ => by first | exact Or.inr (Or.inr (Or.inl rfl)) | exact Or.inr (Or.inl ⟨_, rfl⟩) | exact Or.inr (Or.inr (Or.inr (Or.inl rfl)))
  | 45, _ => by first | exact Or.inr (Or.inr (Or.inl rfl)) | exact Or.inr (Or.inl ⟨_, rfl⟩) | exact Or.inr (Or.inr (Or.inr (Or.inl rfl)))
  | 46, _ => by first | exact Or.inr (Or.inr (Or.inl rfl)) | exact Or.inr (Or.inl ⟨_, rfl⟩) | exact Or.inr (Or.inr (Or.inr (Or.inl rfl)))
  | 47, _ => by first | exact Or.inr (Or.inr (Or.inl rfl)) | exact Or.inr (Or.inl ⟨_, rfl⟩) | exact Or.inr (Or.inr (Or.inr (Or.inl rfl)))
  | 48, _ => by first | exact Or.inr (Or.inr (Or.inl rfl)) | exact Or.inr (Or.inl ⟨_, rfl⟩) | exact Or.inr (Or.inr (Or.inr (Or.inl rfl)))
  | 49, _ => by first | exact Or.inr (Or.inr (Or.inl rfl)) | exact Or.inr (Or.inl ⟨_, rfl⟩) | exact Or.inr (Or.inr (Or.inr (Or.inl rfl)))
  | 50, _ => by first | exact Or.inr (Or.inr (Or.inl rfl)) | exact Or.inr (Or.inl ⟨_, rfl⟩) | exact Or.inr (Or.inr (Or.inr (Or.inl rfl)))
  | 51, _ => by first | exact Or.inr (Or.inr (Or.inl rfl)) | exact Or.inr (Or.inl ⟨_, rfl⟩) | exact Or.inr (Or.inr (Or.inr (Or.inl rfl)))
  | 52, _ => by first | exact Or.inr (Or.inr (Or.inl rfl)) | exact Or.inr (Or.inl ⟨_, rfl⟩) | exact Or.inr (Or.inr (Or.inr (Or.inl rfl)))
  | 53, _ => by first | exact Or.inr (Or.inr (Or.inl rfl)) | exact Or.inr (Or.inl ⟨_, rfl⟩) | exact Or.inr (Or.inr (Or.inr (Or.inl rfl)))
  | 54, _ => by first | exact Or.inr (Or.inr (Or.inl rfl)) | exact Or.inr (Or.inl ⟨_, rfl⟩) | exact Or.inr (Or.inr (Or.inr (Or.inl rfl)))
  | 55, _ => by first | exact Or.inr (Or.inr (Or.inl rfl)) | exact Or.inr (Or.inl ⟨_, rfl⟩) | exact Or.inr (Or.inr (Or.inr (Or.inl rfl)))
  | 56, _ => by first | exact Or.inr (Or.inr (Or.inl rfl)) | exact Or.inr (Or.inl ⟨_, rfl⟩) | exact Or.inr (Or.inr (Or.inr (Or.inl rfl)))
  | 57, _ => by first | exact Or.inr (Or.inr (Or.inl rfl)) | exact Or.inr (Or.inl ⟨_, rfl⟩) | exact Or.inr (Or.inr (Or.inr (Or.inl rfl)))
  | 58, _ => by first | exact Or.inr (Or.inr (Or.inl rfl)) | exact Or.inr (Or.inl ⟨_, rfl⟩) | exact Or.inr (Or.inr (Or.inr (Or.inl rfl)))
  | 59, _ => by first | exact Or.inr (Or.inr (Or.inl rfl)) | exact Or.inr (Or.inl ⟨_, rfl⟩) | exact Or.inr (Or.inr (Or.inr (Or.inl rfl)))
  | 60, _ => by first | exact Or.inr (Or.inr (Or.inl rfl)) | exact Or.inr (Or.inl ⟨_, rfl⟩) | exact Or.inr (Or.inr (Or.inr (Or.inl rfl)))
  | 61, _ => by first | exact Or.inr (Or.inr (Or.inl rfl)) | exact Or.inr (Or.inl ⟨_, rfl⟩) | exact Or.inr (Or.inr (Or.inr (Or.inl rfl)))
  | 62, _ => by first | exact Or.inr (Or.inr (Or.inl rfl)) | exact Or.inr (Or.inl ⟨_, rfl⟩) | exact Or.inr (Or.inr (Or.inr (Or.inl rfl)))
  | 63, _ => by first | exact Or.inr (Or.inr (Or.inl rfl)) | exact Or.inr (Or.inl ⟨_, rfl⟩) | exact Or.inr (Or.inr (Or.inr (Or.inl rfl)))
  | 64, _ => by first | exact Or.inr (Or.inr (Or.inl rfl)) | exact Or.inr (Or.inl ⟨_, rfl⟩) | exact Or.inr (Or.inr (Or.inr (Or.inl rfl)))
  | n + 65, h => absurd h (Nat.not_lt.mpr (Nat.le_add_left 65 n))
theorem new4L : New RL 7 4 := ⟨by decide, mB 8 (by decide +kernel) rfl, mB 9 (by decide +kernel) rfl, mB 1 (by decide +kernel) rfl⟩
theorem new5L : New RL 10 5 := ⟨by decide, mB 580 (by decide +kernel) rfl, mB 581 (by decide +kernel) rfl, mB 5 (by decide +kernel) rfl⟩
section LAWLOOP
variable {X : Ctx} {nm : String} {b N c t u v : Nat} {f : Nat → Int32} {S : Sto}
set_option maxHeartbeats 4000000 in
set_option maxRecDepth 100000 in
theorem law_iter (C : Cx X (KLw nm)) (hX : va_X b N f (xs X) (xs X).heap) (hb : b < (xs X).heap.size) (hz : b < xz X) (hN : N ≤ 2560) (hI : LI S t) (ht : t ≤ 1000 * c) (hu : 5 * c + 5 ≤ N → u + 3 ≤ 600000) (hv : 5 * c + 5 ≤ N → v + 85 ≤ 7302250) (fin : WLa X (LLw X b (5 * c)) 660 [] S u v) (go : 5 * c + 5 ≤ N → ∀ S' t', t' ≤ t + 1000 → LI S' t' → WLa X (LLw X b (5 * (c + 1))) 18 [] S' (u + 3) (v + 85)) (hc : 5 * c < 2 ^ 20) : WLa X (LLw X b (5 * c)) 18 [] S u v := by
  refine w_iloadn C 0 dL_law_18 rfl ?_
  refine w_len C hX hb hz 3 rfl dL_law_19 dL_law_20 ?_
  refine w_iconst C (x := 5) dL_law_21 (by decide) ?_
  refine w_isub C dL_law_22 ?_
  have e5 : (Int32.ofNat N - 5 : Int32).toInt = (N : Int) - 5 := pk_sub_toInt (a := N) (b := 5) (by omega) (by omega)
  refine w_icmp_gt C dL_law_23 (tgt := 660) (by decide) (fun _ => fin) (fun hc2 => ?_)
  have h5 : 5 * c + 5 ≤ N := by
    rw [Int32.lt_iff_toInt_lt, e5, nI_toInt (by omega)] at hc2
    omega
  have hg := go h5
  have hu' := hu h5
  have hv' := hv h5
  have htt : t + 1000 ≤ 512000 := by omega
  have at654 : ∀ S' t', t' ≤ t + 1000 → LI S' t' → WLa X (LLw X b (5 * c)) 654 [] S' (u + 3) (v + 85) := fun S' t' h1 h2 => by
    refine w_iinc C 0 (y := nI (5 * (c + 1))) dL_law_654 rfl (by rw [show Int32.ofInt 5 = nI 5 from by decide, nI_add]; congr 1) (by show 3 < 4; decide) rfl ?_
    exact w_goto C dL_law_657 (tgt := 18) (by decide) (hg S' t' h1 h2)
  refine w_first C hX hb hz 3 0 rfl rfl (vp_in_iff.mpr (ixN (by omega) (by omega))) dL_law_26 dL_law_27 dL_law_28 ?_
  refine w_bipush C (x := 31) dL_law_29 (by decide) ?_
  refine w_iand C dL_law_31 ?_
  refine w_table C dL_law_32 (by decide) (by decide) (fun i off ho _ => ?_) ⟨654, by decide, w_wide (by omega) (by omega) (at654 S t (by omega) hI)⟩
  have hi : i < 18 := by
    rcases Nat.lt_or_ge i 18 with z | z
    · exact z
    · rw [Array.getElem?_eq_none (by simpa using z)] at ho
      cases ho
  rcases (show i = 0 ∨ i = 1 ∨ i = 2 ∨ i = 3 ∨ i = 4 ∨ i = 5 ∨ i = 6 ∨ i = 7 ∨ i = 8 ∨ i = 9 ∨ i = 10 ∨ i = 11 ∨ i = 12 ∨ i = 13 ∨ i = 14 ∨ i = 15 ∨ i = 16 ∨ i = 17 by omega) with rfl | rfl | rfl | rfl | rfl | rfl | rfl | rfl | rfl | rfl | rfl | rfl | rfl | rfl | rfl | rfl | rfl | rfl
  · obtain rfl : (88 : Int) = off := Option.some.inj ho
    exact ⟨120, by decide, law_op0 C hX hb hz hN h5 hI htt hu' hv' at654⟩
  · obtain rfl : (131 : Int) = off := Option.some.inj ho
    exact ⟨163, by decide, law_op1 C hX hb hz hN h5 hI htt hu' hv' at654⟩
  · obtain rfl : (164 : Int) = off := Option.some.inj ho
    exact ⟨196, by decide, law_op2 C hX hb hz hN h5 hI htt hu' hv' at654⟩
  · obtain rfl : (187 : Int) = off := Option.some.inj ho
    exact ⟨219, by decide, law_op3 C hX hb hz hN h5 hI htt hu' hv' at654⟩
  · obtain rfl : (210 : Int) = off := Option.some.inj ho
    exact ⟨242, by decide, law_op4 C hX hb hz hN h5 hI htt hu' hv' at654⟩
  · obtain rfl : (243 : Int) = off := Option.some.inj ho
    exact ⟨275, by decide, law_op5 C hX hb hz hN h5 hI htt hu' hv' at654⟩
  · obtain rfl : (256 : Int) = off := Option.some.inj ho
    exact ⟨288, by decide, law_op6 C hX hb hz hN h5 hI htt hu' hv' at654⟩
  · obtain rfl : (279 : Int) = off := Option.some.inj ho
    exact ⟨311, by decide, law_op7 C hX hb hz hN h5 hI htt hu' hv' at654⟩
  · obtain rfl : (302 : Int) = off := Option.some.inj ho
    exact ⟨334, by decide, law_op8 C hX hb hz hN h5 hI htt hu' hv' at654⟩
  · obtain rfl : (325 : Int) = off := Option.some.inj ho
    exact ⟨357, by decide, law_op9 C hX hb hz hN h5 hI htt hu' hv' at654⟩
  · obtain rfl : (348 : Int) = off := Option.some.inj ho
    exact ⟨380, by decide, law_op10 C hX hb hz hN h5 hI htt hu' hv' at654⟩
  · obtain rfl : (371 : Int) = off := Option.some.inj ho
    exact ⟨403, by decide, law_op11 C hX hb hz hN h5 hI htt hu' hv' at654⟩
  · obtain rfl : (404 : Int) = off := Option.some.inj ho
    exact ⟨436, by decide, law_op12 C hX hb hz hN h5 hI htt hu' hv' at654⟩
  · obtain rfl : (437 : Int) = off := Option.some.inj ho
    exact ⟨469, by decide, law_op13 C hX hb hz hN h5 hI htt hu' hv' at654⟩
  · obtain rfl : (470 : Int) = off := Option.some.inj ho
    exact ⟨502, by decide, law_op14 C hX hb hz hN h5 hI htt hu' hv' at654⟩
  · obtain rfl : (513 : Int) = off := Option.some.inj ho
    exact ⟨545, by decide, law_op15 C hX hb hz hN h5 hI htt hu' hv' at654⟩
  · obtain rfl : (566 : Int) = off := Option.some.inj ho
    exact ⟨598, by decide, law_op16 C hX hb hz hN h5 hI htt hu' hv' at654⟩
  · obtain rfl : (599 : Int) = off := Option.some.inj ho
    exact ⟨631, by decide, law_op17 C hX hb hz hN h5 hI htt hu' hv' at654⟩
set_option maxHeartbeats 4000000 in
set_option maxRecDepth 100000 in
theorem law_loop (C : Cx X (KLw nm)) (hX : va_X b N f (xs X) (xs X).heap) (hb : b < (xs X).heap.size) (hz : b < xz X) (hN : N ≤ 2560) (fin : ∀ (i : Nat) S u v, u ≤ 600000 → v ≤ 7302250 → WLa X (LLw X b i) 660 [] S u v) : ∀ (m c : Nat) (S : Sto) (t : Nat), c + m = 513 → t ≤ 1000 * c → LI S t → WLa X (LLw X b (5 * c)) 18 [] S (79 + 3 * c) (93737 + 85 * c) := by
  intro m
  induction m with
  | zero =>
    intro c S t hc ht hI
    exact law_iter C hX hb hz hN hI ht (fun h => by omega) (fun h => by omega) (fin _ _ _ _ (by omega) (by omega)) (fun h => by omega) (by omega)
  | succ m ih =>
    intro c S t hc ht hI
    refine law_iter C hX hb hz hN hI ht (fun h => by omega) (fun h => by omega) (fin _ _ _ _ (by omega) (by omega)) (fun h S' t' h1 h2 => ?_) (by omega)
    have := ih (c + 1) S' t' (by omega) (by omega) h2
    rw [show 79 + 3 * c + 3 = 79 + 3 * (c + 1) by omega, show 93737 + 85 * c + 85 = 93737 + 85 * (c + 1) by omega]
    exact this
set_option maxHeartbeats 4000000 in
set_option maxRecDepth 100000 in
theorem law_start (C : Cx X (KLw nm)) (hX : va_X b N f (xs X) (xs X).heap) (hb : b < (xs X).heap.size) (hz : b < xz X) (hN : N ≤ 2560) (fin : ∀ (i : Nat) S u v, u ≤ 600000 → v ≤ 7302250 → WLa X (LLw X b i) 660 [] S u v) : WLa X [(0, .ref b)] 0 [] A0 0 0 := by
  refine w_new C (c := 4) new4L tyS4 rfl (by show 0 + 1 ≤ 600000; decide) (by show 0 + 14 ≤ 7302250; decide) dL_law_0 ?_
  show WLa X [(0, .ref b)] 3 [vr 0] (nw A0) 1 14
  refine w_dup C rfl dL_law_3 ?_
  refine w_callI C K4_init (a := 0) (av := []) [vr 0] cl_L_9 rm_L_K4_init (by show 1 + 25 ≤ 600000; decide) (by show 14 + 9194 ≤ 7302250; decide) rfl (Nat.le_of_ble_eq_true rfl) dL_law_4 (c_newCarrier A0_n ?_)
  show WLa X [(0, .ref b)] 7 [vr 0] (CS A0) 26 9208
  refine w_astoren C dL_law_7 (by show 1 < 4; decide) (L' := [(1, .ref (xz X + 0)), (0, .ref b)]) rfl ?_
  have n26 : sN (CS A0) = 26 := CS_n A0_n
  refine w_new C (c := 5) new5L tyS5 (by rw [n26]; rfl) (by show 26 + 1 ≤ 600000; decide) (by show 9208 + 65 ≤ 7302250; decide) dL_law_8 ?_
  rw [n26]
  show WLa X [(1, .ref (xz X + 0)), (0, .ref b)] 11 [vr 26] (nw (CS A0)) 27 9273
  refine w_dup C rfl dL_law_11 ?_
  refine w_callI C K5_init (a := 26) (av := []) [vr 26] cl_L_12 rm_L_K5_init (by show 27 + 52 ≤ 600000; decide) (by show 9273 + 84464 ≤ 7302250; decide) rfl (Nat.le_of_ble_eq_true rfl) dL_law_12 (c_model0 ?_)
  show WLa X [(1, .ref (xz X + 0)), (0, .ref b)] 15 [vr 26] (wJ MS BGr) 79 93737
  refine w_astoren C dL_law_15 (by show 2 < 4; decide) (L' := [(2, .ref (xz X + 26)), (1, .ref (xz X + 0)), (0, .ref b)]) rfl ?_
  refine w_iconst C (x := 0) dL_law_16 (by decide) ?_
  refine w_istoren C dL_law_17 (by show 3 < 4; decide) (L' := LLw X b (5 * 0)) rfl ?_
  have iv : Iv BGr 0 := by
    have hn : ∀ d, num BGr d = 0 := MS_num
    refine ⟨MS_t, fun d n _ h _ => ?_, fun d n _ _ _ => ⟨BGr_z (by decide) (by decide) (by decide) _, BGr_z (by decide) (by decide) (by decide) _, BGr_z (by decide) (by decide) (by decide) _⟩, ⟨fun _ => MS_u.2, fun _ => MS_u.1⟩, fun _ => MS_hu⟩
    rw [hn] at h
    exact absurd h (Nat.not_lt_zero n)
  exact law_loop C hX hb hz hN fin 513 0 (wJ MS BGr) 0 (by decide) (Nat.le_refl _) ⟨MS, BGr, rfl, MS_rel, iv⟩
end LAWLOOP
theorem whole_start {p : Program} {e : Env} {s : State} {m : MethodId} {below : List Frame} {meth : Method} {c : Code} (l : Launch) (hflags : l.flags = flags0) {b L : Nat} {xs : Nat → Int32} (hL : L ≤ 2560) (C0 : lw_At p s m meth c b L xs) : W p l e room_1 s m #[Value.ref b] below meth c s.heap [] 0 0 (lw_Z below #[Value.ref b] s) (entryFrame m ([Value.ref b] : List Value).toArray 4) := by
  obtain ⟨D, C⟩ := law_cx (l := l) (e := e) (below := below) (Z := lw_Z below #[Value.ref b] s) C0
  obtain ⟨hx, hb, hr, hml, hown, hts, hX, hbl, hlocks, hgv⟩ := C0
  have h0 : Rep D s.heap.size A0 s.heap := ⟨rfl, fun a ha => absurd ha (Nat.not_lt_zero a)⟩
  have hl := lv_entry ([.ref b]) (n := 4) (Nat.le_of_ble_eq_true rfl)
  rw [lg_entry_eq]
  generalize (lg_sl ([.ref b]) ++ List.replicate (4 - (lg_sl ([.ref b])).length) Slot.unset).toArray = ls at hl ⊢
  have hl : lv_has ls 4 [(0, .ref b)] := hl
  rw [← hml] at hl
  refine law_start (N := L) (f := xs) C hX hbl hbl hL (fun i S u v hu hv => ?_) s.heap [] ls h0 va_S.rf hl
  refine w_iconst C (x := 1) dL_law_660 (by decide) ?_
  intro H locs ls hR hS hl
  refine W.widen (k := 600000) (n := 7302250) hu hv ?_
  refine va_forget (fun q hq => hS.2.2 q hq) ?_
  exact lw_ret hx hb hr hlocks dL_law_661
