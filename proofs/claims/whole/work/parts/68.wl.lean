section WLROWS
variable {X : Ctx} {K : Mt} {pc : Nat} {L : List (Nat × Value)} {st : List AV} {S : Sto} {u v : Nat}
/-- the walk of the law itself: what its locals are is listed raw -/
def WLa (X : Ctx) (L : List (Nat × Value)) (pc : Nat) (st : List AV) (S : Sto) (u v : Nat) : Prop :=
  ∀ (H : Heap) (locs : List Loc) (ls : Array Slot), Rep (xD X) (xz X) S H → va_S (fun q => xz X ≤ q) (xs X).heap H locs → lv_has ls (xc X).maxLocals L → WX X H locs u v (F0 (xm X) pc ls (st.map (vz (xz X))))
theorem w_iconst (C : Cx X K) {n : Int} {x : Int32} (hd : decode (kc K) pc = .ok (.iconst n, 1)) (hv : Int32.ofInt n = x) (k : WLa X L (pc + 1) (vi x :: st) S u v) : WLa X L pc st S u v := by
  intro H locs ls hR hS hl; exact lv_iconst C.ex C.co hd hv (k H locs ls hR hS hl)
theorem w_bipush (C : Cx X K) {n : Int} {x : Int32} (hd : decode (kc K) pc = .ok (.bipush n, 2)) (hv : (Int8.ofInt n).toInt32 = x) (k : WLa X L (pc + 2) (vi x :: st) S u v) : WLa X L pc st S u v := by
  intro H locs ls hR hS hl; exact lv_bipush C.ex C.co hd hv (k H locs ls hR hS hl)
theorem w_iloadn (C : Cx X K) {n : Fin 4} (i : Nat) {x : Int32} (hd : decode (kc K) pc = .ok (.iload_n n, 1)) (hk : L[i]? = some ((n : Nat), .int x)) (k : WLa X L (pc + 1) (vi x :: st) S u v) : WLa X L pc st S u v := by
  intro H locs ls hR hS hl; exact lv_iload_n C.ex C.co hd rfl (lv_at hl i hk) (k H locs ls hR hS hl)
theorem w_aloadn (C : Cx X K) {n : Fin 4} (i : Nat) {a : Nat} (hd : decode (kc K) pc = .ok (.aload_n n, 1)) (hk : L[i]? = some ((n : Nat), .ref (xz X + a))) (k : WLa X L (pc + 1) (vr a :: st) S u v) : WLa X L pc st S u v := by
  intro H locs ls hR hS hl; exact lv_aload_n C.ex C.co hd rfl (lv_at hl i hk) (k H locs ls hR hS hl)
theorem w_istoren (C : Cx X K) {n : Fin 4} {x : Int32} {L' : List (Nat × Value)} (hd : decode (kc K) pc = .ok (.istore_n n, 1)) (hn : (n : Nat) < kL K) (hl' : ((n : Nat), Value.int x) :: L.filter (fun q => !(q.1 == (n : Nat)) && !(q.1 + 1 == (n : Nat) && q.2.category == 2)) = L') (k : WLa X L' (pc + 1) st S u v) : WLa X L pc (vi x :: st) S u v := by
  intro H locs ls hR hS hl; exact lv_istore_n C.ex C.co hd rfl hl (by rw [C.ml]; exact hn) hl' (fun ls' h' => k H locs ls' hR hS h')
theorem w_astoren (C : Cx X K) {n : Fin 4} {a : Nat} {L' : List (Nat × Value)} (hd : decode (kc K) pc = .ok (.astore_n n, 1)) (hn : (n : Nat) < kL K) (hl' : ((n : Nat), Value.ref (xz X + a)) :: L.filter (fun q => !(q.1 == (n : Nat)) && !(q.1 + 1 == (n : Nat) && q.2.category == 2)) = L') (k : WLa X L' (pc + 1) st S u v) : WLa X L pc (vr a :: st) S u v := by
  intro H locs ls hR hS hl; exact lv_astore_n C.ex C.co hd rfl hl (by rw [C.ml]; exact hn) hl' (fun ls' h' => k H locs ls' hR hS h')
theorem w_iinc (C : Cx X K) {n : Nat} {d : Int} (i : Nat) {x y : Int32} {L' : List (Nat × Value)} (hd : decode (kc K) pc = .ok (.iinc n d, 3)) (hk : L[i]? = some (n, .int x)) (hy : x + Int32.ofInt d = y) (hn : n < kL K) (hl' : (n, Value.int y) :: L.filter (fun q => !(q.1 == n) && !(q.1 + 1 == n && q.2.category == 2)) = L') (k : WLa X L' (pc + 3) st S u v) : WLa X L pc st S u v := by
  intro H locs ls hR hS hl; exact lv_iinc C.ex C.co hd hl hk hy (by rw [C.ml]; exact hn) hl' (fun ls' h' => k H locs ls' hR hS h')
theorem w_goto (C : Cx X K) {off : Int} {tgt : Nat} (hd : decode (kc K) pc = .ok (.goto off, 3)) (ht : (pc : Int) + off = (tgt : Int)) (k : WLa X L tgt st S u v) : WLa X L pc st S u v := by
  intro H locs ls hR hS hl; exact lv_goto C.ex C.co hd ht (k H locs ls hR hS hl)
theorem w_iadd (C : Cx X K) {x y : Int32} (hd : decode (kc K) pc = .ok (.iadd, 1)) (k : WLa X L (pc + 1) (vi (x + y) :: st) S u v) : WLa X L pc (vi y :: vi x :: st) S u v := by
  intro H locs ls hR hS hl; exact lv_iadd C.ex C.co hd (k H locs ls hR hS hl)
theorem w_isub (C : Cx X K) {x y : Int32} (hd : decode (kc K) pc = .ok (.isub, 1)) (k : WLa X L (pc + 1) (vi (x - y) :: st) S u v) : WLa X L pc (vi y :: vi x :: st) S u v := by
  intro H locs ls hR hS hl; exact lv_isub C.ex C.co hd (k H locs ls hR hS hl)
theorem w_iand (C : Cx X K) {x y : Int32} (hd : decode (kc K) pc = .ok (.iand, 1)) (k : WLa X L (pc + 1) (vi (x &&& y) :: st) S u v) : WLa X L pc (vi y :: vi x :: st) S u v := by
  intro H locs ls hR hS hl; exact lv_iand C.ex C.co hd (k H locs ls hR hS hl)
theorem w_dup (C : Cx X K) {x : AV} (hx : isL x = false) (hd : decode (kc K) pc = .ok (.dup, 1)) (k : WLa X L (pc + 1) (x :: x :: st) S u v) : WLa X L pc (x :: st) S u v := by
  intro H locs ls hR hS hl; exact lv_dup C.ex C.co hd (by rw [vz_cat, hx]; rfl) (k H locs ls hR hS hl)
theorem w_icmp_eq (C : Cx X K) {x y : Int32} {off : Int} {tgt : Nat} (hd : decode (kc K) pc = .ok (.if_icmp .eq off, 3)) (ht : (pc : Int) + off = (tgt : Int)) (kt : x = y → WLa X L tgt st S u v) (kf : ¬ x = y → WLa X L (pc + 3) st S u v) : WLa X L pc (vi y :: vi x :: st) S u v := by
  intro H locs ls hR hS hl; exact lv_icmp_eq C.ex C.co hd ht (fun h => kt h H locs ls hR hS hl) (fun h => kf h H locs ls hR hS hl)
theorem w_icmp_gt (C : Cx X K) {x y : Int32} {off : Int} {tgt : Nat} (hd : decode (kc K) pc = .ok (.if_icmp .gt off, 3)) (ht : (pc : Int) + off = (tgt : Int)) (kt : y < x → WLa X L tgt st S u v) (kf : ¬ y < x → WLa X L (pc + 3) st S u v) : WLa X L pc (vi y :: vi x :: st) S u v := by
  intro H locs ls hR hS hl; exact lv_icmp_gt C.ex C.co hd ht (fun h => kt h H locs ls hR hS hl) (fun h => kf h H locs ls hR hS hl)
theorem w_table (C : Cx X K) {dflt lo hi : Int} {offs : Array Int} {len : Nat} {x : Int32} (hd : decode (kc K) pc = .ok (.tableswitch dflt lo hi offs, len)) (hsz : hi - lo + 1 = offs.size) (h1 : -2147483648 ≤ lo ∧ hi < 2147483648)
    (kin : ∀ (i : Nat) (off : Int), offs[i]? = some off → x = Int32.ofInt (lo + i) → ∃ tgt : Nat, (pc : Int) + off = (tgt : Int) ∧ WLa X L tgt st S u v) (kout : ∃ tgt : Nat, (pc : Int) + dflt = (tgt : Int) ∧ WLa X L tgt st S u v) : WLa X L pc (vi x :: st) S u v := by
  intro H locs ls hR hS hl
  by_cases hx : x.toInt < lo ∨ hi < x.toInt
  · obtain ⟨tgt, ht, k⟩ := kout
    exact lv_tableOut C.ex C.co hd hx ht (k H locs ls hR hS hl)
  · have h2 : ¬ x.toInt < lo := fun q => hx (Or.inl q)
    have h3 : ¬ hi < x.toInt := fun q => hx (Or.inr q)
    have hlt : (x.toInt - lo).toNat < offs.size := by omega
    have hg : offs[(x.toInt - lo).toNat]? = some offs[(x.toInt - lo).toNat] := Array.getElem?_eq_getElem hlt
    obtain ⟨tgt, ht, k⟩ := kin _ _ hg (by
      rw [show lo + ((x.toInt - lo).toNat : Int) = x.toInt by omega]
      exact (Int32.ofInt_toInt x).symm)
    exact lv_tableIn C.ex C.co hd h2 h3 hg ht (k H locs ls hR hS hl)
theorem w_wide {k n : Nat} (h1 : u ≤ k) (h2 : v ≤ n) (kk : WLa X L pc st S k n) : WLa X L pc st S u v := by
  intro H locs ls hR hS hl; exact W.widen h1 h2 (kk H locs ls hR hS hl)
/-- a place of the script -/
theorem w_elt0 (C : Cx X K) {b N : Nat} {f : Nat → Int32} (hX : va_X b N f (xs X) (xs X).heap) (hb : b < (xs X).heap.size) (hz : b < xz X) {x : Int32} (hin : vp_in x N) (hd0 : decode (kc K) pc = .ok (.iaload, 1)) (k : WLa X L (pc + 1) (vi (f x.toNatClampNeg) :: st) S u v) :
    ∀ (H : Heap) (locs : List Loc) (ls : Array Slot), Rep (xD X) (xz X) S H → va_S (fun q => xz X ≤ q) (xs X).heap H locs → lv_has ls (xc X).maxLocals L → WX X H locs u v (F0 (xm X) pc ls (.int x :: .ref b :: st.map (vz (xz X)))) := by
  intro H locs ls hR hS hl
  exact va_sld C.ex C.co hX hb (Nat.not_le.mpr hz) hS hin hd0 (k H locs ls hR hS hl)
theorem w_first (C : Cx X K) {b N : Nat} {f : Nat → Int32} (hX : va_X b N f (xs X) (xs X).heap) (hb : b < (xs X).heap.size) (hz : b < xz X) {x : Int32} (i0 i3 : Nat) (hk0 : L[i0]? = some (0, .ref b)) (hk3 : L[i3]? = some (3, .int x)) (hin : vp_in x N) (d0 : decode (kc K) pc = .ok (.aload_n 0, 1)) (d1 : decode (kc K) (pc + 1) = .ok (.iload_n 3, 1)) (d2 : decode (kc K) (pc + 2) = .ok (.iaload, 1))
    (k : WLa X L (pc + 3) (vi (f x.toNatClampNeg) :: st) S u v) : WLa X L pc st S u v := by
  intro H locs ls hR hS hl
  refine lv_aload_n C.ex C.co d0 rfl (lv_at hl i0 hk0) ?_
  refine lv_iload_n C.ex C.co d1 rfl (lv_at hl i3 hk3) ?_
  exact w_elt0 C hX hb hz hin d2 k H locs ls hR hS hl
theorem w_elt (C : Cx X K) {b N : Nat} {f : Nat → Int32} (hX : va_X b N f (xs X) (xs X).heap) (hb : b < (xs X).heap.size) (hz : b < xz X) {x y : Int32} {n : Int} (i0 i3 : Nat) (hk0 : L[i0]? = some (0, .ref b)) (hk3 : L[i3]? = some (3, .int x)) (hy : Int32.ofInt n = y) (hin : vp_in (x + y) N) (d0 : decode (kc K) pc = .ok (.aload_n 0, 1)) (d1 : decode (kc K) (pc + 1) = .ok (.iload_n 3, 1)) (d2 : decode (kc K) (pc + 2) = .ok (.iconst n, 1)) (d3 : decode (kc K) (pc + 3) = .ok (.iadd, 1)) (d4 : decode (kc K) (pc + 4) = .ok (.iaload, 1))
    (k : WLa X L (pc + 5) (vi (f (x + y).toNatClampNeg) :: st) S u v) : WLa X L pc st S u v := by
  intro H locs ls hR hS hl
  refine lv_aload_n C.ex C.co d0 rfl (lv_at hl i0 hk0) ?_
  refine lv_iload_n C.ex C.co d1 rfl (lv_at hl i3 hk3) ?_
  refine lv_iconst C.ex C.co d2 hy ?_
  refine lv_iadd C.ex C.co d3 ?_
  exact w_elt0 C hX hb hz hin d4 k H locs ls hR hS hl
theorem w_len (C : Cx X K) {b N : Nat} {f : Nat → Int32} (hX : va_X b N f (xs X) (xs X).heap) (hb : b < (xs X).heap.size) (hz : b < xz X) (i0 : Nat) (hk0 : L[i0]? = some (0, .ref b)) (d0 : decode (kc K) pc = .ok (.aload_n 0, 1)) (d1 : decode (kc K) (pc + 1) = .ok (.arraylength, 1))
    (k : WLa X L (pc + 2) (vi (Int32.ofNat N) :: st) S u v) : WLa X L pc st S u v := by
  intro H locs ls hR hS hl
  refine lv_aload_n C.ex C.co d0 rfl (lv_at hl i0 hk0) ?_
  exact va_slen C.ex C.co hX hb (Nat.not_le.mpr hz) hS d1 (k H locs ls hR hS hl)
theorem w_new (C : Cx X K) {c idx : Nat} (hN : New (ko K) idx c) (hty : ∀ k, k < NC c → (∃ n, tyC c k = .object n) ∨ (∃ t, tyC c k = .array t) ∨ tyC c k = .int ∨ tyC c k = .boolean ∨ tyC c k = .byte) (hk : kd (sN S) = c) (hu : u + 1 ≤ (kR K).cells) (hv : v + NC c ≤ (kR K).slots) (hd : decode (kc K) pc = .ok (.new idx, 3)) (kk : WLa X L (pc + 3) (vr (sN S) :: st) (nw S) (u + 1) (v + NC c)) : WLa X L pc st S u v := by
  intro H locs ls hR hS hl
  obtain ⟨hc, n1, n2, n3⟩ := hN
  have hKn := C.dk.1 c hc
  refine W.newcK C.ex C.co C.ow (C.ts _ n1) (C.ts _ n2) (C.ts _ n3) rfl hd (by rw [C.rm]; exact hu) (by rw [C.rm]; exact hv) hKn.2.1 rfl fun H1 kC hkC e1 z1 o1 => ?_
  rw [hR.1] at e1 ⊢
  refine kk H1 locs ls (Rep.push hR rfl z1 o1 (at1.ofObj hk hc ((u_born (tyC c) C.ts (lays_in c hc) hKn hkC e1 (ty_ok c hc)).to fun k hk' => dv_fv hk (hty k hk'))) nw_other) (vaS_push hS z1 o1) hl
theorem wcallGo {K' : Mt} {av rest : List AV} {Qk : Option AV → Sto → Prop} {H : Heap} {locs : List Loc} {ls : Array Slot} (C : Cx X K) (hRun : va_Run (xp X) (xl X) (xe X) (xR X) (xs X) (xm X) (xa X) (xb X) (xt X) (xc X) H locs u v (kR K').cells (kR K').slots (F0 (xm X) pc ls (st.map (vz (xz X)))) (rest.map (vz (xz X))) (Qc (xD X) (xz X) Qk (av.map (vz (xz X))).toArray) (fun q => xz X ≤ q))
    (hS : va_S (fun q => xz X ≤ q) (xs X).heap H locs) (hl : lv_has ls (xc X).maxLocals L) (hk : ∀ r S', Qk r S' → WLa X L (pc + 3) (r.toList ++ rest) S' (u + (kR K').cells) (v + (kR K').slots)) : WX X H locs u v (F0 (xm X) pc ls (st.map (vz (xz X)))) := by
  intro T hT Y
  obtain ⟨w, st₀, t, T', L', h0, Y', hL, e1, e2, ⟨⟨r, S', hw, hq, hR'⟩, hz, hkp⟩, go⟩ := hRun T hT Y
  have hwv : w = r.map (vz (xz X)) := by injection hw
  rw [h0] at hz hkp
  have hS' : va_S (fun q => xz X ≤ q) (xs X).heap T'.heap (locs ++ L') := ⟨Nat.le_trans hS.1 (by rw [e1]; exact hz), fun q h1 h2 => by rw [e1, hkp q (Nat.lt_of_lt_of_le h1 hS.1) h2]; exact hS.2.1 q h1 h2, fun q hq' => by
      rcases List.mem_append.mp hq' with h | h
      · exact hS.2.2 q h
      · exact hL q h⟩
  obtain ⟨t2, a1, b1⟩ := hk r S' hq T'.heap (locs ++ L') ls (by rw [e1]; exact hR') hS' hl T' rfl Y'
  refine ⟨t2, go t2 ?_, b1⟩
  rw [hwv]
  have he : (r.map (vz (xz X))).toList ++ rest.map (vz (xz X)) = (r.toList ++ rest).map (vz (xz X)) := by cases r <;> simp
  rw [he]
  exact a1
theorem w_callV (C : Cx X K) (K' : Mt) {idx : Nat} {a c : Nat} {av : List AV} (rest : List AV) (ha : al S a c) (hc : c < 6) (hcc : RC c = ko K') (hcal : CalV (ko K) idx K' av.length) (hrm : Rm K K') (hu : u + (kR K').cells ≤ (kR K).cells) (hv : v + (kR K').slots ≤ (kR K).slots) (hst : st = av.reverse ++ vr a :: rest) (hrest : avn rest ≤ 8) (hd : decode (kc K) pc = .ok (.invokevirtual idx, 3))
    (h : CALL K' (vr a :: av) S (fun r S' => WLa X L (pc + 3) (r.toList ++ rest) S' (u + (kR K').cells) (v + (kR K').slots))) : WLa X L pc st S u v := by
  intro H locs ls hR hS hl
  subst hst
  obtain ⟨cell, q1, q2, q3, -⟩ := (hR.2 a ha.1).obj ha.2 hc
  refine wcallGo (K' := K') (Qk := fun r S' => WLa X L (pc + 3) (r.toList ++ rest) S' (u + (kR K').cells) (v + (kR K').slots)) (av := vr a :: av) (rest := rest) C ?_ hS hl (fun r S' h => h)
  refine va_runV (As := av.map (vz (xz X))) (b := xz X + a) ⟨C.ex, C.co, C.ml, C.ow, C.ts⟩ (h (xl X) (xD X) (xz X)) (C := RC c) ⟨cal_b C hcal.1 hrm, C.ts _ hcal.2.1, ?_⟩ ⟨Pcz.blind, ⟨cell, q1, by rw [q3]; rfl, by rw [q2]; exact (C.dk.1 c hc).2.1⟩, pcz_in C hR⟩ rfl (by simp) (hl.1.trans C.ml) ?_ ?_ hd (by rw [C.rm]; exact ⟨hu, hv⟩)
  · rw [hcc]; exact C.ts _ hcal.2.2
  · simp [F0, vz]
  · refine lv_room ?_
    rw [avn_cat]; exact hrest
theorem w_callI (C : Cx X K) (K' : Mt) {idx : Nat} {a : Nat} {av : List AV} (rest : List AV) (hcal : CalI (ko K) idx K' av.length) (hrm : Rm K K') (hu : u + (kR K').cells ≤ (kR K).cells) (hv : v + (kR K').slots ≤ (kR K).slots) (hst : st = av.reverse ++ vr a :: rest) (hrest : avn rest ≤ 8) (hd : decode (kc K) pc = .ok (.invokespecial idx, 3))
    (h : CALL K' (vr a :: av) S (fun r S' => WLa X L (pc + 3) (r.toList ++ rest) S' (u + (kR K').cells) (v + (kR K').slots))) : WLa X L pc st S u v := by
  intro H locs ls hR hS hl
  subst hst
  refine wcallGo (K' := K') (Qk := fun r S' => WLa X L (pc + 3) (r.toList ++ rest) S' (u + (kR K').cells) (v + (kR K').slots)) (av := vr a :: av) (rest := rest) C ?_ hS hl (fun r S' h => h)
  have hb := cal_b C hcal.1 hrm
  rw [hcal.2.2.1] at hb
  refine va_runI (As := av.map (vz (xz X))) (b := xz X + a) ⟨C.ex, C.co, C.ml, C.ow, C.ts⟩ (h (xl X) (xD X) (xz X)) ⟨hb, hcal.2.1, C.ts _ hcal.2.2.2⟩ ⟨Pcz.blind, pcz_in C hR⟩ rfl (by simp) (hl.1.trans C.ml) ?_ ?_ hd (by rw [C.rm]; exact ⟨hu, hv⟩)
  · simp [F0, vz]
  · refine lv_room ?_
    rw [avn_cat]; exact hrest
/-- both sides are called, their answers are compared, and they are the same -/
theorem w_same (C : Cx X K) {x y : Int32} {off : Int} {tgt : Nat} (e : y = x) (hd : decode (kc K) pc = .ok (.if_icmp .eq off, 3)) (ht : (pc : Int) + off = (tgt : Int)) (kt : WLa X L tgt st S u v) : WLa X L pc (vi y :: vi x :: st) S u v :=
  w_icmp_eq C hd ht (fun _ => kt) (fun h => absurd e.symm h)
end WLROWS
