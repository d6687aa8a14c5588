/-! THE START: what holds there -/
abbrev fzL : List Cond := flatC (Jvm.Cond.and given_1 narrow_1)
theorem fz_in {i : Nat} {w : Cond} (h : decide (fzL[i]? = some w) = true) : w ∈ fzL := List.mem_of_getElem? (of_decide_eq_true h)
theorem lz_in {i : Nat} {w : Cond} (h : decide (lw_tbl[i]? = some w) = true) : w ∈ lw_tbl := List.mem_of_getElem? (of_decide_eq_true h)
def tmT (i : Nat) : Term := match strT[i]? with
  | some q => .string q.1 q.2.1
  | none => .int 0
def bsT : List Nat := [9, 19, 28, 39, 49, 63, 76, 89, 106, 122, 140, 160]
def piT : List (List Nat) := [[0, 27, 37, 46, 59, 71, 83, 99, 114, 131, 150, 227], [27, 0, 38, 47, 60, 72, 84, 100, 115, 132, 151, 228], [37, 38, 0, 48, 61, 73, 85, 101, 116, 133, 152, 229], [46, 47, 48, 0, 62, 74, 86, 102, 117, 134, 153, 230], [59, 60, 61, 62, 0, 75, 87, 103, 118, 135, 154, 231], [71, 72, 73, 74, 75, 0, 88, 104, 119, 136, 155, 232], [83, 84, 85, 86, 87, 88, 0, 105, 120, 137, 156, 233], [99, 100, 101, 102, 103, 104, 105, 0, 121, 138, 157, 234], [114, 115, 116, 117, 118, 119, 120, 121, 0, 139, 158, 235], [131, 132, 133, 134, 135, 136, 137, 138, 139, 0, 159, 236], [150, 151, 152, 153, 154, 155, 156, 157, 158, 159, 0, 237], [227, 228, 229, 230, 231, 232, 233, 234, 235, 236, 237, 0]]
theorem sc_ex : ((List.range 12).all fun i => decide (fzL[bsT.getD i 0 + 0]? = some (.exactly (tmT i) "java/lang/String"))) = true := by decide +kernel
theorem sc_co : ((List.range 12).all fun i => decide (fzL[bsT.getD i 0 + 1]? = some (.eq (.field (tmT i) "java/lang/String" "coder" "B") (.int 0)))) = true := by decide +kernel
theorem sc_ar : ((List.range 12).all fun i => decide (fzL[bsT.getD i 0 + 2]? = some (.arrayOf (.field (tmT i) "java/lang/String" "value" "[B") .byte))) = true := by decide +kernel
theorem sc_le : ((List.range 12).all fun i => decide (fzL[bsT.getD i 0 + 3]? = some (.eq (.length (.field (tmT i) "java/lang/String" "value" "[B")) (.int (Int32.ofNat (lenT.getD i 0)))))) = true := by decide +kernel
theorem sc_el : ((List.range 12).all fun i => (List.range (lenT.getD i 0)).all fun j => decide (fzL[bsT.getD i 0 + 4 + j]? = some (.eq (.elem (.field (tmT i) "java/lang/String" "value" "[B") (.int (Int32.ofNat j))) (.int ((Tx.getD i []).getD j 0))))) = true := by decide +kernel
theorem sc_ne : ((List.range 12).all fun i => (List.range 12).all fun j => decide (i = j) || decide (fzL[(piT.getD i []).getD j 0]? = some (.not (.eq (tmT i) (tmT j)))) || decide (fzL[(piT.getD i []).getD j 0]? = some (.not (.eq (tmT j) (tmT i))))) = true := by decide +kernel
theorem sc_ln : ((List.range 12).all fun i => decide (lenT.getD i 0 < 2 ^ 31)) = true := by decide +kernel
def srT : List Nat := [523, 576, 577, 578, 579, 580, 581, 582, 583, 584, 585, 1391]
theorem sc_sr : ((List.range 12).all fun i => match strT[i]? with
  | some q => decide (lw_tbl[srT.getD i 0]? = some (.stringRef q.1 q.2.1 q.2.2.1)) && decide (q.2.2.2 = 143 + i)
  | none => false) = true := by decide +kernel
theorem al12 {f : Nat → Bool} {n : Nat} (h : (List.range n).all f = true) {i : Nat} (hi : i < n) : f i = true := List.all_eq_true.mp h i (List.mem_range.mpr hi)
section KNOWN
variable {s : State} {b : Nat}
theorem st_ZZ (hts : ∀ w ∈ lw_tbl, w.before #[Value.ref b] s = true) (hgv : (Jvm.Cond.and given_1 narrow_1).before #[Value.ref b] s = true) : ∃ adK adV : Nat → Nat, pZZ (adB s.heap.size adK) adV (fun q => s.heap.size ≤ q) s := by
  have hs := flat_of_before _ hgv
  have hA : ∀ a : Nat, a < s.heap.size → ¬ (fun q : Nat => s.heap.size ≤ q) a := fun a ha => Nat.not_le.mpr ha
  obtain ⟨adK, adV, hS, hE⟩ := vk_Sof (args := #[Value.ref b]) (s := s) (N := 12) (tm := tmT) (len := lenT) (byt := Tx) (A := fun q => s.heap.size ≤ q)
    (fun i hi => of_decide_eq_true (al12 sc_ln hi))
    (fun i hi => hs _ (fz_in (al12 sc_ex hi)))
    (fun i hi => hs _ (fz_in (al12 sc_co hi)))
    (fun i hi => hs _ (fz_in (al12 sc_ar hi)))
    (fun i hi => hs _ (fz_in (al12 sc_le hi)))
    (fun i hi j hj => hs _ (fz_in (al12 (al12 sc_el hi) hj)))
    (fun i j hi hj hij => by
      have h := al12 (al12 sc_ne hi) hj
      rw [Bool.or_eq_true, Bool.or_eq_true] at h
      rcases h with (h | h) | h
      · exact absurd (of_decide_eq_true h) hij
      · exact Or.inl (hs _ (fz_in h))
      · exact Or.inr (hs _ (fz_in h))) hA
  have ad : ∀ i, adB s.heap.size adK (143 + i) 0 = adK i := fun i => by
    unfold adB
    rw [if_neg (by omega), Nat.add_sub_cancel_left]
  refine ⟨adK, adV, ⟨va_Zof (args := #[Value.ref b]) (hts _ (lz_in (i := 537) (by decide +kernel))) (hts _ (lz_in (i := 93) (by decide +kernel))) (va_eqi (hs _ (fz_in (i := 4) (by decide +kernel)))) hA, va_Zqof (args := #[Value.ref b]) (hts _ (lz_in (i := 553) (by decide +kernel))) (hts _ (lz_in (i := 95) (by decide +kernel))) (hs _ (fz_in (i := 5) (by decide +kernel))) hA, ?_⟩, ?_⟩
  · have e : (fun i => adB s.heap.size adK (143 + i) 0) = adK := funext ad
    rw [e]
    exact hS
  · intro q hq
    obtain ⟨i, hi⟩ := List.getElem?_of_mem hq
    have hl : i < 12 := (List.getElem?_eq_some_iff.mp hi).1
    have h1 := al12 sc_sr hl
    rw [hi] at h1
    rw [Bool.and_eq_true] at h1
    have h2 := hE i hl
    have e2 : tmT i = .string q.1 q.2.1 := by
      unfold tmT
      rw [hi]
    rw [e2] at h2
    refine vk_R.of (A := #[Value.ref b]) (hts _ (lz_in h1.1)) ?_
    rw [of_decide_eq_true h1.2, ad]
    exact h2
theorem st_NN (hts : ∀ w ∈ lw_tbl, w.before #[Value.ref b] s = true) : NN s :=
  ⟨va_Nw.of rfl (hts _ (lz_in (i := 110) (by decide +kernel))), va_Nw.of rfl (hts _ (lz_in (i := 217) (by decide +kernel))), va_Nw.of rfl (hts _ (lz_in (i := 364) (by decide +kernel))), va_Nw.of rfl (hts _ (lz_in (i := 403) (by decide +kernel))), va_Nw.of rfl (hts _ (lz_in (i := 225) (by decide +kernel))), va_AO.of (hts _ (lz_in (i := 321) (by decide +kernel))), over_moved (Vm.Alike.refl s.vm) (hts _ (lz_in (i := 329) (by decide +kernel)))⟩
theorem st_K (hts : ∀ w ∈ lw_tbl, w.before #[Value.ref b] s = true) : ∃ (dg : va_G) (cA : Nat → ClassId), va_K dg vwCl (pTys cA) s := by
  have htg : ∀ w ∈ tg, w.before #[Value.ref b] s = true := fun w h => hts w (List.mem_filter.mp h).1
  obtain ⟨c0, i0, h0⟩ := u_known (C := RX0) (T := TX0) (N := 13) (n := 13) htg cli0 (hts _ (lz_in (i := 126) (by decide +kernel)))
  obtain ⟨c1, i1, h1⟩ := u_known (C := RX1) (T := TX1) (N := 1) (n := 1) htg cli1 (hts _ (lz_in (i := 363) (by decide +kernel)))
  obtain ⟨c2, i2, h2⟩ := u_known (C := RX2) (T := TX2) (N := 14) (n := 14) htg cli2 (hts _ (lz_in (i := 402) (by decide +kernel)))
  obtain ⟨c3, i3, h3⟩ := u_known (C := RX3) (T := TX3) (N := 3) (n := 3) htg cli3 (hts _ (lz_in (i := 224) (by decide +kernel)))
  obtain ⟨c4, i4, h4⟩ := u_known (C := RX4) (T := TX4) (N := 14) (n := 14) htg cli4 (hts _ (lz_in (i := 216) (by decide +kernel)))
  obtain ⟨c5, i5, h5⟩ := u_known (C := RX5) (T := TX5) (N := 6) (n := 6) htg cli5 (hts _ (lz_in (i := 287) (by decide +kernel)))
  obtain ⟨c6, i6, h6⟩ := u_known (C := RX6) (T := TX6) (N := 10) (n := 10) htg cli6 (hts _ (lz_in (i := 323) (by decide +kernel)))
  obtain ⟨c7, i7, h7⟩ := u_known (C := RX7) (T := TX7) (N := 2) (n := 2) htg cli7 (hts _ (lz_in (i := 109) (by decide +kernel)))
  obtain ⟨c8, i8, h8⟩ := u_known (C := RX8) (T := TX8) (N := 7) (n := 7) htg cli8 (hts _ (lz_in (i := 373) (by decide +kernel)))
  obtain ⟨c9, i9, h9⟩ := u_known (C := RX9) (T := TX9) (N := 10) (n := 10) htg cli9 (hts _ (lz_in (i := 101) (by decide +kernel)))
  obtain ⟨c10, i10, h10⟩ := u_known (C := RX10) (T := TX10) (N := 59) (n := 59) htg cli10 (hts _ (lz_in (i := 1163) (by decide +kernel)))
  obtain ⟨a0, k0, e0, f0, g0, j0⟩ := Cond.arrayClass_spec (hts (.arrayClass .int) (lz_in (i := 214) (by decide +kernel)))
  obtain ⟨a1, k1, e1, f1, g1, j1⟩ := Cond.arrayClass_spec (hts (.arrayClass .byte) (lz_in (i := 124) (by decide +kernel)))
  obtain ⟨a2, k2, e2, f2, g2, j2⟩ := Cond.arrayClass_spec (hts (.arrayClass .boolean) (lz_in (i := 361) (by decide +kernel)))
  obtain ⟨a3, k3, e3, f3, g3, j3⟩ := Cond.arrayClass_spec (hts (.arrayClass .long) (lz_in (i := 1357) (by decide +kernel)))
  obtain ⟨e4, a4, k4, f4, -, g4, j4, n4⟩ := Cond.arrayOver_spec (hts (.arrayOver (.object RX5)) (lz_in (i := 321) (by decide +kernel)))
  obtain ⟨e5, a5, k5, f5, -, g5, j5, n5⟩ := arrayOverA_spec (hts (.arrayOver (.array .int)) (lz_in (i := 329) (by decide +kernel)))
  refine ⟨(fun k => [c0, c1, c2, c3, c4, c5, c6, c7, c8, c9, c10].getD k 0, fun k => [i0, i1, i2, i3, i4, i5, i6, i7, i8, i9, i10].getD k (fun _ => 0)), fun k => [a0, a1, a2, a3, a4, a5].getD k 0, ?_, ?_⟩
  · intro k q hq
    match k, hq with
    | 0, hq => cases hq; exact h0
    | 1, hq => cases hq; exact h1
    | 2, hq => cases hq; exact h2
    | 3, hq => cases hq; exact h3
    | 4, hq => cases hq; exact h4
    | 5, hq => cases hq; exact h5
    | 6, hq => cases hq; exact h6
    | 7, hq => cases hq; exact h7
    | 8, hq => cases hq; exact h8
    | 9, hq => cases hq; exact h9
    | 10, hq => cases hq; exact h10
    | k + 11, hq => cases hq
  · intro k q hq
    match k, hq with
    | 0, hq => cases hq; exact ⟨fun N z => ⟨(fun k h => by cases h), k0, g0, e0, j0⟩, f0⟩
    | 1, hq => cases hq; exact ⟨fun N z => ⟨(fun k h => by cases h), k1, g1, e1, j1⟩, f1⟩
    | 2, hq => cases hq; exact ⟨fun N z => ⟨(fun k h => by cases h), k2, g2, e2, j2⟩, f2⟩
    | 3, hq => cases hq; exact ⟨fun N z => ⟨(fun k h => by cases h), k3, g3, e3, j3⟩, f3⟩
    | 4, hq => cases hq; exact ⟨fun N z => ⟨(fun k h => by cases h), k4, g4, e4, j4⟩, k4, e4, g4, j4, f4, n4⟩
    | 5, hq => cases hq; exact ⟨fun N z => ⟨(fun k h => by cases h), k5, g5, e5, j5⟩, n5⟩
    | k + 6, hq => cases hq
end KNOWN
