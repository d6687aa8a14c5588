def lenT : List Nat := [6, 4, 5, 3, 6, 4, 3, 6, 4, 5, 6, 63]
def strT : List (String × Nat × String × Nat) := [(RX4, 132, "notion", 143), (RX4, 138, "word", 144), (RX4, 140, "place", 145), (RX4, 142, "tie", 146), (RX4, 144, "hearer", 147), (RX4, 146, "lack", 148), (RX4, 148, "add", 149), (RX4, 150, "borrow", 150), (RX4, 152, "long", 151), (RX4, 154, "notes", 152), (RX4, 156, "weight", 153), (RX10, 155, "notion word place tie hearer weight lack add borrow long notes ", 154)]
def pZZ (ad : Nat → Nat → Nat) (adV : Nat → Nat) (A : Nat → Prop) (U : State) : Prop := pZt 12 lenT Tx (fun i => ad (143 + i) 0) adV A U ∧ ∀ q ∈ strT, vk_R q.1 q.2.1 q.2.2.1 (ad q.2.2.2 0) U
theorem sx_chk : (sxN.all fun q => strT.any fun r => decide (r.1 = cn q.1) && decide (r.2.1 = q.2.1) && decide (r.2.2.2 = q.2.2)) = true := by decide +kernel
theorem sx_in {oc i a : Nat} (h : (oc, i, a) ∈ sxN) : ∃ tx, (cn oc, i, tx, a) ∈ strT := by
  have h1 := List.all_eq_true.mp sx_chk _ h
  obtain ⟨r, hr, h2⟩ := List.any_eq_true.mp h1
  simp only [Bool.and_eq_true, decide_eq_true_eq] at h2
  obtain ⟨r1, r2, r3, r4⟩ := r
  obtain ⟨⟨rfl, rfl⟩, rfl⟩ := h2
  exact ⟨r3, hr⟩
def syT : List (Nat × Nat × Nat × Nat) := [(4, 158, 0, 528), (4, 162, 1, 538), (10, 157, 0, 1392), (10, 163, 1, 1393)]
theorem sy_chk : (syN.all fun q => syT.any fun r => decide ((r.1, r.2.1, r.2.2.1) = q) && hasW r.2.2.2 (Cond.methodLink (cn q.1) q.2.1 (if q.2.2 = 0 then yJ0_length_8abf5 else yJ0_charAt_5068e))) = true := by decide +kernel
theorem sy_in {oc i b : Nat} (h : (oc, i, b) ∈ syN) : Cond.methodLink (cn oc) i (if b = 0 then yJ0_length_8abf5 else yJ0_charAt_5068e) ∈ tg := by
  have h1 := List.all_eq_true.mp sy_chk _ h
  obtain ⟨r, hr, h2⟩ := List.any_eq_true.mp h1
  rw [Bool.and_eq_true] at h2
  exact hasW_in h2.2
theorem tx_sh : (((List.range Sh.length).zip Sh).all fun q => decide (q.2.1 = 6 → q.1 = 143 + q.2.2.1 ∧ q.2.2.1 < 12)) = true := by decide +kernel
theorem tx_at {k m : Nat} {fs : List Nat} (h : Sh[k]? = some (6, m, fs)) : k = 143 + m ∧ m < 12 := by
  have hl : k < Sh.length := (List.getElem?_eq_some_iff.mp h).1
  have h1 := List.all_eq_true.mp tx_sh (k, (6, m, fs)) (List.mem_of_getElem? (i := k) (by rw [List.getElem?_zip_eq_some]; exact ⟨by rw [List.getElem?_range hl], h⟩))
  exact of_decide_eq_true h1 rfl
theorem tx_lenc : (((List.range 12).zip Tx).all fun q => decide (lenT.getD q.1 0 = q.2.length ∧ q.2.length < 2 ^ 31) && q.2.all fun b => decide (b &&& 255 = b)) = true := by decide +kernel
theorem tx_len_at {m : Nat} {t : List Int32} (hm : m < 12) (h : Tx[m]? = some t) : lenT.getD m 0 = t.length ∧ t.length < 2 ^ 31 ∧ Tx.getD m [] = t ∧ ∀ b ∈ t, b &&& 255 = b := by
  have h1 := List.all_eq_true.mp tx_lenc (m, t) (List.mem_of_getElem? (i := m) (by rw [List.getElem?_zip_eq_some]; exact ⟨by rw [List.getElem?_range hm], h⟩))
  rw [Bool.and_eq_true] at h1
  have h2 := of_decide_eq_true h1.1
  exact ⟨h2.1, h2.2, by rw [List.getD_eq_getElem?_getD, h]; rfl, fun b hb => of_decide_eq_true (List.all_eq_true.mp h1.2 b hb)⟩
theorem pZZ.moved {ad : Nat → Nat → Nat} {adV : Nat → Nat} {A : Nat → Prop} {s U : State} (hW : s.WarmedH U.vm) (hk : ∀ q : Nat, q < s.heap.size → ¬ A q → U.heap[q]? = s.heap[q]?) (h : pZZ ad adV A s) : pZZ ad adV A U :=
  ⟨h.1.moved hW.alike hk, fun q hq => (h.2 q hq).warm hW⟩
theorem pZZ.calling {ad : Nat → Nat → Nat} {adV : Nat → Nat} {A : Nat → Prop} (U : State) (g : JFrame) (mk : MethodId) (a : Array Value) (h : pZZ ad adV A U) : pZZ ad adV A (U.calling g mk a) :=
  ⟨pZt.moved (s := U) (U := U.calling g mk a) (Vm.Alike.refl U.vm) (fun _ _ _ => rfl) h.1, fun q hq => (h.2 q hq).same rfl⟩
set_option maxHeartbeats 4000000 in
theorem tx_rule {l : Launch} {ad : Nat → Nat → Nat} {un : Nat} {cA : Nat → ClassId} {dg : va_G} {A : Nat → Prop} {adV : Nat → Nat} : ∀ (p : Program) (e : Env) (d : Nat) (s : State) (m : MethodId) (args : Array Value) (below : List Frame) (meth : Method) (c : Code) (Q : State → Prop) (nL : Nat) (cc : ByteArray) (own : String) (pc : Nat) (x : pX), p.tables.exec = Jvm.exec → c.code = cc → c.maxLocals = nL → s.vm.findClass own = some m.cls → (∀ w ∈ tg, w.before args s = true) → va_K dg vwCl (pTys cA) s → pZZ ad adV A s → decode cc pc = .ok (x.1, pLen x.1 x.2.2.1) → pXsS own x → pStr p l e (pRoom d) s m args below meth c Q Sh ad un cA dg A s.heap nL cc Tx pc x := by
  intro p e d s m args below meth c Q nL cc own pc x hx hb hml hown hw hK hz hdec hX
  obtain ⟨ins, a, b, c', w, gk, z⟩ := x
  cases ins with
  | ldc i =>
    intro hb0 L st σ kk H locs ls hW hS hL
    obtain ⟨oc, rfl, hin⟩ := hX hb0
    obtain ⟨tx, htx⟩ := sx_in hin
    exact va_ldcS hx hb hown (hz.2 _ htx) hdec (kk H locs ls hW hS hL)
  | invokevirtual i =>
    intro hc0
    obtain ⟨oc, rfl, hin⟩ := hX hc0
    have hlk := sy_in hin
    refine ⟨fun hb0 L r σ k n fs t hq ht hr kk H locs ls hW hS hL => ?_, fun hb0 L r σ k n fs t i2 hq ht hr hvp kk H locs ls hW hS hL => ?_⟩
    · obtain ⟨rfl, hn⟩ := tx_at hq
      obtain ⟨h1, h2, h3, -⟩ := tx_len_at hn ht
      have hrest := Rm_sum (ad := ad) hr
      have hcon := tx_len (l := l) (A := A) (adK := fun i => ad (143 + i) 0) (adV := adV) (len := lenT) (byt := Tx) hn
      rw [h1] at hcon
      rw [if_pos hb0] at hlk
      refine t_call (r := some (.int (nI t.length))) (va_runV (As := []) (rest := r.map (rv ad)) (b := ad (143 + n) 0) (C := "java/lang/String") ⟨hx, hb, hml, hown, hw⟩ hcon (cwV 0 hw (tx_good _ (fun w hq => ?_)) rfl rfl rfl (by decide +kernel) ⟨?_, ?_⟩) ⟨fun a U g mk q => ⟨q.1, pZt.moved (s := U) (U := U.calling g mk a) (Vm.Alike.refl U.vm) (fun _ _ _ => rfl) q.2⟩, vk_recv (adK := fun i => ad (143 + i) 0) (i := n) hz.1.2.2 hn hS, fun U hU hWm => ⟨rfl, pZt.moved hWm.alike (fun q h1 h2 => by rw [hU]; exact hS.2.1 q h1 h2) hz.1⟩⟩ rfl rfl hL.1 rfl (lv_room hrest) hdec ⟨Nat.le_refl _, Nat.le_refl _⟩) hS (fun locs1 hS1 => ?_)
      · unfold wsV at hq
        simp only [List.cons_append, List.nil_append, List.mem_cons] at hq
        rcases hq with rfl | rfl | rfl | rfl | rfl | h5
        · exact hlk
        · exact hasW_in (i := 529) (by decide +kernel)
        · exact hasW_in (i := 530) (by decide +kernel)
        · exact hasW_in (i := 93) (by decide +kernel)
        · exact cd_J0_length_8abf5
        · exact h5
      · show 1 + 1 ≤ d + 8
        omega
      · show 8 + (1 + 11) + 40 * 1 ≤ 64 * (d + 8)
        omega
      · exact kk H locs1 ls hW hS1 hL
    · obtain ⟨rfl, hn⟩ := tx_at hq
      obtain ⟨h1, h2, h3, h4⟩ := tx_len_at hn ht
      have hrest := Rm_sum (ad := ad) hr
      have hcon := tx_char (l := l) (A := A) (adK := fun i => ad (143 + i) 0) (adV := adV) (len := lenT) (byt := Tx) hn (x := i2) (by rw [h1]; exact hvp) (by rw [h1]; exact h2)
      have hlt : i2.toNatClampNeg < t.length := Nat.not_le.mp fun q => hvp (Or.inr q)
      have hch : (Tx.getD n []).getD i2.toNatClampNeg 0 &&& 255 = t.getD i2.toNatClampNeg 0 := by
        rw [h3]
        refine h4 _ ?_
        rw [List.getD_eq_getElem?_getD, List.getElem?_eq_getElem hlt]
        exact List.getElem_mem hlt
      rw [hch] at hcon
      rw [if_neg hb0] at hlk
      refine t_call (r := some (.int (t.getD i2.toNatClampNeg 0))) (va_runV (As := [.int i2]) (rest := r.map (rv ad)) (b := ad (143 + n) 0) (C := "java/lang/String") ⟨hx, hb, hml, hown, hw⟩ hcon (cwV 1 hw (tx_good _ (fun w hq => ?_)) rfl rfl rfl (by decide +kernel) ⟨?_, ?_⟩) ⟨fun a U g mk q => ⟨q.1, pZt.moved (s := U) (U := U.calling g mk a) (Vm.Alike.refl U.vm) (fun _ _ _ => rfl) q.2⟩, vk_recv (adK := fun i => ad (143 + i) 0) (i := n) hz.1.2.2 hn hS, fun U hU hWm => ⟨rfl, pZt.moved hWm.alike (fun q h1 h2 => by rw [hU]; exact hS.2.1 q h1 h2) hz.1⟩⟩ rfl rfl hL.1 rfl (lv_room hrest) hdec ⟨Nat.le_refl _, Nat.le_refl _⟩) hS (fun locs1 hS1 => ?_)
      · unfold wsV at hq
        simp only [List.cons_append, List.nil_append, List.mem_cons] at hq
        rcases hq with rfl | rfl | rfl | rfl | rfl | h5
        · exact hlk
        · exact hasW_in (i := 539) (by decide +kernel)
        · exact hasW_in (i := 540) (by decide +kernel)
        · exact hasW_in (i := 93) (by decide +kernel)
        · exact cd_J0_charAt_5068e
        · exact h5
      · show 3 + 1 ≤ d + 8
        omega
      · show 8 + (2 + 11) + 40 * 3 ≤ 64 * (d + 8)
        omega
      · exact kk H locs1 ls hW hS1 hL
  | _ => exact trivial
/-- ALL that the runs need, but where the cells lie -/
theorem tg_all {l : Launch} {ad : Nat → Nat → Nat} {un : Nat} {cA : Nat → ClassId} {dg : va_G} {A : Nat → Prop} {adV : Nat → Nat} (hJ : pAp Sh ad un cA A) : pAll l Sh Pr Tx Inf tg ad un cA dg A (pZZ ad adV A) pXsS :=
  ⟨tg_good, tg_cl, sh_ok, hJ, tg_prim, tg_pok, fun _ _ hW _ hk h => h.moved hW hk, fun U g mk a h => h.calling U g mk a, tx_rule⟩
