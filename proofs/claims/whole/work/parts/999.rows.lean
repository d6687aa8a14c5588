/-! CONSTRUCTORS: a grid; shapes checked -/
theorem hw_az : Cond.arrayClass (newarray.typeOf (atT 2)) ∈ tg := hasW_in (i := 361) (by decide +kernel)
theorem hw_al : Cond.arrayClass (newarray.typeOf (atT 3)) ∈ tg := hasW_in (i := 1357) (by decide +kernel)
theorem sh_of {S : List pSh} (h : S.all shC = true) : pShOk S := by
  intro k ci n fs C T N hk hc b c hb
  have h1 := List.all_eq_true.mp h _ (List.mem_of_getElem? hk)
  have hci : ci < 11 := (List.getElem?_eq_some_iff.mp hc).1
  have h2 := List.all_eq_true.mp h1 ci (List.mem_range.mpr hci)
  rw [if_pos rfl, hc] at h2
  have hbl : b < fs.length := (List.getElem?_eq_some_iff.mp hb).1
  have h3 := List.all_eq_true.mp h2 (b, c) (List.mem_of_getElem? (i := b) (by rw [List.getElem?_zip_eq_some]; exact ⟨by rw [List.getElem?_range hbl], hb⟩))
  exact codeC_ok h3
theorem no_of {S : List pSh} (h : (S.all fun q => !(Nat.beq q.1 6)) = true) : noTx S := by
  intro k q hq e
  have h1 := List.all_eq_true.mp h _ (List.mem_of_getElem? hq)
  rw [e] at h1
  cases h1
section MULB
variable {p : Program} {l : Launch} {e : Env} {R : Room} {s : State} {m : MethodId} {args : Array Value} {below : List Frame} {meth : Method} {c : Code} {Q : State → Prop} {S : List pSh} {base : Nat} {adK : Nat → Nat} {un : Nat} {cA : Nat → ClassId} {dg : va_G} {adV : Nat → Nat} {H H0 : Heap} {locs : List Loc} {cells slots pc : Nat} {ls : Array Slot} {rest : List Value} {cc : ByteArray} {σ : pSt}
theorem w_mulB {own : String} (G : kG p s m args c cc own cA dg) (hov : (Cond.arrayOver (.array .int)).before #[] s = true) {N M index : Nat} (hcl : Cond.classLink own index ("[" ++ (FieldType.array .int).toString) ∈ tg) (hN : N < 100000) (hM : M < 100000) (hl : S.length < 143) (hr : rws S.length = N) (hcells : cells + (1 + N) ≤ R.cells) (hslots : slots + (N + N * M) ≤ R.slots) (hdg : decode cc pc = .ok (.multianewarray index 2, 4)) (hW : wB base adK un cA dg S σ H) (hS : va_S (fun q => base ≤ q) H0 H locs)
    (kk : ∀ (H1 : Heap) (locs1 : List Loc), wB base adK un cA dg (S ++ [(5, N, [M])]) σ H1 → va_S (fun q => base ≤ q) H0 H1 locs1 → W p l e R s m args below meth c H1 locs1 (cells + 1 + N) (slots + N + N * M) Q (F0 m (pc + 4) ls (.ref (adB base adK S.length 0) :: rest))) : W p l e R s m args below meth c H locs cells slots Q (F0 m pc ls (.int (nI M) :: .int (nI N) :: rest)) := by
  obtain ⟨hx, hb, hts, hown, hK⟩ := G
  obtain ⟨w1, w2, w3, w4⟩ := hW
  refine mw_W hx hb hown (hts _ hcl) hov (hts _ hw_ai) hN hM hcells hslots hdg fun cO cI H1 L f1 f2 z1 o1 e1 e2 hL => ?_
  have had : ∀ j, adB base adK S.length j = H.size + j := fun j => by rw [adB_at hl, w2]
  have hO : cO = cA 5 := Option.some.inj (f1.symm.trans (hK.2 5 _ rfl).2)
  have hI : cI = cA 0 := Option.some.inj (f2.symm.trans (hK.2 0 _ rfl).2)
  subst hO
  subst hI
  have e0 : H.size = adB base adK S.length 0 := (had 0).symm
  have z := w3 S.length (Nat.le_refl _)
  rw [e0]
  refine kk H1 _ ⟨w1.push o1 fun j ee hj => ?_, by rw [z1, w2, List.length_append, List.length_singleton, offs_s, hr]; omega, ?_, w4.push hl (fun _ => by rw [hr]; exact Nat.le_refl _)⟩ ⟨Nat.le_trans hS.1 (by omega), fun q h1 h2 => (o1 q (Nat.lt_of_lt_of_le h1 hS.1)).trans (hS.2.1 q h1 h2), fun q hq => ?_⟩
  · cases j with
    | zero =>
      cases hj
      show H1[_]? = some (vp_cell _ _)
      rw [← e0, e1, vp_cell_q]
      congr 2
      funext i
      show Value.ref (H.size + 1 + i) = Value.ref (adB base adK S.length (i + 1))
      rw [had, Nat.add_assoc, Nat.add_comm 1 i]
    | succ j =>
      have hj2 : (if j < N then some (Sum.inl (cA 0, M, Sum.inl (σ.1 S.length (j + 1)))) else none : Option va_E) = some ee := hj
      by_cases hjN : j < N
      · rw [if_pos hjN] at hj2
        cases hj2
        show H1[_]? = some (vp_cell _ _)
        rw [had, show H.size + (j + 1) = H.size + 1 + j by omega, e2 j hjN, vp_cell_i, z.1 (j + 1)]
      · rw [if_neg hjN] at hj2
        cases hj2
  · rw [List.length_append, List.length_singleton]
    exact w3.up (Nat.le_succ _)
  · rcases List.mem_append.mp hq with h | h
    · exact hS.2.2 q h
    · show base ≤ q.base
      rw [hL q h, w2]
      omega
end MULB
