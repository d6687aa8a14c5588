theorem six_lt : ∀ L i : Nat, L ≤ 3072 → i ≤ 4000 → (nI L - 6 < nI i ↔ L < i + 6) := by
  intro L i hL hi
  by_cases h : 6 ≤ L
  · obtain ⟨k, rfl⟩ : ∃ k, L = k + 6 := ⟨L - 6, by omega⟩
    have e : nI (k + 6) - 6 = nI k := by
      rw [← nI_add k 6]
      exact Int32.add_sub_cancel _ _
    rw [e, nI_ltI (by omega) (by omega)]
    omega
  · have : L = 0 ∨ L = 1 ∨ L = 2 ∨ L = 3 ∨ L = 4 ∨ L = 5 := by omega
    have hn : ∀ j : Nat, j < 6 → (nI j - 6).toInt < 0 := by decide
    have h1 := hn L (by omega)
    rw [Int32.lt_iff_toInt_lt, nI_toInt (n := i) (by omega)]
    omega
section LOOP9
variable {p : Program} {l : Launch} {e : Env} {s : State} {m : MethodId} {below : List Frame} {meth : Method} {c : Code} {b L : Nat} {xs : Nat → Int32} {ad : Nat → Nat → Nat} {un : Nat} {cA : Nat → ClassId} {dg : va_G} {adV : Nat → Nat} {cells slots : Nat}
theorem la_loop (C : LC p s m c b L xs ad un cA dg adV) (hr : meth.sig.returnType = ret) (hlocks : meth.locks = false) (hcs : cells ≤ 600000 ∧ slots ≤ 7302250) : ∀ (n i : Nat) (σ : pSt) (H : Heap) (locs : List Loc) (ls : Array Slot), L + 6 - i ≤ n → i ≤ L + 6 → Inv σ.1 → pWo Sh ad un cA dg σ H → va_S (fun q => s.heap.size ≤ q) s.heap H locs → lv_has ls 4 (la_lv ad b i) → W p l e room_1 s m #[Value.ref b] below meth c H locs cells slots (lw_Z below #[Value.ref b] s) (F0 m 18 ls []) := by
  obtain ⟨hx, hb, hml, hown, hts, hJ, hK, hZ, hX, hbl, hL⟩ := id C
  intro n
  induction n with
  | zero =>
    intro i σ H locs ls hn hi hI hW hS hl
    refine lv_iload_n hx hb dL_18 rfl (lv_at hl 3 rfl) ?_
    refine lv_aload_n hx hb dL_19 rfl (lv_at hl 0 rfl) ?_
    refine va_slen hx hb hX hbl (Nat.not_le.mpr hbl) hS dL_20 ?_
    refine lv_bipush (v := 6) hx hb dL_21 (by decide) ?_
    refine lv_isub hx hb dL_23 ?_
    refine lv_icmp_gt (tgt := 1441) hx hb dL_24 (by decide) (fun _ => ?_) (fun q => absurd ((six_lt L i hL (by omega)).mpr (by omega)) q)
    refine lv_iconst (v := 1) hx hb dL_1441 (by decide) ?_
    refine va_forget hS.2.2 ?_
    refine W.widen hcs.1 hcs.2 ?_
    exact lw_ret hx hb hr hlocks dL_1442
  | succ n ih =>
    intro i σ H locs ls hn hi hI hW hS hl
    refine lv_iload_n hx hb dL_18 rfl (lv_at hl 3 rfl) ?_
    refine lv_aload_n hx hb dL_19 rfl (lv_at hl 0 rfl) ?_
    refine va_slen hx hb hX hbl (Nat.not_le.mpr hbl) hS dL_20 ?_
    refine lv_bipush (v := 6) hx hb dL_21 (by decide) ?_
    refine lv_isub hx hb dL_23 ?_
    refine lv_icmp_gt (tgt := 1441) hx hb dL_24 (by decide) (fun _ => ?_) (fun q => ?_)
    · refine lv_iconst (v := 1) hx hb dL_1441 (by decide) ?_
      refine va_forget hS.2.2 ?_
      refine W.widen hcs.1 hcs.2 ?_
      exact lw_ret hx hb hr hlocks dL_1442
    · have h6 : i + 6 ≤ L := by
        have q2 : ¬ L < i + 6 := fun z => q ((six_lt L i hL (by omega)).mpr z)
        omega
      refine lv_aload_n hx hb dL_27 rfl (lv_at hl 0 rfl) ?_
      refine lv_iload_n hx hb dL_28 rfl (lv_at hl 3 rfl) ?_
      refine va_sld hx hb hX hbl (Nat.not_le.mpr hbl) hS (vp_in_nI (show i < L by omega) (by omega)) dL_29 ?_
      refine lv_bipush (v := 63) hx hb dL_30 (by decide) ?_
      refine lv_iand hx hb dL_32 ?_
      obtain ⟨k, hk, ek⟩ := pk_andE (xs (nI i).toNatClampNeg) (m := 63) 6 (by decide)
      rw [ek]
      have next : ∀ (σ' : pSt) (H' : Heap) (locs' : List Loc), Inv σ'.1 → pWo Sh ad un cA dg σ' H' → va_S (fun q => s.heap.size ≤ q) s.heap H' locs' → W p l e room_1 s m #[Value.ref b] below meth c H' locs' cells slots (lw_Z below #[Value.ref b] s) (F0 m 1435 ls []) := by
        intro σ' H' locs' hI' hW' hS'
        refine lv_iinc (v := nI (i + 6)) (lv' := [(3, .int (nI (i + 6))), (0, .ref b), (1, .ref (ad 0 0)), (2, .ref (ad 100 0))]) hx hb dL_1435 hl (k := 3) rfl (nI_add i 6) (by decide) rfl (fun ls hl => ?_)
        refine lv_goto (tgt := 18) hx hb dL_1438 (by decide) ?_
        exact ih (i + 6) σ' H' locs' ls (by omega) (by omega) hI' hW' hS' (lv_sub hl [1, 2, 3, 0] rfl)
      by_cases h40 : 40 < k
      · refine lv_tableOut (tgt := 1435) hx hb dL_33 (Or.inr ?_) (by decide) ?_
        · rw [nI_toInt (by omega)]
          omega
        · exact next σ H locs hI hW hS
      · have : k = 0 ∨ k = 1 ∨ k = 2 ∨ k = 3 ∨ k = 4 ∨ k = 5 ∨ k = 6 ∨ k = 7 ∨ k = 8 ∨ k = 9 ∨ k = 10 ∨ k = 11 ∨ k = 12 ∨ k = 13 ∨ k = 14 ∨ k = 15 ∨ k = 16 ∨ k = 17 ∨ k = 18 ∨ k = 19 ∨ k = 20 ∨ k = 21 ∨ k = 22 ∨ k = 23 ∨ k = 24 ∨ k = 25 ∨ k = 26 ∨ k = 27 ∨ k = 28 ∨ k = 29 ∨ k = 30 ∨ k = 31 ∨ k = 32 ∨ k = 33 ∨ k = 34 ∨ k = 35 ∨ k = 36 ∨ k = 37 ∨ k = 38 ∨ k = 39 ∨ k = 40 := by omega
        rcases this with rfl | rfl | rfl | rfl | rfl | rfl | rfl | rfl | rfl | rfl | rfl | rfl | rfl | rfl | rfl | rfl | rfl | rfl | rfl | rfl | rfl | rfl | rfl | rfl | rfl | rfl | rfl | rfl | rfl | rfl | rfl | rfl | rfl | rfl | rfl | rfl | rfl | rfl | rfl | rfl | rfl
        · exact lv_tableIn (off := 179) (tgt := 212) hx hb dL_33 (by decide) (by decide) rfl (by decide) (la_c0 C h6 hl hcs hI hW hS next)
        · exact lv_tableIn (off := 242) (tgt := 275) hx hb dL_33 (by decide) (by decide) rfl (by decide) (la_c1 C h6 hl hcs hI hW hS next)
        · exact lv_tableIn (off := 265) (tgt := 298) hx hb dL_33 (by decide) (by decide) rfl (by decide) (la_c2 C h6 hl hcs hI hW hS next)
        · exact lv_tableIn (off := 278) (tgt := 311) hx hb dL_33 (by decide) (by decide) rfl (by decide) (la_c3 C h6 hl hcs hI hW hS next)
        · exact lv_tableIn (off := 301) (tgt := 334) hx hb dL_33 (by decide) (by decide) rfl (by decide) (la_c4 C h6 hl hcs hI hW hS next)
        · exact lv_tableIn (off := 324) (tgt := 357) hx hb dL_33 (by decide) (by decide) rfl (by decide) (la_c5 C h6 hl hcs hI hW hS next)
        · exact lv_tableIn (off := 357) (tgt := 390) hx hb dL_33 (by decide) (by decide) rfl (by decide) (la_c6 C h6 hl hcs hI hW hS next)
        · exact lv_tableIn (off := 380) (tgt := 413) hx hb dL_33 (by decide) (by decide) rfl (by decide) (la_c7 C h6 hl hcs hI hW hS next)
        · exact lv_tableIn (off := 443) (tgt := 476) hx hb dL_33 (by decide) (by decide) rfl (by decide) (la_c8 C h6 hl hcs hI hW hS next)
        · exact lv_tableIn (off := 466) (tgt := 499) hx hb dL_33 (by decide) (by decide) rfl (by decide) (la_c9 C h6 hl hcs hI hW hS next)
        · exact lv_tableIn (off := 499) (tgt := 532) hx hb dL_33 (by decide) (by decide) rfl (by decide) (la_c10 C h6 hl hcs hI hW hS next)
        · exact lv_tableIn (off := 532) (tgt := 565) hx hb dL_33 (by decide) (by decide) rfl (by decide) (la_c11 C h6 hl hcs hI hW hS next)
        · exact lv_tableIn (off := 565) (tgt := 598) hx hb dL_33 (by decide) (by decide) rfl (by decide) (la_c12 C h6 hl hcs hI hW hS next)
        · exact lv_tableIn (off := 578) (tgt := 611) hx hb dL_33 (by decide) (by decide) rfl (by decide) (la_c13 C h6 hl hcs hI hW hS next)
        · exact lv_tableIn (off := 591) (tgt := 624) hx hb dL_33 (by decide) (by decide) rfl (by decide) (la_c14 C h6 hl hcs hI hW hS next)
        · exact lv_tableIn (off := 614) (tgt := 647) hx hb dL_33 (by decide) (by decide) rfl (by decide) (la_c15 C h6 hl hcs hI hW hS next)
        · exact lv_tableIn (off := 637) (tgt := 670) hx hb dL_33 (by decide) (by decide) rfl (by decide) (la_c16 C h6 hl hcs hI hW hS next)
        · exact lv_tableIn (off := 650) (tgt := 683) hx hb dL_33 (by decide) (by decide) rfl (by decide) (la_c17 C h6 hl hcs hI hW hS next)
        · exact lv_tableIn (off := 673) (tgt := 706) hx hb dL_33 (by decide) (by decide) rfl (by decide) (la_c18 C h6 hl hcs hI hW hS next)
        · exact lv_tableIn (off := 696) (tgt := 729) hx hb dL_33 (by decide) (by decide) rfl (by decide) (la_c19 C h6 hl hcs hI hW hS next)
        · exact lv_tableIn (off := 719) (tgt := 752) hx hb dL_33 (by decide) (by decide) rfl (by decide) (la_c20 C h6 hl hcs hI hW hS next)
        · exact lv_tableIn (off := 742) (tgt := 775) hx hb dL_33 (by decide) (by decide) rfl (by decide) (la_c21 C h6 hl hcs hI hW hS next)
        · exact lv_tableIn (off := 775) (tgt := 808) hx hb dL_33 (by decide) (by decide) rfl (by decide) (la_c22 C h6 hl hcs hI hW hS next)
        · exact lv_tableIn (off := 808) (tgt := 841) hx hb dL_33 (by decide) (by decide) rfl (by decide) (la_c23 C h6 hl hcs hI hW hS next)
        · exact lv_tableIn (off := 841) (tgt := 874) hx hb dL_33 (by decide) (by decide) rfl (by decide) (la_c24 C h6 hl hcs hI hW hS next)
        · exact lv_tableIn (off := 864) (tgt := 897) hx hb dL_33 (by decide) (by decide) rfl (by decide) (la_c25 C h6 hl hcs hI hW hS next)
        · exact lv_tableIn (off := 907) (tgt := 940) hx hb dL_33 (by decide) (by decide) rfl (by decide) (la_c26 C h6 hl hcs hI hW hS next)
        · exact lv_tableIn (off := 930) (tgt := 963) hx hb dL_33 (by decide) (by decide) rfl (by decide) (la_c27 C h6 hl hcs hI hW hS next)
        · exact lv_tableIn (off := 953) (tgt := 986) hx hb dL_33 (by decide) (by decide) rfl (by decide) (la_c28 C h6 hl hcs hI hW hS next)
        · exact lv_tableIn (off := 996) (tgt := 1029) hx hb dL_33 (by decide) (by decide) rfl (by decide) (la_c29 C h6 hl hcs hI hW hS next)
        · exact lv_tableIn (off := 1049) (tgt := 1082) hx hb dL_33 (by decide) (by decide) rfl (by decide) (la_c30 C h6 hl hcs hI hW hS next)
        · exact lv_tableIn (off := 1072) (tgt := 1105) hx hb dL_33 (by decide) (by decide) rfl (by decide) (la_c31 C h6 hl hcs hI hW hS next)
        · exact lv_tableIn (off := 1115) (tgt := 1148) hx hb dL_33 (by decide) (by decide) rfl (by decide) (la_c32 C h6 hl hcs hI hW hS next)
        · exact lv_tableIn (off := 1138) (tgt := 1171) hx hb dL_33 (by decide) (by decide) rfl (by decide) (la_c33 C h6 hl hcs hI hW hS next)
        · exact lv_tableIn (off := 1161) (tgt := 1194) hx hb dL_33 (by decide) (by decide) rfl (by decide) (la_c34 C h6 hl hcs hI hW hS next)
        · exact lv_tableIn (off := 1184) (tgt := 1217) hx hb dL_33 (by decide) (by decide) rfl (by decide) (la_c35 C h6 hl hcs hI hW hS next)
        · exact lv_tableIn (off := 1237) (tgt := 1270) hx hb dL_33 (by decide) (by decide) rfl (by decide) (la_c36 C h6 hl hcs hI hW hS next)
        · exact lv_tableIn (off := 1280) (tgt := 1313) hx hb dL_33 (by decide) (by decide) rfl (by decide) (la_c37 C h6 hl hcs hI hW hS next)
        · exact lv_tableIn (off := 1313) (tgt := 1346) hx hb dL_33 (by decide) (by decide) rfl (by decide) (la_c38 C h6 hl hcs hI hW hS next)
        · exact lv_tableIn (off := 1356) (tgt := 1389) hx hb dL_33 (by decide) (by decide) rfl (by decide) (la_c39 C h6 hl hcs hI hW hS next)
        · exact lv_tableIn (off := 1379) (tgt := 1412) hx hb dL_33 (by decide) (by decide) rfl (by decide) (la_c40 C h6 hl hcs hI hW hS next)
end LOOP9
