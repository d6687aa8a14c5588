theorem kX5_0 : decode cX5_init 0 = .ok (.aload_n 0, 1) := by decide +kernel
theorem kX5_1 : decode cX5_init 1 = .ok (.invokespecial 3, 3) := by decide +kernel
theorem kX5_4 : decode cX5_init 4 = .ok (.aload_n 0, 1) := by decide +kernel
theorem kX5_5 : decode cX5_init 5 = .ok (.bipush 24, 2) := by decide +kernel
theorem kX5_7 : decode cX5_init 7 = .ok (.newarray .int, 2) := by decide +kernel
theorem kX5_9 : decode cX5_init 9 = .ok (.putfield 9, 3) := by decide +kernel
theorem kX5_12 : decode cX5_init 12 = .ok (.aload_n 0, 1) := by decide +kernel
theorem kX5_13 : decode cX5_init 13 = .ok (.bipush 24, 2) := by decide +kernel
theorem kX5_15 : decode cX5_init 15 = .ok (.newarray .int, 2) := by decide +kernel
theorem kX5_17 : decode cX5_init 17 = .ok (.putfield 15, 3) := by decide +kernel
theorem kX5_20 : decode cX5_init 20 = .ok (.aload_n 0, 1) := by decide +kernel
theorem kX5_21 : decode cX5_init 21 = .ok (.bipush 24, 2) := by decide +kernel
theorem kX5_23 : decode cX5_init 23 = .ok (.newarray .int, 2) := by decide +kernel
theorem kX5_25 : decode cX5_init 25 = .ok (.putfield 18, 3) := by decide +kernel
theorem kX5_28 : decode cX5_init 28 = .ok (.aload_n 0, 1) := by decide +kernel
theorem kX5_29 : decode cX5_init 29 = .ok (.bipush 24, 2) := by decide +kernel
theorem kX5_31 : decode cX5_init 31 = .ok (.newarray .int, 2) := by decide +kernel
theorem kX5_33 : decode cX5_init 33 = .ok (.putfield 21, 3) := by decide +kernel
theorem kX5_36 : decode cX5_init 36 = .ok (.aload_n 0, 1) := by decide +kernel
theorem kX5_37 : decode cX5_init 37 = .ok (.bipush 24, 2) := by decide +kernel
theorem kX5_39 : decode cX5_init 39 = .ok (.newarray .int, 2) := by decide +kernel
theorem kX5_41 : decode cX5_init 41 = .ok (.putfield 24, 3) := by decide +kernel
theorem kX5_44 : decode cX5_init 44 = .ok (.aload_n 0, 1) := by decide +kernel
theorem kX5_45 : decode cX5_init 45 = .ok (.aload_n 1, 1) := by decide +kernel
theorem kX5_46 : decode cX5_init 46 = .ok (.putfield 27, 3) := by decide +kernel
theorem kX5_49 : decode cX5_init 49 = .ok (.aload_n 0, 1) := by decide +kernel
theorem kX5_50 : decode cX5_init 50 = .ok (.invokevirtual 31, 3) := by decide +kernel
theorem kX5_53 : decode cX5_init 53 = .ok (.return_, 1) := by decide +kernel
abbrev shRendering (n : Nat) : List Nat := [3 + 2 * 3, 3 + 2 * (n + 1), 3 + 2 * (n + 2), 3 + 2 * (n + 3), 3 + 2 * (n + 4), 3 + 2 * (n + 5)]
abbrev puRendering : List (Nat × Int32) := [(1, 1), (2, 1), (3, 1), (4, 1), (5, 1), (0, 1)]
abbrev sfRendering (S : List pSh) (n : Nat) : List pSh := ((((((S ++ [(12, 0, (shRendering n).map opn)]) ++ [(0, 24, [])]) ++ [(0, 24, [])]) ++ [(0, 24, [])]) ++ [(0, 24, [])]) ++ [(0, 24, [])]).set n (12, 0, shRendering n)
set_option maxHeartbeats 8000000 in
set_option maxRecDepth 100000 in
theorem k_Rendering (l : Launch) {base : Nat} {adK : Nat → Nat} {un : Nat} {cA : Nat → ClassId} {dg : va_G} {adV : Nat → Nat} (S : List pSh) (n : Nat) (hSn : S.length = n) (σ : pSt) (hn : n + 6 ≤ 143) (hr1 : rws (n + 1) = 0) (hr2 : rws (n + 2) = 0) (hr3 : rws (n + 3) = 0) (hr4 : rws (n + 4) = 0) (hr5 : rws (n + 5) = 0) (D0 : pD) (hno : noTx (sfRendering S n)) (hsh : pShOk (sfRendering S n)) (hev0 : ev (sfRendering S n) Pr Tx 56 1 0 (pL0 [.inr (.inr (n, 0))]) [] (dsl σ.1 n puRendering, σ.2) = some (none, (D0, σ.2))) (hz0 : zB (sfRendering S n).length (D0, σ.2)) (hoff : offs (n + 6) = offs (n + 1) + 5) : Met l yX5_init (Cond.code yX5_init cX5_init 2 none :: tg) { frames := 12, cells := 5, slots := 120, locals := 1000 } (kPz base adK un cA dg adV [.ref (adB base adK n 0), .ref (adB base adK 3 0)] (S ++ [(12, 0, (shRendering n).map opn)]) σ) (kQc base adK un cA dg (sfRendering S n) (D0, σ.2)) 5 120 (fun q => base ≤ q) := by
  refine Met.ofW (cc := cX5_init) (maxL := 2) (ret := none) (by decide) rfl ?_
  intro p e s m args below meth c s₁ B hml hv
  obtain ⟨rfl, hW, hK, hZ⟩ := hv
  have hx := B.exec
  have hb := B.bytes
  have hr := B.returns
  have hts0 := atoms_spec (ws := Cond.code yX5_init cX5_init 2 none :: tg) B.pre
  have hts : ∀ w ∈ tg, w.before _ s = true := fun w h => hts0 w (List.mem_cons_of_mem _ h)
  have hown : s.vm.findClass RX5 = some m.cls := findClass_of_methodNamed B.named
  have hlocks := B.notSynchronized
  have F : kF p s m _ meth c cX5_init RX5 cA dg := ⟨hx, hb, hts, hown, hK, (name_of_methodNamed B.named B.method).1⟩
  have hl := lv_entry ([.ref (adB base adK n 0), .ref (adB base adK 3 0)]) (n := 2) (Nat.le_of_ble_eq_true rfl)
  rw [lg_entry_eq]
  generalize (lg_sl ([.ref (adB base adK n 0), .ref (adB base adK 3 0)]) ++ List.replicate (2 - (lg_sl ([.ref (adB base adK n 0), .ref (adB base adK 3 0)])).length) Slot.unset).toArray = ls at hl ⊢
  have hl : lv_has ls 2 [(0, .ref (adB base adK n 0)), (1, .ref (adB base adK 3 0))] := hl
  have hS : va_S (fun q => base ≤ q) s.heap s.heap [] := va_S.rf
  have hW0 := hW.2.1
  refine lv_aload_n hx hb kX5_0 rfl (lv_at hl 0 rfl) ?_
  refine W.objInit hx hb hown (hts _ (hasW_in (i := 291) (by decide +kernel))) (hts _ hw_oi) (hts _ hw_oc) rfl (by rw [hml]; exact hl.1) rfl kX5_1 (Nat.le_of_ble_eq_true rfl) (Nat.le_of_ble_eq_true rfl) ?_
  have len0 : ((S ++ [(12, 0, (shRendering n).map opn)]) : List pSh).length = n + 1 := by rw [List.length_append, hSn]; first | rfl | done
  have q0 : ((S ++ [(12, 0, (shRendering n).map opn)]) : List pSh)[n]? = some (12, 0, (shRendering n).map opn) := by rw [List.getElem?_append_right (by omega), hSn, Nat.sub_self]; rfl
  refine lv_aload_n hx hb kX5_4 rfl (lv_at hl 0 rfl) ?_
  refine lv_bipush (v := nI 24) hx hb kX5_5 (by decide) ?_
  refine w_arrF (t := 0) (n := 24) (k := n) (a := 5) (b := 1) F (by decide) (by decide) hw_ai q0 rfl (by decide) (hasW_in (i := 298) (by decide +kernel)) rfl rfl (by rw [len0, ← opn_e]; rfl) (tyX5_ok 1 (by decide)) (fun _ => rfl) (fun _ => rfl) (by rw [len0]; omega) (by rw [len0]; exact hr1) (Nat.le_of_ble_eq_true rfl) (Nat.le_of_ble_eq_true rfl) kX5_7 kX5_9 hW hS fun H locs hW hS => ?_
  have len1 : (((S ++ [(12, 0, (shRendering n).map opn)]) ++ [(0, 24, [])]) : List pSh).length = n + 2 := by rw [List.length_append, len0]; first | rfl | done
  have q1 : (((S ++ [(12, 0, (shRendering n).map opn)]) ++ [(0, 24, [])]) : List pSh)[n]? = some (12, 0, (shRendering n).map opn) := by rw [List.getElem?_append_left (by rw [len0]; omega)]; exact q0
  refine lv_aload_n hx hb kX5_12 rfl (lv_at hl 0 rfl) ?_
  refine lv_bipush (v := nI 24) hx hb kX5_13 (by decide) ?_
  refine w_arrF (t := 0) (n := 24) (k := n) (a := 5) (b := 2) F (by decide) (by decide) hw_ai q1 rfl (by decide) (hasW_in (i := 300) (by decide +kernel)) rfl rfl (by rw [len1, ← opn_e]; rfl) (tyX5_ok 2 (by decide)) (fun _ => rfl) (fun _ => rfl) (by rw [len1]; omega) (by rw [len1]; exact hr2) (Nat.le_of_ble_eq_true rfl) (Nat.le_of_ble_eq_true rfl) kX5_15 kX5_17 hW hS fun H locs hW hS => ?_
  have len2 : ((((S ++ [(12, 0, (shRendering n).map opn)]) ++ [(0, 24, [])]) ++ [(0, 24, [])]) : List pSh).length = n + 3 := by rw [List.length_append, len1]; first | rfl | done
  have q2 : ((((S ++ [(12, 0, (shRendering n).map opn)]) ++ [(0, 24, [])]) ++ [(0, 24, [])]) : List pSh)[n]? = some (12, 0, (shRendering n).map opn) := by rw [List.getElem?_append_left (by rw [len1]; omega)]; exact q1
  refine lv_aload_n hx hb kX5_20 rfl (lv_at hl 0 rfl) ?_
  refine lv_bipush (v := nI 24) hx hb kX5_21 (by decide) ?_
  refine w_arrF (t := 0) (n := 24) (k := n) (a := 5) (b := 3) F (by decide) (by decide) hw_ai q2 rfl (by decide) (hasW_in (i := 302) (by decide +kernel)) rfl rfl (by rw [len2, ← opn_e]; rfl) (tyX5_ok 3 (by decide)) (fun _ => rfl) (fun _ => rfl) (by rw [len2]; omega) (by rw [len2]; exact hr3) (Nat.le_of_ble_eq_true rfl) (Nat.le_of_ble_eq_true rfl) kX5_23 kX5_25 hW hS fun H locs hW hS => ?_
  have len3 : (((((S ++ [(12, 0, (shRendering n).map opn)]) ++ [(0, 24, [])]) ++ [(0, 24, [])]) ++ [(0, 24, [])]) : List pSh).length = n + 4 := by rw [List.length_append, len2]; first | rfl | done
  have q3 : (((((S ++ [(12, 0, (shRendering n).map opn)]) ++ [(0, 24, [])]) ++ [(0, 24, [])]) ++ [(0, 24, [])]) : List pSh)[n]? = some (12, 0, (shRendering n).map opn) := by rw [List.getElem?_append_left (by rw [len2]; omega)]; exact q2
  refine lv_aload_n hx hb kX5_28 rfl (lv_at hl 0 rfl) ?_
  refine lv_bipush (v := nI 24) hx hb kX5_29 (by decide) ?_
  refine w_arrF (t := 0) (n := 24) (k := n) (a := 5) (b := 4) F (by decide) (by decide) hw_ai q3 rfl (by decide) (hasW_in (i := 304) (by decide +kernel)) rfl rfl (by rw [len3, ← opn_e]; rfl) (tyX5_ok 4 (by decide)) (fun _ => rfl) (fun _ => rfl) (by rw [len3]; omega) (by rw [len3]; exact hr4) (Nat.le_of_ble_eq_true rfl) (Nat.le_of_ble_eq_true rfl) kX5_31 kX5_33 hW hS fun H locs hW hS => ?_
  have len4 : ((((((S ++ [(12, 0, (shRendering n).map opn)]) ++ [(0, 24, [])]) ++ [(0, 24, [])]) ++ [(0, 24, [])]) ++ [(0, 24, [])]) : List pSh).length = n + 5 := by rw [List.length_append, len3]; first | rfl | done
  have q4 : ((((((S ++ [(12, 0, (shRendering n).map opn)]) ++ [(0, 24, [])]) ++ [(0, 24, [])]) ++ [(0, 24, [])]) ++ [(0, 24, [])]) : List pSh)[n]? = some (12, 0, (shRendering n).map opn) := by rw [List.getElem?_append_left (by rw [len3]; omega)]; exact q3
  refine lv_aload_n hx hb kX5_36 rfl (lv_at hl 0 rfl) ?_
  refine lv_bipush (v := nI 24) hx hb kX5_37 (by decide) ?_
  refine w_arrF (t := 0) (n := 24) (k := n) (a := 5) (b := 5) F (by decide) (by decide) hw_ai q4 rfl (by decide) (hasW_in (i := 306) (by decide +kernel)) rfl rfl (by rw [len4, ← opn_e]; rfl) (tyX5_ok 5 (by decide)) (fun _ => rfl) (fun _ => rfl) (by rw [len4]; omega) (by rw [len4]; exact hr5) (Nat.le_of_ble_eq_true rfl) (Nat.le_of_ble_eq_true rfl) kX5_39 kX5_41 hW hS fun H locs hW hS => ?_
  have len5 : (((((((S ++ [(12, 0, (shRendering n).map opn)]) ++ [(0, 24, [])]) ++ [(0, 24, [])]) ++ [(0, 24, [])]) ++ [(0, 24, [])]) ++ [(0, 24, [])]) : List pSh).length = n + 6 := by rw [List.length_append, len4]; first | rfl | done
  have q5 : (((((((S ++ [(12, 0, (shRendering n).map opn)]) ++ [(0, 24, [])]) ++ [(0, 24, [])]) ++ [(0, 24, [])]) ++ [(0, 24, [])]) ++ [(0, 24, [])]) : List pSh)[n]? = some (12, 0, (shRendering n).map opn) := by rw [List.getElem?_append_left (by rw [len4]; omega)]; exact q4
  refine lv_aload_n hx hb kX5_44 rfl (lv_at hl 0 rfl) ?_
  refine lv_aload_n hx hb kX5_45 rfl (lv_at hl 1 rfl) ?_
  refine w_refF (k := n) (a := 5) (b := 0) (r := 3) F q5 rfl (by decide) (hasW_in (i := 297) (by decide +kernel)) rfl rfl rfl (tyX5_ok 0 (by decide)) (fun _ => rfl) (fun _ => rfl) kX5_46 hW hS fun H locs hW hS => ?_
  have hW : wB base adK un cA dg ((((((S ++ [(12, 0, (shRendering n).map opn)]) ++ [(0, 24, [])]) ++ [(0, 24, [])]) ++ [(0, 24, [])]) ++ [(0, 24, [])]) ++ [(0, 24, [])]) (dsl σ.1 n puRendering, σ.2) _ := hW
  have hW := hW.close (a := 5) (n := 0) (fs := shRendering n) q5 (fun b c hb hc _ => by
    match b, hb with
    | 0, hb => exact dsl_at rfl
    | 1, hb => exact dsl_at rfl
    | 2, hb => exact dsl_at rfl
    | 3, hb => exact dsl_at rfl
    | 4, hb => exact dsl_at rfl
    | 5, hb => exact dsl_at rfl
    | b + 6, hb => cases hb)
  have hW : wB base adK un cA dg (sfRendering S n) (dsl σ.1 n puRendering, σ.2) _ := hW
  have lenF : (sfRendering S n).length = n + 6 := by rw [List.length_set]; exact len5
  have qF : (sfRendering S n)[n]? = some (12, 0, shRendering n) := by rw [List.getElem?_set_self (by rw [len5]; omega)]
  refine lv_aload_n hx hb kX5_49 rfl (lv_at hl 0 rfl) ?_
  refine k_call (k := n) (me := 56) (d := 1) (ci := 5) F hml hZ.1 hno hsh hev0 hz0 rfl qF rfl (hasW_in (i := 292) (by decide +kernel)) (Nat.le_of_ble_eq_true rfl) (Nat.le_of_ble_eq_true rfl) kX5_50 hl.1 (Nat.le_of_ble_eq_true rfl) ⟨Nat.le_of_ble_eq_true rfl, Nat.le_of_ble_eq_true rfl⟩ (by rw [hW.2.1, hW0, lenF, len0, hoff]; omega) hW hS fun H locs hW hS => ?_
  exact W.vret hx hb (by rw [hr]) (fun t ht _ => ⟨rfl, by rw [ht]; exact hW, hS.F ht⟩) hS.2.2 kX5_53 hlocks
