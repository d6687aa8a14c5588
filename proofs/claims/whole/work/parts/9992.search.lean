theorem kX6_0 : decode cX6_init 0 = .ok (.aload_n 0, 1) := by decide +kernel
theorem kX6_1 : decode cX6_init 1 = .ok (.invokespecial 3, 3) := by decide +kernel
theorem kX6_4 : decode cX6_init 4 = .ok (.aload_n 0, 1) := by decide +kernel
theorem kX6_5 : decode cX6_init 5 = .ok (.iconst 4, 1) := by decide +kernel
theorem kX6_6 : decode cX6_init 6 = .ok (.newarray .int, 2) := by decide +kernel
theorem kX6_8 : decode cX6_init 8 = .ok (.putfield 9, 3) := by decide +kernel
theorem kX6_11 : decode cX6_init 11 = .ok (.aload_n 0, 1) := by decide +kernel
theorem kX6_12 : decode cX6_init 12 = .ok (.iconst 4, 1) := by decide +kernel
theorem kX6_13 : decode cX6_init 13 = .ok (.bipush 21, 2) := by decide +kernel
theorem kX6_15 : decode cX6_init 15 = .ok (.multianewarray 15 2, 4) := by decide +kernel
theorem kX6_19 : decode cX6_init 19 = .ok (.putfield 17, 3) := by decide +kernel
theorem kX6_22 : decode cX6_init 22 = .ok (.aload_n 0, 1) := by decide +kernel
theorem kX6_23 : decode cX6_init 23 = .ok (.bipush 16, 2) := by decide +kernel
theorem kX6_25 : decode cX6_init 25 = .ok (.bipush 21, 2) := by decide +kernel
theorem kX6_27 : decode cX6_init 27 = .ok (.multianewarray 15 2, 4) := by decide +kernel
theorem kX6_31 : decode cX6_init 31 = .ok (.putfield 20, 3) := by decide +kernel
theorem kX6_34 : decode cX6_init 34 = .ok (.aload_n 0, 1) := by decide +kernel
theorem kX6_35 : decode cX6_init 35 = .ok (.iconst 5, 1) := by decide +kernel
theorem kX6_36 : decode cX6_init 36 = .ok (.iconst 4, 1) := by decide +kernel
theorem kX6_37 : decode cX6_init 37 = .ok (.multianewarray 15 2, 4) := by decide +kernel
theorem kX6_41 : decode cX6_init 41 = .ok (.putfield 23, 3) := by decide +kernel
theorem kX6_44 : decode cX6_init 44 = .ok (.aload_n 0, 1) := by decide +kernel
theorem kX6_45 : decode cX6_init 45 = .ok (.iconst 4, 1) := by decide +kernel
theorem kX6_46 : decode cX6_init 46 = .ok (.newarray .int, 2) := by decide +kernel
theorem kX6_48 : decode cX6_init 48 = .ok (.putfield 26, 3) := by decide +kernel
theorem kX6_51 : decode cX6_init 51 = .ok (.aload_n 0, 1) := by decide +kernel
theorem kX6_52 : decode cX6_init 52 = .ok (.iconst 4, 1) := by decide +kernel
theorem kX6_53 : decode cX6_init 53 = .ok (.newarray .int, 2) := by decide +kernel
theorem kX6_55 : decode cX6_init 55 = .ok (.putfield 29, 3) := by decide +kernel
theorem kX6_58 : decode cX6_init 58 = .ok (.aload_n 0, 1) := by decide +kernel
theorem kX6_59 : decode cX6_init 59 = .ok (.aload_n 1, 1) := by decide +kernel
theorem kX6_60 : decode cX6_init 60 = .ok (.putfield 32, 3) := by decide +kernel
theorem kX6_63 : decode cX6_init 63 = .ok (.return_, 1) := by decide +kernel
abbrev shSearch (n : Nat) : List Nat := [3 + 2 * 3, 3 + 2 * (n + 1), 3 + 2 * (n + 2), 3 + 2 * (n + 3), 3 + 2 * (n + 4), 3 + 2 * (n + 5), 3 + 2 * (n + 6), 0, 0, 0]
abbrev puSearch : List (Nat × Int32) := [(1, 1), (2, 1), (3, 1), (4, 1), (5, 1), (6, 1), (0, 1)]
abbrev sfSearch (S : List pSh) (n : Nat) : List pSh := (((((((S ++ [(13, 0, (shSearch n).map opn)]) ++ [(0, 4, [])]) ++ [(5, 4, [21])]) ++ [(5, 16, [21])]) ++ [(5, 5, [4])]) ++ [(0, 4, [])]) ++ [(0, 4, [])]).set n (13, 0, shSearch n)
set_option maxHeartbeats 8000000 in
set_option maxRecDepth 100000 in
theorem k_Search (l : Launch) {base : Nat} {adK : Nat → Nat} {un : Nat} {cA : Nat → ClassId} {dg : va_G} {adV : Nat → Nat} (S : List pSh) (n : Nat) (hSn : S.length = n) (σ : pSt) (hn : n + 7 ≤ 143) (hr1 : rws (n + 1) = 0) (hr2 : rws (n + 2) = 4) (hr3 : rws (n + 3) = 16) (hr4 : rws (n + 4) = 5) (hr5 : rws (n + 5) = 0) (hr6 : rws (n + 6) = 0) : Met l yX6_init (Cond.code yX6_init cX6_init 2 none :: tg) { frames := 2, cells := 31, slots := 477, locals := 40 } (kPz base adK un cA dg adV [.ref (adB base adK n 0), .ref (adB base adK 3 0)] (S ++ [(13, 0, (shSearch n).map opn)]) σ) (kQc base adK un cA dg (sfSearch S n) (dsl σ.1 n puSearch, σ.2)) 31 477 (fun q => base ≤ q) := by
  refine Met.ofW (cc := cX6_init) (maxL := 2) (ret := none) (by decide) rfl ?_
  intro p e s m args below meth c s₁ B hml hv
  obtain ⟨rfl, hW, hK, hZ⟩ := hv
  have hx := B.exec
  have hb := B.bytes
  have hr := B.returns
  have hts0 := atoms_spec (ws := Cond.code yX6_init cX6_init 2 none :: tg) B.pre
  have hts : ∀ w ∈ tg, w.before _ s = true := fun w h => hts0 w (List.mem_cons_of_mem _ h)
  have hown : s.vm.findClass RX6 = some m.cls := findClass_of_methodNamed B.named
  have hlocks := B.notSynchronized
  have F : kF p s m _ meth c cX6_init RX6 cA dg := ⟨hx, hb, hts, hown, hK, (name_of_methodNamed B.named B.method).1⟩
  have hl := lv_entry ([.ref (adB base adK n 0), .ref (adB base adK 3 0)]) (n := 2) (Nat.le_of_ble_eq_true rfl)
  rw [lg_entry_eq]
  generalize (lg_sl ([.ref (adB base adK n 0), .ref (adB base adK 3 0)]) ++ List.replicate (2 - (lg_sl ([.ref (adB base adK n 0), .ref (adB base adK 3 0)])).length) Slot.unset).toArray = ls at hl ⊢
  have hl : lv_has ls 2 [(0, .ref (adB base adK n 0)), (1, .ref (adB base adK 3 0))] := hl
  have hS : va_S (fun q => base ≤ q) s.heap s.heap [] := va_S.rf
  have hW0 := hW.2.1
  refine lv_aload_n hx hb kX6_0 rfl (lv_at hl 0 rfl) ?_
  refine W.objInit hx hb hown (hts _ (hasW_in (i := 327) (by decide +kernel))) (hts _ hw_oi) (hts _ hw_oc) rfl (by rw [hml]; exact hl.1) rfl kX6_1 (Nat.le_of_ble_eq_true rfl) (Nat.le_of_ble_eq_true rfl) ?_
  have len0 : ((S ++ [(13, 0, (shSearch n).map opn)]) : List pSh).length = n + 1 := by rw [List.length_append, hSn]; first | rfl | done
  have q0 : ((S ++ [(13, 0, (shSearch n).map opn)]) : List pSh)[n]? = some (13, 0, (shSearch n).map opn) := by rw [List.getElem?_append_right (by omega), hSn, Nat.sub_self]; rfl
  refine lv_aload_n hx hb kX6_4 rfl (lv_at hl 0 rfl) ?_
  refine lv_iconst (v := nI 4) hx hb kX6_5 (by decide) ?_
  refine w_arrF (t := 0) (n := 4) (k := n) (a := 6) (b := 1) F (by decide) (by decide) hw_ai q0 rfl (by decide) (hasW_in (i := 331) (by decide +kernel)) rfl rfl (by rw [len0, ← opn_e]; rfl) (tyX6_ok 1 (by decide)) (fun _ => rfl) (fun _ => rfl) (by rw [len0]; omega) (by rw [len0]; exact hr1) (Nat.le_of_ble_eq_true rfl) (Nat.le_of_ble_eq_true rfl) kX6_6 kX6_8 hW hS fun H locs hW hS => ?_
  have len1 : (((S ++ [(13, 0, (shSearch n).map opn)]) ++ [(0, 4, [])]) : List pSh).length = n + 2 := by rw [List.length_append, len0]; first | rfl | done
  have q1 : (((S ++ [(13, 0, (shSearch n).map opn)]) ++ [(0, 4, [])]) : List pSh)[n]? = some (13, 0, (shSearch n).map opn) := by rw [List.getElem?_append_left (by rw [len0]; omega)]; exact q0
  refine lv_aload_n hx hb kX6_11 rfl (lv_at hl 0 rfl) ?_
  refine lv_iconst (v := nI 4) hx hb kX6_12 (by decide) ?_
  refine lv_bipush (v := nI 21) hx hb kX6_13 (by decide) ?_
  refine w_mulB (N := 4) (M := 21) F.G hZ.2.2.2.2.2.2.2 (hasW_in (i := 328) (by decide +kernel)) (by decide) (by decide) (by rw [len1]; omega) (by rw [len1]; exact hr2) (Nat.le_of_ble_eq_true rfl) (Nat.le_of_ble_eq_true rfl) kX6_15 hW hS fun H locs hW hS => ?_
  rw [len1]
  have len2 : ((((S ++ [(13, 0, (shSearch n).map opn)]) ++ [(0, 4, [])]) ++ [(5, 4, [21])]) : List pSh).length = n + 3 := by rw [List.length_append, len1]; first | rfl | done
  have q2 : ((((S ++ [(13, 0, (shSearch n).map opn)]) ++ [(0, 4, [])]) ++ [(5, 4, [21])]) : List pSh)[n]? = some (13, 0, (shSearch n).map opn) := by rw [List.getElem?_append_left (by rw [len1]; omega)]; exact q1
  refine w_refF (k := n) (a := 6) (b := 2) (r := n + 2) F q2 rfl (by decide) (hasW_in (i := 332) (by decide +kernel)) rfl rfl (by rw [← opn_e]; rfl) (tyX6_ok 2 (by decide)) (fun _ => rfl) (fun _ => rfl) kX6_19 hW hS fun H locs hW hS => ?_
  refine lv_aload_n hx hb kX6_22 rfl (lv_at hl 0 rfl) ?_
  refine lv_bipush (v := nI 16) hx hb kX6_23 (by decide) ?_
  refine lv_bipush (v := nI 21) hx hb kX6_25 (by decide) ?_
  refine w_mulB (N := 16) (M := 21) F.G hZ.2.2.2.2.2.2.2 (hasW_in (i := 328) (by decide +kernel)) (by decide) (by decide) (by rw [len2]; omega) (by rw [len2]; exact hr3) (Nat.le_of_ble_eq_true rfl) (Nat.le_of_ble_eq_true rfl) kX6_27 hW hS fun H locs hW hS => ?_
  rw [len2]
  have len3 : (((((S ++ [(13, 0, (shSearch n).map opn)]) ++ [(0, 4, [])]) ++ [(5, 4, [21])]) ++ [(5, 16, [21])]) : List pSh).length = n + 4 := by rw [List.length_append, len2]; first | rfl | done
  have q3 : (((((S ++ [(13, 0, (shSearch n).map opn)]) ++ [(0, 4, [])]) ++ [(5, 4, [21])]) ++ [(5, 16, [21])]) : List pSh)[n]? = some (13, 0, (shSearch n).map opn) := by rw [List.getElem?_append_left (by rw [len2]; omega)]; exact q2
  refine w_refF (k := n) (a := 6) (b := 3) (r := n + 3) F q3 rfl (by decide) (hasW_in (i := 333) (by decide +kernel)) rfl rfl (by rw [← opn_e]; rfl) (tyX6_ok 3 (by decide)) (fun _ => rfl) (fun _ => rfl) kX6_31 hW hS fun H locs hW hS => ?_
  refine lv_aload_n hx hb kX6_34 rfl (lv_at hl 0 rfl) ?_
  refine lv_iconst (v := nI 5) hx hb kX6_35 (by decide) ?_
  refine lv_iconst (v := nI 4) hx hb kX6_36 (by decide) ?_
  refine w_mulB (N := 5) (M := 4) F.G hZ.2.2.2.2.2.2.2 (hasW_in (i := 328) (by decide +kernel)) (by decide) (by decide) (by rw [len3]; omega) (by rw [len3]; exact hr4) (Nat.le_of_ble_eq_true rfl) (Nat.le_of_ble_eq_true rfl) kX6_37 hW hS fun H locs hW hS => ?_
  rw [len3]
  have len4 : ((((((S ++ [(13, 0, (shSearch n).map opn)]) ++ [(0, 4, [])]) ++ [(5, 4, [21])]) ++ [(5, 16, [21])]) ++ [(5, 5, [4])]) : List pSh).length = n + 5 := by rw [List.length_append, len3]; first | rfl | done
  have q4 : ((((((S ++ [(13, 0, (shSearch n).map opn)]) ++ [(0, 4, [])]) ++ [(5, 4, [21])]) ++ [(5, 16, [21])]) ++ [(5, 5, [4])]) : List pSh)[n]? = some (13, 0, (shSearch n).map opn) := by rw [List.getElem?_append_left (by rw [len3]; omega)]; exact q3
  refine w_refF (k := n) (a := 6) (b := 4) (r := n + 4) F q4 rfl (by decide) (hasW_in (i := 334) (by decide +kernel)) rfl rfl (by rw [← opn_e]; rfl) (tyX6_ok 4 (by decide)) (fun _ => rfl) (fun _ => rfl) kX6_41 hW hS fun H locs hW hS => ?_
  refine lv_aload_n hx hb kX6_44 rfl (lv_at hl 0 rfl) ?_
  refine lv_iconst (v := nI 4) hx hb kX6_45 (by decide) ?_
  refine w_arrF (t := 0) (n := 4) (k := n) (a := 6) (b := 5) F (by decide) (by decide) hw_ai q4 rfl (by decide) (hasW_in (i := 335) (by decide +kernel)) rfl rfl (by rw [len4, ← opn_e]; rfl) (tyX6_ok 5 (by decide)) (fun _ => rfl) (fun _ => rfl) (by rw [len4]; omega) (by rw [len4]; exact hr5) (Nat.le_of_ble_eq_true rfl) (Nat.le_of_ble_eq_true rfl) kX6_46 kX6_48 hW hS fun H locs hW hS => ?_
  have len5 : (((((((S ++ [(13, 0, (shSearch n).map opn)]) ++ [(0, 4, [])]) ++ [(5, 4, [21])]) ++ [(5, 16, [21])]) ++ [(5, 5, [4])]) ++ [(0, 4, [])]) : List pSh).length = n + 6 := by rw [List.length_append, len4]; first | rfl | done
  have q5 : (((((((S ++ [(13, 0, (shSearch n).map opn)]) ++ [(0, 4, [])]) ++ [(5, 4, [21])]) ++ [(5, 16, [21])]) ++ [(5, 5, [4])]) ++ [(0, 4, [])]) : List pSh)[n]? = some (13, 0, (shSearch n).map opn) := by rw [List.getElem?_append_left (by rw [len4]; omega)]; exact q4
  refine lv_aload_n hx hb kX6_51 rfl (lv_at hl 0 rfl) ?_
  refine lv_iconst (v := nI 4) hx hb kX6_52 (by decide) ?_
  refine w_arrF (t := 0) (n := 4) (k := n) (a := 6) (b := 6) F (by decide) (by decide) hw_ai q5 rfl (by decide) (hasW_in (i := 336) (by decide +kernel)) rfl rfl (by rw [len5, ← opn_e]; rfl) (tyX6_ok 6 (by decide)) (fun _ => rfl) (fun _ => rfl) (by rw [len5]; omega) (by rw [len5]; exact hr6) (Nat.le_of_ble_eq_true rfl) (Nat.le_of_ble_eq_true rfl) kX6_53 kX6_55 hW hS fun H locs hW hS => ?_
  have len6 : ((((((((S ++ [(13, 0, (shSearch n).map opn)]) ++ [(0, 4, [])]) ++ [(5, 4, [21])]) ++ [(5, 16, [21])]) ++ [(5, 5, [4])]) ++ [(0, 4, [])]) ++ [(0, 4, [])]) : List pSh).length = n + 7 := by rw [List.length_append, len5]; first | rfl | done
  have q6 : ((((((((S ++ [(13, 0, (shSearch n).map opn)]) ++ [(0, 4, [])]) ++ [(5, 4, [21])]) ++ [(5, 16, [21])]) ++ [(5, 5, [4])]) ++ [(0, 4, [])]) ++ [(0, 4, [])]) : List pSh)[n]? = some (13, 0, (shSearch n).map opn) := by rw [List.getElem?_append_left (by rw [len5]; omega)]; exact q5
  refine lv_aload_n hx hb kX6_58 rfl (lv_at hl 0 rfl) ?_
  refine lv_aload_n hx hb kX6_59 rfl (lv_at hl 1 rfl) ?_
  refine w_refF (k := n) (a := 6) (b := 0) (r := 3) F q6 rfl (by decide) (hasW_in (i := 330) (by decide +kernel)) rfl rfl rfl (tyX6_ok 0 (by decide)) (fun _ => rfl) (fun _ => rfl) kX6_60 hW hS fun H locs hW hS => ?_
  have hW : wB base adK un cA dg (((((((S ++ [(13, 0, (shSearch n).map opn)]) ++ [(0, 4, [])]) ++ [(5, 4, [21])]) ++ [(5, 16, [21])]) ++ [(5, 5, [4])]) ++ [(0, 4, [])]) ++ [(0, 4, [])]) (dsl σ.1 n puSearch, σ.2) _ := hW
  have hW := hW.close (a := 6) (n := 0) (fs := shSearch n) q6 (fun b c hb hc _ => by
    match b, hb with
    | 0, hb => exact dsl_at rfl
    | 1, hb => exact dsl_at rfl
    | 2, hb => exact dsl_at rfl
    | 3, hb => exact dsl_at rfl
    | 4, hb => exact dsl_at rfl
    | 5, hb => exact dsl_at rfl
    | 6, hb => exact dsl_at rfl
    | 7, hb => cases hb; omega
    | 8, hb => cases hb; omega
    | 9, hb => cases hb; omega
    | b + 10, hb => cases hb)
  have hW : wB base adK un cA dg (sfSearch S n) (dsl σ.1 n puSearch, σ.2) _ := hW
  have lenF : (sfSearch S n).length = n + 7 := by rw [List.length_set]; exact len6
  have qF : (sfSearch S n)[n]? = some (13, 0, shSearch n) := by rw [List.getElem?_set_self (by rw [len6]; omega)]
  exact W.vret hx hb (by rw [hr]) (fun t ht _ => ⟨rfl, by rw [ht]; exact hW, hS.F ht⟩) hS.2.2 kX6_63 hlocks
