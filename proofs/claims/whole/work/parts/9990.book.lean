theorem kX0_0 : decode cX0_init 0 = .ok (.aload_n 0, 1) := by decide +kernel
theorem kX0_1 : decode cX0_init 1 = .ok (.invokespecial 5, 3) := by decide +kernel
theorem kX0_4 : decode cX0_init 4 = .ok (.aload_n 0, 1) := by decide +kernel
theorem kX0_5 : decode cX0_init 5 = .ok (.iconst 5, 1) := by decide +kernel
theorem kX0_6 : decode cX0_init 6 = .ok (.newarray .int, 2) := by decide +kernel
theorem kX0_8 : decode cX0_init 8 = .ok (.putfield 11, 3) := by decide +kernel
theorem kX0_11 : decode cX0_init 11 = .ok (.aload_n 0, 1) := by decide +kernel
theorem kX0_12 : decode cX0_init 12 = .ok (.iconst 5, 1) := by decide +kernel
theorem kX0_13 : decode cX0_init 13 = .ok (.newarray .int, 2) := by decide +kernel
theorem kX0_15 : decode cX0_init 15 = .ok (.putfield 15, 3) := by decide +kernel
theorem kX0_18 : decode cX0_init 18 = .ok (.aload_n 0, 1) := by decide +kernel
theorem kX0_19 : decode cX0_init 19 = .ok (.bipush 24, 2) := by decide +kernel
theorem kX0_21 : decode cX0_init 21 = .ok (.newarray .int, 2) := by decide +kernel
theorem kX0_23 : decode cX0_init 23 = .ok (.putfield 18, 3) := by decide +kernel
theorem kX0_26 : decode cX0_init 26 = .ok (.aload_n 0, 1) := by decide +kernel
theorem kX0_27 : decode cX0_init 27 = .ok (.sipush 256, 3) := by decide +kernel
theorem kX0_30 : decode cX0_init 30 = .ok (.newarray .int, 2) := by decide +kernel
theorem kX0_32 : decode cX0_init 32 = .ok (.putfield 21, 3) := by decide +kernel
theorem kX0_35 : decode cX0_init 35 = .ok (.aload_n 0, 1) := by decide +kernel
theorem kX0_36 : decode cX0_init 36 = .ok (.bipush 12, 2) := by decide +kernel
theorem kX0_38 : decode cX0_init 38 = .ok (.newarray .int, 2) := by decide +kernel
theorem kX0_40 : decode cX0_init 40 = .ok (.putfield 24, 3) := by decide +kernel
theorem kX0_43 : decode cX0_init 43 = .ok (.aload_n 0, 1) := by decide +kernel
theorem kX0_44 : decode cX0_init 44 = .ok (.bipush 20, 2) := by decide +kernel
theorem kX0_46 : decode cX0_init 46 = .ok (.newarray .int, 2) := by decide +kernel
theorem kX0_48 : decode cX0_init 48 = .ok (.putfield 27, 3) := by decide +kernel
theorem kX0_51 : decode cX0_init 51 = .ok (.aload_n 0, 1) := by decide +kernel
theorem kX0_52 : decode cX0_init 52 = .ok (.bipush 24, 2) := by decide +kernel
theorem kX0_54 : decode cX0_init 54 = .ok (.newarray .int, 2) := by decide +kernel
theorem kX0_56 : decode cX0_init 56 = .ok (.putfield 30, 3) := by decide +kernel
theorem kX0_59 : decode cX0_init 59 = .ok (.aload_n 0, 1) := by decide +kernel
theorem kX0_60 : decode cX0_init 60 = .ok (.bipush 24, 2) := by decide +kernel
theorem kX0_62 : decode cX0_init 62 = .ok (.newarray .int, 2) := by decide +kernel
theorem kX0_64 : decode cX0_init 64 = .ok (.putfield 33, 3) := by decide +kernel
theorem kX0_67 : decode cX0_init 67 = .ok (.aload_n 0, 1) := by decide +kernel
theorem kX0_68 : decode cX0_init 68 = .ok (.bipush 20, 2) := by decide +kernel
theorem kX0_70 : decode cX0_init 70 = .ok (.newarray .int, 2) := by decide +kernel
theorem kX0_72 : decode cX0_init 72 = .ok (.putfield 36, 3) := by decide +kernel
theorem kX0_75 : decode cX0_init 75 = .ok (.aload_n 0, 1) := by decide +kernel
theorem kX0_76 : decode cX0_init 76 = .ok (.bipush 20, 2) := by decide +kernel
theorem kX0_78 : decode cX0_init 78 = .ok (.newarray .int, 2) := by decide +kernel
theorem kX0_80 : decode cX0_init 80 = .ok (.putfield 39, 3) := by decide +kernel
theorem kX0_83 : decode cX0_init 83 = .ok (.aload_n 0, 1) := by decide +kernel
theorem kX0_84 : decode cX0_init 84 = .ok (.bipush 20, 2) := by decide +kernel
theorem kX0_86 : decode cX0_init 86 = .ok (.newarray .int, 2) := by decide +kernel
theorem kX0_88 : decode cX0_init 88 = .ok (.putfield 42, 3) := by decide +kernel
theorem kX0_91 : decode cX0_init 91 = .ok (.aload_n 0, 1) := by decide +kernel
theorem kX0_92 : decode cX0_init 92 = .ok (.bipush 6, 2) := by decide +kernel
theorem kX0_94 : decode cX0_init 94 = .ok (.newarray .int, 2) := by decide +kernel
theorem kX0_96 : decode cX0_init 96 = .ok (.putfield 45, 3) := by decide +kernel
theorem kX0_99 : decode cX0_init 99 = .ok (.aload_n 0, 1) := by decide +kernel
theorem kX0_100 : decode cX0_init 100 = .ok (.bipush 6, 2) := by decide +kernel
theorem kX0_102 : decode cX0_init 102 = .ok (.newarray .int, 2) := by decide +kernel
theorem kX0_104 : decode cX0_init 104 = .ok (.putfield 48, 3) := by decide +kernel
theorem kX0_107 : decode cX0_init 107 = .ok (.aload_n 0, 1) := by decide +kernel
theorem kX0_108 : decode cX0_init 108 = .ok (.invokevirtual 51, 3) := by decide +kernel
theorem kX0_111 : decode cX0_init 111 = .ok (.aload_n 0, 1) := by decide +kernel
theorem kX0_112 : decode cX0_init 112 = .ok (.invokevirtual 54, 3) := by decide +kernel
theorem kX0_115 : decode cX0_init 115 = .ok (.return_, 1) := by decide +kernel
abbrev shBook (n : Nat) : List Nat := [3 + 2 * (n + 1), 3 + 2 * (n + 2), 3 + 2 * (n + 3), 3 + 2 * (n + 4), 3 + 2 * (n + 5), 3 + 2 * (n + 6), 3 + 2 * (n + 7), 3 + 2 * (n + 8), 3 + 2 * (n + 9), 3 + 2 * (n + 10), 3 + 2 * (n + 11), 3 + 2 * (n + 12), 3 + 2 * (n + 13)]
abbrev puBook : List (Nat × Int32) := [(0, 1), (1, 1), (2, 1), (3, 1), (4, 1), (5, 1), (6, 1), (7, 1), (8, 1), (9, 1), (10, 1), (11, 1), (12, 1)]
abbrev sfBook (S : List pSh) (n : Nat) : List pSh := ((((((((((((((S ++ [(7, 0, (shBook n).map opn)]) ++ [(0, 5, [])]) ++ [(0, 5, [])]) ++ [(0, 24, [])]) ++ [(0, 256, [])]) ++ [(0, 12, [])]) ++ [(0, 20, [])]) ++ [(0, 24, [])]) ++ [(0, 24, [])]) ++ [(0, 20, [])]) ++ [(0, 20, [])]) ++ [(0, 20, [])]) ++ [(0, 6, [])]) ++ [(0, 6, [])]).set n (7, 0, shBook n)
set_option maxHeartbeats 8000000 in
set_option maxRecDepth 100000 in
theorem k_Book (l : Launch) {base : Nat} {adK : Nat → Nat} {un : Nat} {cA : Nat → ClassId} {dg : va_G} {adV : Nat → Nat} (S : List pSh) (n : Nat) (hSn : S.length = n) (σ : pSt) (hn : n + 14 ≤ 143) (hr1 : rws (n + 1) = 0) (hr2 : rws (n + 2) = 0) (hr3 : rws (n + 3) = 0) (hr4 : rws (n + 4) = 0) (hr5 : rws (n + 5) = 0) (hr6 : rws (n + 6) = 0) (hr7 : rws (n + 7) = 0) (hr8 : rws (n + 8) = 0) (hr9 : rws (n + 9) = 0) (hr10 : rws (n + 10) = 0) (hr11 : rws (n + 11) = 0) (hr12 : rws (n + 12) = 0) (hr13 : rws (n + 13) = 0) (D0 D1 : pD) (hno : noTx (sfBook S n)) (hsh : pShOk (sfBook S n)) (hev0 : ev (sfBook S n) Pr Tx 0 1 0 (pL0 [.inr (.inr (n, 0))]) [] (dsl σ.1 n puBook, σ.2) = some (none, (D0, σ.2))) (hz0 : zB (sfBook S n).length (D0, σ.2)) (hev1 : ev (sfBook S n) Pr Tx 7 0 0 (pL0 [.inr (.inr (n, 0))]) [] (D0, σ.2) = some (none, (D1, σ.2))) (hz1 : zB (sfBook S n).length (D1, σ.2)) (hoff : offs (n + 14) = offs (n + 1) + 13) : Met l yX0_init (Cond.code yX0_init cX0_init 1 none :: tg) { frames := 12, cells := 13, slots := 442, locals := 1000 } (kPz base adK un cA dg adV [.ref (adB base adK n 0)] (S ++ [(7, 0, (shBook n).map opn)]) σ) (kQc base adK un cA dg (sfBook S n) (D1, σ.2)) 13 442 (fun q => base ≤ q) := by
  refine Met.ofW (cc := cX0_init) (maxL := 1) (ret := none) (by decide) rfl ?_
  intro p e s m args below meth c s₁ B hml hv
  obtain ⟨rfl, hW, hK, hZ⟩ := hv
  have hx := B.exec
  have hb := B.bytes
  have hr := B.returns
  have hts0 := atoms_spec (ws := Cond.code yX0_init cX0_init 1 none :: tg) B.pre
  have hts : ∀ w ∈ tg, w.before _ s = true := fun w h => hts0 w (List.mem_cons_of_mem _ h)
  have hown : s.vm.findClass RX0 = some m.cls := findClass_of_methodNamed B.named
  have hlocks := B.notSynchronized
  have F : kF p s m _ meth c cX0_init RX0 cA dg := ⟨hx, hb, hts, hown, hK, (name_of_methodNamed B.named B.method).1⟩
  have hl := lv_entry ([.ref (adB base adK n 0)]) (n := 1) (Nat.le_of_ble_eq_true rfl)
  rw [lg_entry_eq]
  generalize (lg_sl ([.ref (adB base adK n 0)]) ++ List.replicate (1 - (lg_sl ([.ref (adB base adK n 0)])).length) Slot.unset).toArray = ls at hl ⊢
  have hl : lv_has ls 1 [(0, .ref (adB base adK n 0))] := hl
  have hS : va_S (fun q => base ≤ q) s.heap s.heap [] := va_S.rf
  have hW0 := hW.2.1
  refine lv_aload_n hx hb kX0_0 rfl (lv_at hl 0 rfl) ?_
  refine W.objInit hx hb hown (hts _ (hasW_in (i := 130) (by decide +kernel))) (hts _ hw_oi) (hts _ hw_oc) rfl (by rw [hml]; exact hl.1) rfl kX0_1 (Nat.le_of_ble_eq_true rfl) (Nat.le_of_ble_eq_true rfl) ?_
  have len0 : ((S ++ [(7, 0, (shBook n).map opn)]) : List pSh).length = n + 1 := by rw [List.length_append, hSn]; first | rfl | done
  have q0 : ((S ++ [(7, 0, (shBook n).map opn)]) : List pSh)[n]? = some (7, 0, (shBook n).map opn) := by rw [List.getElem?_append_right (by omega), hSn, Nat.sub_self]; rfl
  refine lv_aload_n hx hb kX0_4 rfl (lv_at hl 0 rfl) ?_
  refine lv_iconst (v := nI 5) hx hb kX0_5 (by decide) ?_
  refine w_arrF (t := 0) (n := 5) (k := n) (a := 0) (b := 0) F (by decide) (by decide) hw_ai q0 rfl (by decide) (hasW_in (i := 142) (by decide +kernel)) rfl rfl (by rw [len0, ← opn_e]; rfl) (tyX0_ok 0 (by decide)) (fun _ => rfl) (fun _ => rfl) (by rw [len0]; omega) (by rw [len0]; exact hr1) (Nat.le_of_ble_eq_true rfl) (Nat.le_of_ble_eq_true rfl) kX0_6 kX0_8 hW hS fun H locs hW hS => ?_
  have len1 : (((S ++ [(7, 0, (shBook n).map opn)]) ++ [(0, 5, [])]) : List pSh).length = n + 2 := by rw [List.length_append, len0]; first | rfl | done
  have q1 : (((S ++ [(7, 0, (shBook n).map opn)]) ++ [(0, 5, [])]) : List pSh)[n]? = some (7, 0, (shBook n).map opn) := by rw [List.getElem?_append_left (by rw [len0]; omega)]; exact q0
  refine lv_aload_n hx hb kX0_11 rfl (lv_at hl 0 rfl) ?_
  refine lv_iconst (v := nI 5) hx hb kX0_12 (by decide) ?_
  refine w_arrF (t := 0) (n := 5) (k := n) (a := 0) (b := 1) F (by decide) (by decide) hw_ai q1 rfl (by decide) (hasW_in (i := 148) (by decide +kernel)) rfl rfl (by rw [len1, ← opn_e]; rfl) (tyX0_ok 1 (by decide)) (fun _ => rfl) (fun _ => rfl) (by rw [len1]; omega) (by rw [len1]; exact hr2) (Nat.le_of_ble_eq_true rfl) (Nat.le_of_ble_eq_true rfl) kX0_13 kX0_15 hW hS fun H locs hW hS => ?_
  have len2 : ((((S ++ [(7, 0, (shBook n).map opn)]) ++ [(0, 5, [])]) ++ [(0, 5, [])]) : List pSh).length = n + 3 := by rw [List.length_append, len1]; first | rfl | done
  have q2 : ((((S ++ [(7, 0, (shBook n).map opn)]) ++ [(0, 5, [])]) ++ [(0, 5, [])]) : List pSh)[n]? = some (7, 0, (shBook n).map opn) := by rw [List.getElem?_append_left (by rw [len1]; omega)]; exact q1
  refine lv_aload_n hx hb kX0_18 rfl (lv_at hl 0 rfl) ?_
  refine lv_bipush (v := nI 24) hx hb kX0_19 (by decide) ?_
  refine w_arrF (t := 0) (n := 24) (k := n) (a := 0) (b := 2) F (by decide) (by decide) hw_ai q2 rfl (by decide) (hasW_in (i := 151) (by decide +kernel)) rfl rfl (by rw [len2, ← opn_e]; rfl) (tyX0_ok 2 (by decide)) (fun _ => rfl) (fun _ => rfl) (by rw [len2]; omega) (by rw [len2]; exact hr3) (Nat.le_of_ble_eq_true rfl) (Nat.le_of_ble_eq_true rfl) kX0_21 kX0_23 hW hS fun H locs hW hS => ?_
  have len3 : (((((S ++ [(7, 0, (shBook n).map opn)]) ++ [(0, 5, [])]) ++ [(0, 5, [])]) ++ [(0, 24, [])]) : List pSh).length = n + 4 := by rw [List.length_append, len2]; first | rfl | done
  have q3 : (((((S ++ [(7, 0, (shBook n).map opn)]) ++ [(0, 5, [])]) ++ [(0, 5, [])]) ++ [(0, 24, [])]) : List pSh)[n]? = some (7, 0, (shBook n).map opn) := by rw [List.getElem?_append_left (by rw [len2]; omega)]; exact q2
  refine lv_aload_n hx hb kX0_26 rfl (lv_at hl 0 rfl) ?_
  refine lv_sipush (v := nI 256) hx hb kX0_27 (by decide) ?_
  refine w_arrF (t := 0) (n := 256) (k := n) (a := 0) (b := 3) F (by decide) (by decide) hw_ai q3 rfl (by decide) (hasW_in (i := 154) (by decide +kernel)) rfl rfl (by rw [len3, ← opn_e]; rfl) (tyX0_ok 3 (by decide)) (fun _ => rfl) (fun _ => rfl) (by rw [len3]; omega) (by rw [len3]; exact hr4) (Nat.le_of_ble_eq_true rfl) (Nat.le_of_ble_eq_true rfl) kX0_30 kX0_32 hW hS fun H locs hW hS => ?_
  have len4 : ((((((S ++ [(7, 0, (shBook n).map opn)]) ++ [(0, 5, [])]) ++ [(0, 5, [])]) ++ [(0, 24, [])]) ++ [(0, 256, [])]) : List pSh).length = n + 5 := by rw [List.length_append, len3]; first | rfl | done
  have q4 : ((((((S ++ [(7, 0, (shBook n).map opn)]) ++ [(0, 5, [])]) ++ [(0, 5, [])]) ++ [(0, 24, [])]) ++ [(0, 256, [])]) : List pSh)[n]? = some (7, 0, (shBook n).map opn) := by rw [List.getElem?_append_left (by rw [len3]; omega)]; exact q3
  refine lv_aload_n hx hb kX0_35 rfl (lv_at hl 0 rfl) ?_
  refine lv_bipush (v := nI 12) hx hb kX0_36 (by decide) ?_
  refine w_arrF (t := 0) (n := 12) (k := n) (a := 0) (b := 4) F (by decide) (by decide) hw_ai q4 rfl (by decide) (hasW_in (i := 155) (by decide +kernel)) rfl rfl (by rw [len4, ← opn_e]; rfl) (tyX0_ok 4 (by decide)) (fun _ => rfl) (fun _ => rfl) (by rw [len4]; omega) (by rw [len4]; exact hr5) (Nat.le_of_ble_eq_true rfl) (Nat.le_of_ble_eq_true rfl) kX0_38 kX0_40 hW hS fun H locs hW hS => ?_
  have len5 : (((((((S ++ [(7, 0, (shBook n).map opn)]) ++ [(0, 5, [])]) ++ [(0, 5, [])]) ++ [(0, 24, [])]) ++ [(0, 256, [])]) ++ [(0, 12, [])]) : List pSh).length = n + 6 := by rw [List.length_append, len4]; first | rfl | done
  have q5 : (((((((S ++ [(7, 0, (shBook n).map opn)]) ++ [(0, 5, [])]) ++ [(0, 5, [])]) ++ [(0, 24, [])]) ++ [(0, 256, [])]) ++ [(0, 12, [])]) : List pSh)[n]? = some (7, 0, (shBook n).map opn) := by rw [List.getElem?_append_left (by rw [len4]; omega)]; exact q4
  refine lv_aload_n hx hb kX0_43 rfl (lv_at hl 0 rfl) ?_
  refine lv_bipush (v := nI 20) hx hb kX0_44 (by decide) ?_
  refine w_arrF (t := 0) (n := 20) (k := n) (a := 0) (b := 5) F (by decide) (by decide) hw_ai q5 rfl (by decide) (hasW_in (i := 158) (by decide +kernel)) rfl rfl (by rw [len5, ← opn_e]; rfl) (tyX0_ok 5 (by decide)) (fun _ => rfl) (fun _ => rfl) (by rw [len5]; omega) (by rw [len5]; exact hr6) (Nat.le_of_ble_eq_true rfl) (Nat.le_of_ble_eq_true rfl) kX0_46 kX0_48 hW hS fun H locs hW hS => ?_
  have len6 : ((((((((S ++ [(7, 0, (shBook n).map opn)]) ++ [(0, 5, [])]) ++ [(0, 5, [])]) ++ [(0, 24, [])]) ++ [(0, 256, [])]) ++ [(0, 12, [])]) ++ [(0, 20, [])]) : List pSh).length = n + 7 := by rw [List.length_append, len5]; first | rfl | done
  have q6 : ((((((((S ++ [(7, 0, (shBook n).map opn)]) ++ [(0, 5, [])]) ++ [(0, 5, [])]) ++ [(0, 24, [])]) ++ [(0, 256, [])]) ++ [(0, 12, [])]) ++ [(0, 20, [])]) : List pSh)[n]? = some (7, 0, (shBook n).map opn) := by rw [List.getElem?_append_left (by rw [len5]; omega)]; exact q5
  refine lv_aload_n hx hb kX0_51 rfl (lv_at hl 0 rfl) ?_
  refine lv_bipush (v := nI 24) hx hb kX0_52 (by decide) ?_
  refine w_arrF (t := 0) (n := 24) (k := n) (a := 0) (b := 6) F (by decide) (by decide) hw_ai q6 rfl (by decide) (hasW_in (i := 163) (by decide +kernel)) rfl rfl (by rw [len6, ← opn_e]; rfl) (tyX0_ok 6 (by decide)) (fun _ => rfl) (fun _ => rfl) (by rw [len6]; omega) (by rw [len6]; exact hr7) (Nat.le_of_ble_eq_true rfl) (Nat.le_of_ble_eq_true rfl) kX0_54 kX0_56 hW hS fun H locs hW hS => ?_
  have len7 : (((((((((S ++ [(7, 0, (shBook n).map opn)]) ++ [(0, 5, [])]) ++ [(0, 5, [])]) ++ [(0, 24, [])]) ++ [(0, 256, [])]) ++ [(0, 12, [])]) ++ [(0, 20, [])]) ++ [(0, 24, [])]) : List pSh).length = n + 8 := by rw [List.length_append, len6]; first | rfl | done
  have q7 : (((((((((S ++ [(7, 0, (shBook n).map opn)]) ++ [(0, 5, [])]) ++ [(0, 5, [])]) ++ [(0, 24, [])]) ++ [(0, 256, [])]) ++ [(0, 12, [])]) ++ [(0, 20, [])]) ++ [(0, 24, [])]) : List pSh)[n]? = some (7, 0, (shBook n).map opn) := by rw [List.getElem?_append_left (by rw [len6]; omega)]; exact q6
  refine lv_aload_n hx hb kX0_59 rfl (lv_at hl 0 rfl) ?_
  refine lv_bipush (v := nI 24) hx hb kX0_60 (by decide) ?_
  refine w_arrF (t := 0) (n := 24) (k := n) (a := 0) (b := 7) F (by decide) (by decide) hw_ai q7 rfl (by decide) (hasW_in (i := 167) (by decide +kernel)) rfl rfl (by rw [len7, ← opn_e]; rfl) (tyX0_ok 7 (by decide)) (fun _ => rfl) (fun _ => rfl) (by rw [len7]; omega) (by rw [len7]; exact hr8) (Nat.le_of_ble_eq_true rfl) (Nat.le_of_ble_eq_true rfl) kX0_62 kX0_64 hW hS fun H locs hW hS => ?_
  have len8 : ((((((((((S ++ [(7, 0, (shBook n).map opn)]) ++ [(0, 5, [])]) ++ [(0, 5, [])]) ++ [(0, 24, [])]) ++ [(0, 256, [])]) ++ [(0, 12, [])]) ++ [(0, 20, [])]) ++ [(0, 24, [])]) ++ [(0, 24, [])]) : List pSh).length = n + 9 := by rw [List.length_append, len7]; first | rfl | done
  have q8 : ((((((((((S ++ [(7, 0, (shBook n).map opn)]) ++ [(0, 5, [])]) ++ [(0, 5, [])]) ++ [(0, 24, [])]) ++ [(0, 256, [])]) ++ [(0, 12, [])]) ++ [(0, 20, [])]) ++ [(0, 24, [])]) ++ [(0, 24, [])]) : List pSh)[n]? = some (7, 0, (shBook n).map opn) := by rw [List.getElem?_append_left (by rw [len7]; omega)]; exact q7
  refine lv_aload_n hx hb kX0_67 rfl (lv_at hl 0 rfl) ?_
  refine lv_bipush (v := nI 20) hx hb kX0_68 (by decide) ?_
  refine w_arrF (t := 0) (n := 20) (k := n) (a := 0) (b := 8) F (by decide) (by decide) hw_ai q8 rfl (by decide) (hasW_in (i := 170) (by decide +kernel)) rfl rfl (by rw [len8, ← opn_e]; rfl) (tyX0_ok 8 (by decide)) (fun _ => rfl) (fun _ => rfl) (by rw [len8]; omega) (by rw [len8]; exact hr9) (Nat.le_of_ble_eq_true rfl) (Nat.le_of_ble_eq_true rfl) kX0_70 kX0_72 hW hS fun H locs hW hS => ?_
  have len9 : (((((((((((S ++ [(7, 0, (shBook n).map opn)]) ++ [(0, 5, [])]) ++ [(0, 5, [])]) ++ [(0, 24, [])]) ++ [(0, 256, [])]) ++ [(0, 12, [])]) ++ [(0, 20, [])]) ++ [(0, 24, [])]) ++ [(0, 24, [])]) ++ [(0, 20, [])]) : List pSh).length = n + 10 := by rw [List.length_append, len8]; first | rfl | done
  have q9 : (((((((((((S ++ [(7, 0, (shBook n).map opn)]) ++ [(0, 5, [])]) ++ [(0, 5, [])]) ++ [(0, 24, [])]) ++ [(0, 256, [])]) ++ [(0, 12, [])]) ++ [(0, 20, [])]) ++ [(0, 24, [])]) ++ [(0, 24, [])]) ++ [(0, 20, [])]) : List pSh)[n]? = some (7, 0, (shBook n).map opn) := by rw [List.getElem?_append_left (by rw [len8]; omega)]; exact q8
  refine lv_aload_n hx hb kX0_75 rfl (lv_at hl 0 rfl) ?_
  refine lv_bipush (v := nI 20) hx hb kX0_76 (by decide) ?_
  refine w_arrF (t := 0) (n := 20) (k := n) (a := 0) (b := 9) F (by decide) (by decide) hw_ai q9 rfl (by decide) (hasW_in (i := 174) (by decide +kernel)) rfl rfl (by rw [len9, ← opn_e]; rfl) (tyX0_ok 9 (by decide)) (fun _ => rfl) (fun _ => rfl) (by rw [len9]; omega) (by rw [len9]; exact hr10) (Nat.le_of_ble_eq_true rfl) (Nat.le_of_ble_eq_true rfl) kX0_78 kX0_80 hW hS fun H locs hW hS => ?_
  have len10 : ((((((((((((S ++ [(7, 0, (shBook n).map opn)]) ++ [(0, 5, [])]) ++ [(0, 5, [])]) ++ [(0, 24, [])]) ++ [(0, 256, [])]) ++ [(0, 12, [])]) ++ [(0, 20, [])]) ++ [(0, 24, [])]) ++ [(0, 24, [])]) ++ [(0, 20, [])]) ++ [(0, 20, [])]) : List pSh).length = n + 11 := by rw [List.length_append, len9]; first | rfl | done
  have q10 : ((((((((((((S ++ [(7, 0, (shBook n).map opn)]) ++ [(0, 5, [])]) ++ [(0, 5, [])]) ++ [(0, 24, [])]) ++ [(0, 256, [])]) ++ [(0, 12, [])]) ++ [(0, 20, [])]) ++ [(0, 24, [])]) ++ [(0, 24, [])]) ++ [(0, 20, [])]) ++ [(0, 20, [])]) : List pSh)[n]? = some (7, 0, (shBook n).map opn) := by rw [List.getElem?_append_left (by rw [len9]; omega)]; exact q9
  refine lv_aload_n hx hb kX0_83 rfl (lv_at hl 0 rfl) ?_
  refine lv_bipush (v := nI 20) hx hb kX0_84 (by decide) ?_
  refine w_arrF (t := 0) (n := 20) (k := n) (a := 0) (b := 10) F (by decide) (by decide) hw_ai q10 rfl (by decide) (hasW_in (i := 177) (by decide +kernel)) rfl rfl (by rw [len10, ← opn_e]; rfl) (tyX0_ok 10 (by decide)) (fun _ => rfl) (fun _ => rfl) (by rw [len10]; omega) (by rw [len10]; exact hr11) (Nat.le_of_ble_eq_true rfl) (Nat.le_of_ble_eq_true rfl) kX0_86 kX0_88 hW hS fun H locs hW hS => ?_
  have len11 : (((((((((((((S ++ [(7, 0, (shBook n).map opn)]) ++ [(0, 5, [])]) ++ [(0, 5, [])]) ++ [(0, 24, [])]) ++ [(0, 256, [])]) ++ [(0, 12, [])]) ++ [(0, 20, [])]) ++ [(0, 24, [])]) ++ [(0, 24, [])]) ++ [(0, 20, [])]) ++ [(0, 20, [])]) ++ [(0, 20, [])]) : List pSh).length = n + 12 := by rw [List.length_append, len10]; first | rfl | done
  have q11 : (((((((((((((S ++ [(7, 0, (shBook n).map opn)]) ++ [(0, 5, [])]) ++ [(0, 5, [])]) ++ [(0, 24, [])]) ++ [(0, 256, [])]) ++ [(0, 12, [])]) ++ [(0, 20, [])]) ++ [(0, 24, [])]) ++ [(0, 24, [])]) ++ [(0, 20, [])]) ++ [(0, 20, [])]) ++ [(0, 20, [])]) : List pSh)[n]? = some (7, 0, (shBook n).map opn) := by rw [List.getElem?_append_left (by rw [len10]; omega)]; exact q10
  refine lv_aload_n hx hb kX0_91 rfl (lv_at hl 0 rfl) ?_
  refine lv_bipush (v := nI 6) hx hb kX0_92 (by decide) ?_
  refine w_arrF (t := 0) (n := 6) (k := n) (a := 0) (b := 11) F (by decide) (by decide) hw_ai q11 rfl (by decide) (hasW_in (i := 180) (by decide +kernel)) rfl rfl (by rw [len11, ← opn_e]; rfl) (tyX0_ok 11 (by decide)) (fun _ => rfl) (fun _ => rfl) (by rw [len11]; omega) (by rw [len11]; exact hr12) (Nat.le_of_ble_eq_true rfl) (Nat.le_of_ble_eq_true rfl) kX0_94 kX0_96 hW hS fun H locs hW hS => ?_
  have len12 : ((((((((((((((S ++ [(7, 0, (shBook n).map opn)]) ++ [(0, 5, [])]) ++ [(0, 5, [])]) ++ [(0, 24, [])]) ++ [(0, 256, [])]) ++ [(0, 12, [])]) ++ [(0, 20, [])]) ++ [(0, 24, [])]) ++ [(0, 24, [])]) ++ [(0, 20, [])]) ++ [(0, 20, [])]) ++ [(0, 20, [])]) ++ [(0, 6, [])]) : List pSh).length = n + 13 := by rw [List.length_append, len11]; first | rfl | done
  have q12 : ((((((((((((((S ++ [(7, 0, (shBook n).map opn)]) ++ [(0, 5, [])]) ++ [(0, 5, [])]) ++ [(0, 24, [])]) ++ [(0, 256, [])]) ++ [(0, 12, [])]) ++ [(0, 20, [])]) ++ [(0, 24, [])]) ++ [(0, 24, [])]) ++ [(0, 20, [])]) ++ [(0, 20, [])]) ++ [(0, 20, [])]) ++ [(0, 6, [])]) : List pSh)[n]? = some (7, 0, (shBook n).map opn) := by rw [List.getElem?_append_left (by rw [len11]; omega)]; exact q11
  refine lv_aload_n hx hb kX0_99 rfl (lv_at hl 0 rfl) ?_
  refine lv_bipush (v := nI 6) hx hb kX0_100 (by decide) ?_
  refine w_arrF (t := 0) (n := 6) (k := n) (a := 0) (b := 12) F (by decide) (by decide) hw_ai q12 rfl (by decide) (hasW_in (i := 184) (by decide +kernel)) rfl rfl (by rw [len12, ← opn_e]; rfl) (tyX0_ok 12 (by decide)) (fun _ => rfl) (fun _ => rfl) (by rw [len12]; omega) (by rw [len12]; exact hr13) (Nat.le_of_ble_eq_true rfl) (Nat.le_of_ble_eq_true rfl) kX0_102 kX0_104 hW hS fun H locs hW hS => ?_
  have len13 : (((((((((((((((S ++ [(7, 0, (shBook n).map opn)]) ++ [(0, 5, [])]) ++ [(0, 5, [])]) ++ [(0, 24, [])]) ++ [(0, 256, [])]) ++ [(0, 12, [])]) ++ [(0, 20, [])]) ++ [(0, 24, [])]) ++ [(0, 24, [])]) ++ [(0, 20, [])]) ++ [(0, 20, [])]) ++ [(0, 20, [])]) ++ [(0, 6, [])]) ++ [(0, 6, [])]) : List pSh).length = n + 14 := by rw [List.length_append, len12]; first | rfl | done
  have q13 : (((((((((((((((S ++ [(7, 0, (shBook n).map opn)]) ++ [(0, 5, [])]) ++ [(0, 5, [])]) ++ [(0, 24, [])]) ++ [(0, 256, [])]) ++ [(0, 12, [])]) ++ [(0, 20, [])]) ++ [(0, 24, [])]) ++ [(0, 24, [])]) ++ [(0, 20, [])]) ++ [(0, 20, [])]) ++ [(0, 20, [])]) ++ [(0, 6, [])]) ++ [(0, 6, [])]) : List pSh)[n]? = some (7, 0, (shBook n).map opn) := by rw [List.getElem?_append_left (by rw [len12]; omega)]; exact q12
  have hW : wB base adK un cA dg ((((((((((((((S ++ [(7, 0, (shBook n).map opn)]) ++ [(0, 5, [])]) ++ [(0, 5, [])]) ++ [(0, 24, [])]) ++ [(0, 256, [])]) ++ [(0, 12, [])]) ++ [(0, 20, [])]) ++ [(0, 24, [])]) ++ [(0, 24, [])]) ++ [(0, 20, [])]) ++ [(0, 20, [])]) ++ [(0, 20, [])]) ++ [(0, 6, [])]) ++ [(0, 6, [])]) (dsl σ.1 n puBook, σ.2) _ := hW
  have hW := hW.close (a := 0) (n := 0) (fs := shBook n) q13 (fun b c hb hc _ => by
    match b, hb with
    | 0, hb => exact dsl_at rfl
    | 1, hb => exact dsl_at rfl
    | 2, hb => exact dsl_at rfl
    | 3, hb => exact dsl_at rfl
    | 4, hb => exact dsl_at rfl
    | 5, hb => exact dsl_at rfl
    | 6, hb => exact dsl_at rfl
    | 7, hb => exact dsl_at rfl
    | 8, hb => exact dsl_at rfl
    | 9, hb => exact dsl_at rfl
    | 10, hb => exact dsl_at rfl
    | 11, hb => exact dsl_at rfl
    | 12, hb => exact dsl_at rfl
    | b + 13, hb => cases hb)
  have hW : wB base adK un cA dg (sfBook S n) (dsl σ.1 n puBook, σ.2) _ := hW
  have lenF : (sfBook S n).length = n + 14 := by rw [List.length_set]; exact len13
  have qF : (sfBook S n)[n]? = some (7, 0, shBook n) := by rw [List.getElem?_set_self (by rw [len13]; omega)]
  refine lv_aload_n hx hb kX0_107 rfl (lv_at hl 0 rfl) ?_
  refine k_call (k := n) (me := 0) (d := 1) (ci := 0) F hml hZ.1 hno hsh hev0 hz0 rfl qF rfl (hasW_in (i := 131) (by decide +kernel)) (Nat.le_of_ble_eq_true rfl) (Nat.le_of_ble_eq_true rfl) kX0_108 hl.1 (Nat.le_of_ble_eq_true rfl) ⟨Nat.le_of_ble_eq_true rfl, Nat.le_of_ble_eq_true rfl⟩ (by rw [hW.2.1, hW0, lenF, len0, hoff]; omega) hW hS fun H locs hW hS => ?_
  refine lv_aload_n hx hb kX0_111 rfl (lv_at hl 0 rfl) ?_
  refine k_call (k := n) (me := 7) (d := 0) (ci := 0) F hml hZ.1 hno hsh hev1 hz1 rfl qF rfl (hasW_in (i := 138) (by decide +kernel)) (Nat.le_of_ble_eq_true rfl) (Nat.le_of_ble_eq_true rfl) kX0_112 hl.1 (Nat.le_of_ble_eq_true rfl) ⟨Nat.le_of_ble_eq_true rfl, Nat.le_of_ble_eq_true rfl⟩ (by rw [hW.2.1, hW0, lenF, len0, hoff]; omega) hW hS fun H locs hW hS => ?_
  exact W.vret hx hb (by rw [hr]) (fun t ht _ => ⟨rfl, by rw [ht]; exact hW, hS.F ht⟩) hS.2.2 kX0_115 hlocks
