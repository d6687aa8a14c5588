abbrev sfModel (S : List pSh) (n : Nat) : List pSh := (S ++ [(17, 0, (shModel n).map opn)] ++ mA0 ++ mA1 ++ mA2 ++ mA3 ++ mA4 ++ mA5 ++ mA6 ++ mA7).set n (17, 0, shModel n)
abbrev puModel : List (Nat × Int32) := mP0 ++ mP1 ++ mP2 ++ mP3 ++ mP4 ++ mP5 ++ mP6 ++ mP7
set_option maxHeartbeats 8000000 in
set_option maxRecDepth 100000 in
theorem k_Model (l : Launch) {base : Nat} {adK : Nat → Nat} {un : Nat} {cA : Nat → ClassId} {dg : va_G} {adV : Nat → Nat} (S : List pSh) (n : Nat) (hSn : S.length = n) (σ : pSt) (hm : 54 < n) (hn : n + 43 ≤ 143) (D0 D1 : pD) (hno : noTx (sfModel S n)) (hsh : pShOk (sfModel S n)) (hev0 : ev (sfModel S n) Pr Tx 159 0 0 (pL0 [.inr (.inr (n, 0))]) [] (dsl σ.1 n puModel, σ.2) = some (none, (D0, σ.2))) (hz0 : zB (sfModel S n).length (D0, σ.2)) (hev1 : ev (sfModel S n) Pr Tx 161 1 0 (pL0 [.inr (.inr (n, 0))]) [] (D0, σ.2) = some (none, (D1, σ.2))) (hz1 : zB (sfModel S n).length (D1, σ.2)) (hoff : offs (n + 43) = offs (n + 1) + 42) : Met l yX10_init (Cond.code yX10_init cX10_init 1 none :: tg) { frames := 12, cells := 42, slots := 4964, locals := 1000 } (kPz base adK un cA dg adV [.ref (adB base adK n 0)] (S ++ [(17, 0, (shModel n).map opn)]) σ) (kQc base adK un cA dg (sfModel S n) (D1, σ.2)) 42 4964 (fun q => base ≤ q) := by
  refine Met.ofW (cc := cX10_init) (maxL := 1) (ret := none) (by decide) rfl ?_
  intro p e s m args below meth c s₁ B hml hv
  obtain ⟨rfl, hW, hK, hZ⟩ := hv
  have hx := B.exec
  have hb := B.bytes
  have hr := B.returns
  have hts0 := atoms_spec (ws := Cond.code yX10_init cX10_init 1 none :: tg) B.pre
  have hts : ∀ w ∈ tg, w.before _ s = true := fun w h => hts0 w (List.mem_cons_of_mem _ h)
  have hown : s.vm.findClass RX10 = some m.cls := findClass_of_methodNamed B.named
  have hlocks := B.notSynchronized
  have F : kF p s m _ meth c cX10_init RX10 cA dg := ⟨hx, hb, hts, hown, hK, (name_of_methodNamed B.named B.method).1⟩
  have hl := lv_entry ([.ref (adB base adK n 0)]) (n := 1) (Nat.le_of_ble_eq_true rfl)
  rw [lg_entry_eq]
  generalize (lg_sl ([.ref (adB base adK n 0)]) ++ List.replicate (1 - (lg_sl ([.ref (adB base adK n 0)])).length) Slot.unset).toArray = ls at hl ⊢
  have hl : lv_has ls 1 [(0, .ref (adB base adK n 0))] := hl
  have hS : va_S (fun q => base ≤ q) s.heap s.heap [] := va_S.rf
  have hW0 := hW.2.1
  refine lv_aload_n hx hb kX10_0 rfl (lv_at hl 0 rfl) ?_
  refine W.objInit hx hb hown (hts _ (hasW_in (i := 1167) (by decide +kernel))) (hts _ hw_oi) (hts _ hw_oc) rfl (by rw [hml]; exact hl.1) rfl kX10_1 (Nat.le_of_ble_eq_true rfl) (Nat.le_of_ble_eq_true rfl) ?_
  have len0 : ((S ++ [(17, 0, (shModel n).map opn)]) : List pSh).length = n + 1 := by rw [List.length_append, hSn]; first | rfl | done
  have lenI := len0
  have q0 : ((S ++ [(17, 0, (shModel n).map opn)]) : List pSh)[n]? = some (17, 0, (shModel n).map opn) := by rw [List.getElem?_append_right (by omega), hSn, Nat.sub_self]; rfl
  refine mo_seg0 F hm hn hl len0 q0 hW hS fun H locs hW hS => ?_
  have len1 : (((S ++ [(17, 0, (shModel n).map opn)]) ++ mA0) : List pSh).length = n + 6 := by rw [List.length_append, len0]; first | rfl | done
  have q1 : (((S ++ [(17, 0, (shModel n).map opn)]) ++ mA0) : List pSh)[n]? = some (17, 0, (shModel n).map opn) := by rw [List.getElem?_append_left (by rw [len0]; omega)]; exact q0
  refine mo_seg1 F hm hn hl len1 q1 hW hS fun H locs hW hS => ?_
  have len2 : ((((S ++ [(17, 0, (shModel n).map opn)]) ++ mA0) ++ mA1) : List pSh).length = n + 12 := by rw [List.length_append, len1]; first | rfl | done
  have q2 : ((((S ++ [(17, 0, (shModel n).map opn)]) ++ mA0) ++ mA1) : List pSh)[n]? = some (17, 0, (shModel n).map opn) := by rw [List.getElem?_append_left (by rw [len1]; omega)]; exact q1
  refine mo_seg2 F hm hn hl len2 q2 hW hS fun H locs hW hS => ?_
  have len3 : (((((S ++ [(17, 0, (shModel n).map opn)]) ++ mA0) ++ mA1) ++ mA2) : List pSh).length = n + 18 := by rw [List.length_append, len2]; first | rfl | done
  have q3 : (((((S ++ [(17, 0, (shModel n).map opn)]) ++ mA0) ++ mA1) ++ mA2) : List pSh)[n]? = some (17, 0, (shModel n).map opn) := by rw [List.getElem?_append_left (by rw [len2]; omega)]; exact q2
  refine mo_seg3 F hm hn hl len3 q3 hW hS fun H locs hW hS => ?_
  have len4 : ((((((S ++ [(17, 0, (shModel n).map opn)]) ++ mA0) ++ mA1) ++ mA2) ++ mA3) : List pSh).length = n + 24 := by rw [List.length_append, len3]; first | rfl | done
  have q4 : ((((((S ++ [(17, 0, (shModel n).map opn)]) ++ mA0) ++ mA1) ++ mA2) ++ mA3) : List pSh)[n]? = some (17, 0, (shModel n).map opn) := by rw [List.getElem?_append_left (by rw [len3]; omega)]; exact q3
  refine mo_seg4 F hm hn hl len4 q4 hW hS fun H locs hW hS => ?_
  have len5 : (((((((S ++ [(17, 0, (shModel n).map opn)]) ++ mA0) ++ mA1) ++ mA2) ++ mA3) ++ mA4) : List pSh).length = n + 30 := by rw [List.length_append, len4]; first | rfl | done
  have q5 : (((((((S ++ [(17, 0, (shModel n).map opn)]) ++ mA0) ++ mA1) ++ mA2) ++ mA3) ++ mA4) : List pSh)[n]? = some (17, 0, (shModel n).map opn) := by rw [List.getElem?_append_left (by rw [len4]; omega)]; exact q4
  refine mo_seg5 F hm hn hl len5 q5 hW hS fun H locs hW hS => ?_
  have len6 : ((((((((S ++ [(17, 0, (shModel n).map opn)]) ++ mA0) ++ mA1) ++ mA2) ++ mA3) ++ mA4) ++ mA5) : List pSh).length = n + 36 := by rw [List.length_append, len5]; first | rfl | done
  have q6 : ((((((((S ++ [(17, 0, (shModel n).map opn)]) ++ mA0) ++ mA1) ++ mA2) ++ mA3) ++ mA4) ++ mA5) : List pSh)[n]? = some (17, 0, (shModel n).map opn) := by rw [List.getElem?_append_left (by rw [len5]; omega)]; exact q5
  refine mo_seg6 F hm hn hl len6 q6 hW hS fun H locs hW hS => ?_
  have len7 : (((((((((S ++ [(17, 0, (shModel n).map opn)]) ++ mA0) ++ mA1) ++ mA2) ++ mA3) ++ mA4) ++ mA5) ++ mA6) : List pSh).length = n + 42 := by rw [List.length_append, len6]; first | rfl | done
  have q7 : (((((((((S ++ [(17, 0, (shModel n).map opn)]) ++ mA0) ++ mA1) ++ mA2) ++ mA3) ++ mA4) ++ mA5) ++ mA6) : List pSh)[n]? = some (17, 0, (shModel n).map opn) := by rw [List.getElem?_append_left (by rw [len6]; omega)]; exact q6
  refine mo_seg7 F hm hn hl len7 q7 hW hS fun H locs hW hS => ?_
  have len8 : ((((((((((S ++ [(17, 0, (shModel n).map opn)]) ++ mA0) ++ mA1) ++ mA2) ++ mA3) ++ mA4) ++ mA5) ++ mA6) ++ mA7) : List pSh).length = n + 43 := by rw [List.length_append, len7]; first | rfl | done
  have q8 : ((((((((((S ++ [(17, 0, (shModel n).map opn)]) ++ mA0) ++ mA1) ++ mA2) ++ mA3) ++ mA4) ++ mA5) ++ mA6) ++ mA7) : List pSh)[n]? = some (17, 0, (shModel n).map opn) := by rw [List.getElem?_append_left (by rw [len7]; omega)]; exact q7
  have hW : wB base adK un cA dg (((((((((S ++ [(17, 0, (shModel n).map opn)]) ++ mA0) ++ mA1) ++ mA2) ++ mA3) ++ mA4) ++ mA5) ++ mA6) ++ mA7) (dsl σ.1 n puModel, σ.2) _ := hW
  have hW := hW.close (a := 10) (n := 0) (fs := shModel n) q8 (fun b c hb hc _ => by
    match b, hb with
    | 0, hb => exact dsl_at rfl
    | 1, hb => cases hb; omega
    | 2, hb => cases hb; omega
    | 3, hb => cases hb; omega
    | 4, hb => cases hb; omega
    | 5, hb => cases hb; omega
    | 6, hb => cases hb; omega
    | 7, hb => cases hb; omega
    | 8, hb => cases hb; omega
    | 9, hb => cases hb; omega
    | 10, hb => cases hb; omega
    | 11, hb => cases hb; omega
    | 12, hb => cases hb; omega
    | 13, hb => exact dsl_at rfl
    | 14, hb => exact dsl_at rfl
    | 15, hb => exact dsl_at rfl
    | 16, hb => exact dsl_at rfl
    | 17, hb => exact dsl_at rfl
    | 18, hb => exact dsl_at rfl
    | 19, hb => exact dsl_at rfl
    | 20, hb => exact dsl_at rfl
    | 21, hb => exact dsl_at rfl
    | 22, hb => exact dsl_at rfl
    | 23, hb => exact dsl_at rfl
    | 24, hb => exact dsl_at rfl
    | 25, hb => exact dsl_at rfl
    | 26, hb => cases hb; omega
    | 27, hb => exact dsl_at rfl
    | 28, hb => exact dsl_at rfl
    | 29, hb => exact dsl_at rfl
    | 30, hb => exact dsl_at rfl
    | 31, hb => exact dsl_at rfl
    | 32, hb => exact dsl_at rfl
    | 33, hb => exact dsl_at rfl
    | 34, hb => exact dsl_at rfl
    | 35, hb => exact dsl_at rfl
    | 36, hb => exact dsl_at rfl
    | 37, hb => exact dsl_at rfl
    | 38, hb => exact dsl_at rfl
    | 39, hb => exact dsl_at rfl
    | 40, hb => exact dsl_at rfl
    | 41, hb => exact dsl_at rfl
    | 42, hb => exact dsl_at rfl
    | 43, hb => exact dsl_at rfl
    | 44, hb => cases hb; omega
    | 45, hb => exact dsl_at rfl
    | 46, hb => exact dsl_at rfl
    | 47, hb => exact dsl_at rfl
    | 48, hb => cases hb; omega
    | 49, hb => cases hb; omega
    | 50, hb => cases hb; omega
    | 51, hb => exact dsl_at rfl
    | 52, hb => exact dsl_at rfl
    | 53, hb => exact dsl_at rfl
    | 54, hb => exact dsl_at rfl
    | 55, hb => exact dsl_at rfl
    | 56, hb => exact dsl_at rfl
    | 57, hb => exact dsl_at rfl
    | 58, hb => exact dsl_at rfl
    | b + 59, hb => cases hb)
  have hW : wB base adK un cA dg (sfModel S n) (dsl σ.1 n puModel, σ.2) _ := hW
  have lenF : (sfModel S n).length = n + 43 := by rw [List.length_set]; exact len8
  have qF : (sfModel S n)[n]? = some (17, 0, shModel n) := by rw [List.getElem?_set_self (by rw [len8]; omega)]
  refine lv_aload_n hx hb kX10_342 rfl (lv_at hl 0 rfl) ?_
  refine k_call (k := n) (me := 159) (d := 0) (ci := 10) F hml hZ.1 hno hsh hev0 hz0 rfl qF rfl (hasW_in (i := 1168) (by decide +kernel)) (Nat.le_of_ble_eq_true rfl) (Nat.le_of_ble_eq_true rfl) kX10_343 hl.1 (Nat.le_of_ble_eq_true rfl) ⟨Nat.le_of_ble_eq_true rfl, Nat.le_of_ble_eq_true rfl⟩ (by rw [hW.2.1, hW0, lenF, lenI, hoff]; omega) hW hS fun H locs hW hS => ?_
  refine lv_aload_n hx hb kX10_346 rfl (lv_at hl 0 rfl) ?_
  refine k_call (k := n) (me := 161) (d := 1) (ci := 10) F hml hZ.1 hno hsh hev1 hz1 rfl qF rfl (hasW_in (i := 1172) (by decide +kernel)) (Nat.le_of_ble_eq_true rfl) (Nat.le_of_ble_eq_true rfl) kX10_347 hl.1 (Nat.le_of_ble_eq_true rfl) ⟨Nat.le_of_ble_eq_true rfl, Nat.le_of_ble_eq_true rfl⟩ (by rw [hW.2.1, hW0, lenF, lenI, hoff]; omega) hW hS fun H locs hW hS => ?_
  exact W.vret hx hb (by rw [hr]) (fun t ht _ => ⟨rfl, by rw [ht]; exact hW, hS.F ht⟩) hS.2.2 kX10_350 hlocks
