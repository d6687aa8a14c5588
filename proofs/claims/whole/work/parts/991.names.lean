/-! CONSTRUCTORS: Names -/
theorem opn_e (r : Nat) : opn (3 + 2 * r) = 4 + 2 * r := by
  rw [show 3 + 2 * r = 2 * r + 3 by omega]
  show (if 2 * r % 2 = 0 then 2 * r + 4 else 2 * r + 3) = _
  rw [if_pos (by omega)]
  omega
theorem kX3_0 : decode cX3_init 0 = .ok (.aload_n 0, 1) := by decide +kernel
theorem kX3_1 : decode cX3_init 1 = .ok (.invokespecial 3, 3) := by decide +kernel
theorem kX3_4 : decode cX3_init 4 = .ok (.aload_n 0, 1) := by decide +kernel
theorem kX3_5 : decode cX3_init 5 = .ok (.bipush 20, 2) := by decide +kernel
theorem kX3_7 : decode cX3_init 7 = .ok (.newarray .int, 2) := by decide +kernel
theorem kX3_9 : decode cX3_init 9 = .ok (.putfield 9, 3) := by decide +kernel
theorem kX3_12 : decode cX3_init 12 = .ok (.aload_n 0, 1) := by decide +kernel
theorem kX3_13 : decode cX3_init 13 = .ok (.bipush 20, 2) := by decide +kernel
theorem kX3_15 : decode cX3_init 15 = .ok (.newarray .int, 2) := by decide +kernel
theorem kX3_17 : decode cX3_init 17 = .ok (.putfield 15, 3) := by decide +kernel
theorem kX3_20 : decode cX3_init 20 = .ok (.return_, 1) := by decide +kernel
theorem hw_oi : Cond.instanceMethod Lib.objectInit ∈ tg := hasW_in (i := 106) (by decide +kernel)
theorem hw_oc : Cond.code Lib.objectInit ⟨#[0xb1]⟩ 1 none ∈ tg := hasW_in (i := 107) (by decide +kernel)
theorem hw_ai : Cond.arrayClass (newarray.typeOf (atT 0)) ∈ tg := hasW_in (i := 214) (by decide +kernel)
abbrev shN (k : Nat) : List Nat := [3 + 2 * (k + 1), 3 + 2 * (k + 2), 0]
set_option maxHeartbeats 4000000 in
set_option maxRecDepth 100000 in
theorem k_Names (l : Launch) {base : Nat} {adK : Nat → Nat} {un : Nat} {cA : Nat → ClassId} {dg : va_G} (S : List pSh) (σ : pSt) (hn : S.length + 3 ≤ 143) (hr1 : rws (S.length + 1) = 0) (hr2 : rws (S.length + 2) = 0) : Met l yX3_init (Cond.code yX3_init cX3_init 1 none :: tg) { frames := 2, cells := 2, slots := 40, locals := 40 } (kPc base adK un cA dg [.ref (adB base adK S.length 0)] (S ++ [(10, 0, (shN S.length).map opn)]) σ) (kQc base adK un cA dg (((S ++ [(10, 0, (shN S.length).map opn)]) ++ [(0, 20, [])] ++ [(0, 20, [])]).set S.length (10, 0, shN S.length)) (dset (dset σ.1 S.length 0 0 1) S.length 0 1 1, σ.2)) 2 40 (fun q => base ≤ q) := by
  refine Met.ofW (cc := cX3_init) (maxL := 1) (ret := none) (by decide) rfl ?_
  intro p e s m args below meth c s₁ B hml hv
  obtain ⟨rfl, hW, hK⟩ := hv
  have hx := B.exec
  have hb := B.bytes
  have hr := B.returns
  have hts0 := atoms_spec (ws := Cond.code yX3_init cX3_init 1 none :: tg) B.pre
  have hts : ∀ w ∈ tg, w.before _ s = true := fun w h => hts0 w (List.mem_cons_of_mem _ h)
  have hown : s.vm.findClass RX3 = some m.cls := findClass_of_methodNamed B.named
  have hlocks := B.notSynchronized
  have F : kF p s m _ meth c cX3_init RX3 cA dg := ⟨hx, hb, hts, hown, hK, (name_of_methodNamed B.named B.method).1⟩
  have hl := lv_entry ([.ref (adB base adK S.length 0)]) (n := 1) (Nat.le_of_ble_eq_true rfl)
  rw [lg_entry_eq]
  generalize (lg_sl ([.ref (adB base adK S.length 0)]) ++ List.replicate (1 - (lg_sl ([.ref (adB base adK S.length 0)])).length) Slot.unset).toArray = ls at hl ⊢
  have hl : lv_has ls 1 [(0, .ref (adB base adK S.length 0))] := hl
  have hS : va_S (fun q => base ≤ q) s.heap s.heap [] := va_S.rf
  refine lv_aload_n hx hb kX3_0 rfl (lv_at hl 0 rfl) ?_
  refine W.objInit hx hb hown (hts _ (hasW_in (i := 228) (by decide +kernel))) (hts _ hw_oi) (hts _ hw_oc) rfl (by rw [hml]; exact hl.1) rfl kX3_1 (Nat.le_of_ble_eq_true rfl) (Nat.le_of_ble_eq_true rfl) ?_
  have len1 : (S ++ [(10, 0, (shN S.length).map opn)] : List pSh).length = S.length + 1 := by simp
  have q1 : (S ++ [(10, 0, (shN S.length).map opn)] : List pSh)[S.length]? = some (10, 0, (shN S.length).map opn) := by simp
  refine lv_aload_n hx hb kX3_4 rfl (lv_at hl 0 rfl) ?_
  refine lv_bipush (v := nI 20) hx hb kX3_5 (by decide) ?_
  refine w_arrF (t := 0) (n := 20) (k := S.length) (a := 3) (b := 0) F (by decide) (by decide) hw_ai q1 rfl (by decide) (hasW_in (i := 229) (by decide +kernel)) rfl rfl (by rw [len1, ← opn_e]; rfl) (tyX3_ok 0 (by decide)) (fun _ => rfl) (fun _ => rfl) (by rw [len1]; omega) (by rw [len1]; exact hr1) (Nat.le_of_ble_eq_true rfl) (Nat.le_of_ble_eq_true rfl) kX3_7 kX3_9 hW hS fun H1 locs1 hW1 hS1 => ?_
  have len2 : (S ++ [(10, 0, (shN S.length).map opn)] ++ [(0, 20, [])] : List pSh).length = S.length + 2 := by simp
  have q2 : (S ++ [(10, 0, (shN S.length).map opn)] ++ [(0, 20, [])] : List pSh)[S.length]? = some (10, 0, (shN S.length).map opn) := by rw [List.getElem?_append_left (by rw [len1]; omega)]; exact q1
  refine lv_aload_n hx hb kX3_12 rfl (lv_at hl 0 rfl) ?_
  refine lv_bipush (v := nI 20) hx hb kX3_13 (by decide) ?_
  refine w_arrF (t := 0) (n := 20) (k := S.length) (a := 3) (b := 1) F (by decide) (by decide) hw_ai q2 rfl (by decide) (hasW_in (i := 230) (by decide +kernel)) rfl rfl (by rw [len2, ← opn_e]; rfl) (tyX3_ok 1 (by decide)) (fun _ => rfl) (fun _ => rfl) (by rw [len2]; omega) (by rw [len2]; exact hr2) (Nat.le_of_ble_eq_true rfl) (Nat.le_of_ble_eq_true rfl) kX3_15 kX3_17 hW1 hS1 fun H2 locs2 hW2 hS2 => ?_
  have q3 : (S ++ [(10, 0, (shN S.length).map opn)] ++ [(0, 20, [])] ++ [(0, 20, [])] : List pSh)[S.length]? = some (10, 0, (shN S.length).map opn) := by rw [List.getElem?_append_left (by rw [len2]; omega)]; exact q2
  have hW3 := hW2.close (a := 3) (n := 0) (fs := shN S.length) q3 (fun b c hb hc _ => by
    match b, hb with
    | 0, hb => dsimp only; rw [dsA, if_neg (by decide), dsA, if_pos rfl]
    | 1, hb => dsimp only; rw [dsA, if_pos rfl]
    | 2, hb => cases hb; omega
    | b + 3, hb => cases hb)
  exact W.vret hx hb (by rw [hr]) (fun t ht _ => ⟨rfl, by rw [ht]; exact hW3, hS2.F ht⟩) hS2.2.2 kX3_20 hlocks
