/-! CONSTRUCTORS: the straight ones -/
theorem hw_ab : Cond.arrayClass (newarray.typeOf (atT 1)) ∈ tg := hasW_in (i := 124) (by decide +kernel)
section REFF
variable {p : Program} {l : Launch} {e : Env} {R : Room} {s : State} {m : MethodId} {args : Array Value} {below : List Frame} {meth : Method} {c : Code} {Q : State → Prop} {S : List pSh} {base : Nat} {adK : Nat → Nat} {un : Nat} {cA : Nat → ClassId} {dg : va_G} {H H0 : Heap} {locs : List Loc} {cells slots pc : Nat} {ls : Array Slot} {rest : List Value} {cc : ByteArray} {σ : pSt}
/-- a cell into a final field -/
theorem w_refF {own : String} (F : kF p s m args meth c cc own cA dg) {k a b i N nk r : Nat} {fs : List Nat} {C : String} {T : u_T} {ty : FieldType} (hq : S[k]? = some (a + 7, nk, fs)) (hc : vwCl[a]? = some (C, T, N)) (hbN : b < N) (hlk : Cond.fieldLink own i (T b).1 (T b).2.1 (T b).2.2.1 ∈ tg) (hfin : (T b).2.2.2 = true) (hdecl : (T b).1 = own) (hcd : fs[b]? = some (4 + 2 * r)) (hd : parseFieldDescriptor (T b).2.2.1 = some ty) (hnr : ∀ a, narrow ty (.ref a) = .ref a) (hfit : ∀ a, fits ty (.ref a) = true) (d1 : decode cc pc = .ok (.putfield i, 3)) (hW : wB base adK un cA dg S σ H) (hS : va_S (fun q => base ≤ q) H0 H locs)
    (kk : ∀ (H1 : Heap) (locs1 : List Loc), wB base adK un cA dg S (dset σ.1 k 0 b 1, σ.2) H1 → va_S (fun q => base ≤ q) H0 H1 locs1 → W p l e R s m args below meth c H1 locs1 cells slots Q (F0 m (pc + 3) ls rest)) : W p l e R s m args below meth c H locs cells slots Q (F0 m pc ls (.ref (adB base adK r 0) :: .ref (adB base adK k 0) :: rest)) := by
  obtain ⟨hx, hb, hts, hown, hK, hin⟩ := F
  obtain ⟨w1, w2, w3, w4⟩ := hW
  have hkl : k < S.length := (List.getElem?_eq_some_iff.mp hq).1
  refine w_putF (σ2 := (dset σ.1 k 0 b 1, σ.2)) (cd := 4 + 2 * r) hx hb hts tg_cl hown hK (pAp_B w4) hin hq hc hbN hlk hfin hdecl hcd hd (hnr _) (hfit _) (pFv_up _ _) (fun j c hj => pFv_ne _ _ hj) (fun k' j' hne => pCe_dset hne) d1 w1 hS fun H2 locs2 f1 f2 f3 => ?_
  exact kk H2 locs2 ⟨f1, by rw [f2, w2], w3.set hkl, w4⟩ f3
end REFF
theorem kX7_0 : decode cX7_init 0 = .ok (.aload_n 0, 1) := by decide +kernel
theorem kX7_1 : decode cX7_init 1 = .ok (.invokespecial 1, 3) := by decide +kernel
theorem kX7_4 : decode cX7_init 4 = .ok (.aload_n 0, 1) := by decide +kernel
theorem kX7_5 : decode cX7_init 5 = .ok (.sipush 1200, 3) := by decide +kernel
theorem kX7_8 : decode cX7_init 8 = .ok (.newarray .byte, 2) := by decide +kernel
theorem kX7_10 : decode cX7_init 10 = .ok (.putfield 9, 3) := by decide +kernel
theorem kX7_13 : decode cX7_init 13 = .ok (.return_, 1) := by decide +kernel
abbrev shTape (k : Nat) : List Nat := [3 + 2 * (k + 1), 0]
set_option maxHeartbeats 4000000 in
set_option maxRecDepth 100000 in
theorem k_Tape (l : Launch) {base : Nat} {adK : Nat → Nat} {un : Nat} {cA : Nat → ClassId} {dg : va_G} (S : List pSh) (σ : pSt) (hn : S.length + 2 ≤ 143) (hr1 : rws (S.length + 1) = 0) : Met l yX7_init (Cond.code yX7_init cX7_init 1 none :: tg) { frames := 2, cells := 1, slots := 1200, locals := 40 } (kPc base adK un cA dg [.ref (adB base adK S.length 0)] (S ++ [(14, 0, (shTape S.length).map opn)]) σ) (kQc base adK un cA dg (((S ++ [(14, 0, (shTape S.length).map opn)]) ++ [(1, 1200, [])]).set S.length (14, 0, shTape S.length)) ((dset σ.1 S.length 0 0 1), σ.2)) 1 1200 (fun q => base ≤ q) := by
  refine Met.ofW (cc := cX7_init) (maxL := 1) (ret := none) (by decide) rfl ?_
  intro p e s m args below meth c s₁ B hml hv
  obtain ⟨rfl, hW, hK⟩ := hv
  have hx := B.exec
  have hb := B.bytes
  have hr := B.returns
  have hts0 := atoms_spec (ws := Cond.code yX7_init cX7_init 1 none :: tg) B.pre
  have hts : ∀ w ∈ tg, w.before _ s = true := fun w h => hts0 w (List.mem_cons_of_mem _ h)
  have hown : s.vm.findClass RX7 = some m.cls := findClass_of_methodNamed B.named
  have hlocks := B.notSynchronized
  have F : kF p s m _ meth c cX7_init RX7 cA dg := ⟨hx, hb, hts, hown, hK, (name_of_methodNamed B.named B.method).1⟩
  have hl := lv_entry ([.ref (adB base adK S.length 0)]) (n := 1) (Nat.le_of_ble_eq_true rfl)
  rw [lg_entry_eq]
  generalize (lg_sl ([.ref (adB base adK S.length 0)]) ++ List.replicate (1 - (lg_sl ([.ref (adB base adK S.length 0)])).length) Slot.unset).toArray = ls at hl ⊢
  have hl : lv_has ls 1 [(0, .ref (adB base adK S.length 0))] := hl
  have hS : va_S (fun q => base ≤ q) s.heap s.heap [] := va_S.rf
  refine lv_aload_n hx hb kX7_0 rfl (lv_at hl 0 rfl) ?_
  refine W.objInit hx hb hown (hts _ (hasW_in (i := 113) (by decide +kernel))) (hts _ hw_oi) (hts _ hw_oc) rfl (by rw [hml]; exact hl.1) rfl kX7_1 (Nat.le_of_ble_eq_true rfl) (Nat.le_of_ble_eq_true rfl) ?_
  have len0 : ((S ++ [(14, 0, (shTape S.length).map opn)]) : List pSh).length = S.length + 1 := by simp
  have q0 : ((S ++ [(14, 0, (shTape S.length).map opn)]) : List pSh)[S.length]? = some (14, 0, (shTape S.length).map opn) := by simp
  refine lv_aload_n hx hb kX7_4 rfl (lv_at hl 0 rfl) ?_
  refine lv_sipush (v := nI 1200) hx hb kX7_5 (by decide) ?_
  refine w_arrF (t := 1) (n := 1200) (k := S.length) (a := 7) (b := 0) F (by decide) (by decide) hw_ab q0 rfl (by decide) (hasW_in (i := 114) (by decide +kernel)) rfl rfl (by rw [len0, ← opn_e]; rfl) (tyX7_ok 0 (by decide)) (fun _ => rfl) (fun _ => rfl) (by rw [len0]; omega) (by rw [len0]; exact hr1) (Nat.le_of_ble_eq_true rfl) (Nat.le_of_ble_eq_true rfl) kX7_8 kX7_10 hW hS fun H locs hW hS => ?_
  have len1 : (((S ++ [(14, 0, (shTape S.length).map opn)]) ++ [(1, 1200, [])]) : List pSh).length = S.length + 2 := by simp
  have q1 : (((S ++ [(14, 0, (shTape S.length).map opn)]) ++ [(1, 1200, [])]) : List pSh)[S.length]? = some (14, 0, (shTape S.length).map opn) := by rw [List.getElem?_append_left (by rw [len0]; omega)]; exact q0
  have hW3 := hW.close (a := 7) (n := 0) (fs := shTape S.length) q1 (fun b c hb hc _ => by
    match b, hb with
    | 0, hb => dsimp only; rw [dsA, if_pos rfl]
    | 1, hb => cases hb; omega
    | b + 2, hb => cases hb)
  exact W.vret hx hb (by rw [hr]) (fun t ht _ => ⟨rfl, by rw [ht]; exact hW3, hS.F ht⟩) hS.2.2 kX7_13 hlocks
theorem kX1_0 : decode cX1_init 0 = .ok (.aload_n 0, 1) := by decide +kernel
theorem kX1_1 : decode cX1_init 1 = .ok (.invokespecial 3, 3) := by decide +kernel
theorem kX1_4 : decode cX1_init 4 = .ok (.aload_n 0, 1) := by decide +kernel
theorem kX1_5 : decode cX1_init 5 = .ok (.sipush 1920, 3) := by decide +kernel
theorem kX1_8 : decode cX1_init 8 = .ok (.newarray .byte, 2) := by decide +kernel
theorem kX1_10 : decode cX1_init 10 = .ok (.putfield 11, 3) := by decide +kernel
theorem kX1_13 : decode cX1_init 13 = .ok (.return_, 1) := by decide +kernel
abbrev shFour (k : Nat) : List Nat := [3 + 2 * (k + 1)]
set_option maxHeartbeats 4000000 in
set_option maxRecDepth 100000 in
theorem k_Four (l : Launch) {base : Nat} {adK : Nat → Nat} {un : Nat} {cA : Nat → ClassId} {dg : va_G} (S : List pSh) (σ : pSt) (hn : S.length + 2 ≤ 143) (hr1 : rws (S.length + 1) = 0) : Met l yX1_init (Cond.code yX1_init cX1_init 1 none :: tg) { frames := 2, cells := 1, slots := 1920, locals := 40 } (kPc base adK un cA dg [.ref (adB base adK S.length 0)] (S ++ [(8, 0, (shFour S.length).map opn)]) σ) (kQc base adK un cA dg (((S ++ [(8, 0, (shFour S.length).map opn)]) ++ [(1, 1920, [])]).set S.length (8, 0, shFour S.length)) ((dset σ.1 S.length 0 0 1), σ.2)) 1 1920 (fun q => base ≤ q) := by
  refine Met.ofW (cc := cX1_init) (maxL := 1) (ret := none) (by decide) rfl ?_
  intro p e s m args below meth c s₁ B hml hv
  obtain ⟨rfl, hW, hK⟩ := hv
  have hx := B.exec
  have hb := B.bytes
  have hr := B.returns
  have hts0 := atoms_spec (ws := Cond.code yX1_init cX1_init 1 none :: tg) B.pre
  have hts : ∀ w ∈ tg, w.before _ s = true := fun w h => hts0 w (List.mem_cons_of_mem _ h)
  have hown : s.vm.findClass RX1 = some m.cls := findClass_of_methodNamed B.named
  have hlocks := B.notSynchronized
  have F : kF p s m _ meth c cX1_init RX1 cA dg := ⟨hx, hb, hts, hown, hK, (name_of_methodNamed B.named B.method).1⟩
  have hl := lv_entry ([.ref (adB base adK S.length 0)]) (n := 1) (Nat.le_of_ble_eq_true rfl)
  rw [lg_entry_eq]
  generalize (lg_sl ([.ref (adB base adK S.length 0)]) ++ List.replicate (1 - (lg_sl ([.ref (adB base adK S.length 0)])).length) Slot.unset).toArray = ls at hl ⊢
  have hl : lv_has ls 1 [(0, .ref (adB base adK S.length 0))] := hl
  have hS : va_S (fun q => base ≤ q) s.heap s.heap [] := va_S.rf
  refine lv_aload_n hx hb kX1_0 rfl (lv_at hl 0 rfl) ?_
  refine W.objInit hx hb hown (hts _ (hasW_in (i := 367) (by decide +kernel))) (hts _ hw_oi) (hts _ hw_oc) rfl (by rw [hml]; exact hl.1) rfl kX1_1 (Nat.le_of_ble_eq_true rfl) (Nat.le_of_ble_eq_true rfl) ?_
  have len0 : ((S ++ [(8, 0, (shFour S.length).map opn)]) : List pSh).length = S.length + 1 := by simp
  have q0 : ((S ++ [(8, 0, (shFour S.length).map opn)]) : List pSh)[S.length]? = some (8, 0, (shFour S.length).map opn) := by simp
  refine lv_aload_n hx hb kX1_4 rfl (lv_at hl 0 rfl) ?_
  refine lv_sipush (v := nI 1920) hx hb kX1_5 (by decide) ?_
  refine w_arrF (t := 1) (n := 1920) (k := S.length) (a := 1) (b := 0) F (by decide) (by decide) hw_ab q0 rfl (by decide) (hasW_in (i := 368) (by decide +kernel)) rfl rfl (by rw [len0, ← opn_e]; rfl) (tyX1_ok 0 (by decide)) (fun _ => rfl) (fun _ => rfl) (by rw [len0]; omega) (by rw [len0]; exact hr1) (Nat.le_of_ble_eq_true rfl) (Nat.le_of_ble_eq_true rfl) kX1_8 kX1_10 hW hS fun H locs hW hS => ?_
  have len1 : (((S ++ [(8, 0, (shFour S.length).map opn)]) ++ [(1, 1920, [])]) : List pSh).length = S.length + 2 := by simp
  have q1 : (((S ++ [(8, 0, (shFour S.length).map opn)]) ++ [(1, 1920, [])]) : List pSh)[S.length]? = some (8, 0, (shFour S.length).map opn) := by rw [List.getElem?_append_left (by rw [len0]; omega)]; exact q0
  have hW3 := hW.close (a := 1) (n := 0) (fs := shFour S.length) q1 (fun b c hb hc _ => by
    match b, hb with
    | 0, hb => dsimp only; rw [dsA, if_pos rfl]
    | b + 1, hb => cases hb)
  exact W.vret hx hb (by rw [hr]) (fun t ht _ => ⟨rfl, by rw [ht]; exact hW3, hS.F ht⟩) hS.2.2 kX1_13 hlocks
theorem kX2_0 : decode cX2_init 0 = .ok (.aload_n 0, 1) := by decide +kernel
theorem kX2_1 : decode cX2_init 1 = .ok (.invokespecial 3, 3) := by decide +kernel
theorem kX2_4 : decode cX2_init 4 = .ok (.aload_n 0, 1) := by decide +kernel
theorem kX2_5 : decode cX2_init 5 = .ok (.bipush 30, 2) := by decide +kernel
theorem kX2_7 : decode cX2_init 7 = .ok (.newarray .int, 2) := by decide +kernel
theorem kX2_9 : decode cX2_init 9 = .ok (.putfield 11, 3) := by decide +kernel
theorem kX2_12 : decode cX2_init 12 = .ok (.aload_n 0, 1) := by decide +kernel
theorem kX2_13 : decode cX2_init 13 = .ok (.bipush 30, 2) := by decide +kernel
theorem kX2_15 : decode cX2_init 15 = .ok (.newarray .int, 2) := by decide +kernel
theorem kX2_17 : decode cX2_init 17 = .ok (.putfield 15, 3) := by decide +kernel
theorem kX2_20 : decode cX2_init 20 = .ok (.aload_n 0, 1) := by decide +kernel
theorem kX2_21 : decode cX2_init 21 = .ok (.bipush 30, 2) := by decide +kernel
theorem kX2_23 : decode cX2_init 23 = .ok (.newarray .int, 2) := by decide +kernel
theorem kX2_25 : decode cX2_init 25 = .ok (.putfield 18, 3) := by decide +kernel
theorem kX2_28 : decode cX2_init 28 = .ok (.aload_n 0, 1) := by decide +kernel
theorem kX2_29 : decode cX2_init 29 = .ok (.bipush 30, 2) := by decide +kernel
theorem kX2_31 : decode cX2_init 31 = .ok (.newarray .int, 2) := by decide +kernel
theorem kX2_33 : decode cX2_init 33 = .ok (.putfield 21, 3) := by decide +kernel
theorem kX2_36 : decode cX2_init 36 = .ok (.aload_n 0, 1) := by decide +kernel
theorem kX2_37 : decode cX2_init 37 = .ok (.bipush 30, 2) := by decide +kernel
theorem kX2_39 : decode cX2_init 39 = .ok (.newarray .int, 2) := by decide +kernel
theorem kX2_41 : decode cX2_init 41 = .ok (.putfield 24, 3) := by decide +kernel
theorem kX2_44 : decode cX2_init 44 = .ok (.aload_n 0, 1) := by decide +kernel
theorem kX2_45 : decode cX2_init 45 = .ok (.bipush 20, 2) := by decide +kernel
theorem kX2_47 : decode cX2_init 47 = .ok (.newarray .int, 2) := by decide +kernel
theorem kX2_49 : decode cX2_init 49 = .ok (.putfield 27, 3) := by decide +kernel
theorem kX2_52 : decode cX2_init 52 = .ok (.aload_n 0, 1) := by decide +kernel
theorem kX2_53 : decode cX2_init 53 = .ok (.bipush 20, 2) := by decide +kernel
theorem kX2_55 : decode cX2_init 55 = .ok (.newarray .int, 2) := by decide +kernel
theorem kX2_57 : decode cX2_init 57 = .ok (.putfield 30, 3) := by decide +kernel
theorem kX2_60 : decode cX2_init 60 = .ok (.aload_n 0, 1) := by decide +kernel
theorem kX2_61 : decode cX2_init 61 = .ok (.bipush 20, 2) := by decide +kernel
theorem kX2_63 : decode cX2_init 63 = .ok (.newarray .int, 2) := by decide +kernel
theorem kX2_65 : decode cX2_init 65 = .ok (.putfield 33, 3) := by decide +kernel
theorem kX2_68 : decode cX2_init 68 = .ok (.aload_n 0, 1) := by decide +kernel
theorem kX2_69 : decode cX2_init 69 = .ok (.bipush 30, 2) := by decide +kernel
theorem kX2_71 : decode cX2_init 71 = .ok (.newarray .int, 2) := by decide +kernel
theorem kX2_73 : decode cX2_init 73 = .ok (.putfield 36, 3) := by decide +kernel
theorem kX2_76 : decode cX2_init 76 = .ok (.aload_n 0, 1) := by decide +kernel
theorem kX2_77 : decode cX2_init 77 = .ok (.sipush 300, 3) := by decide +kernel
theorem kX2_80 : decode cX2_init 80 = .ok (.newarray .int, 2) := by decide +kernel
theorem kX2_82 : decode cX2_init 82 = .ok (.putfield 39, 3) := by decide +kernel
theorem kX2_85 : decode cX2_init 85 = .ok (.return_, 1) := by decide +kernel
abbrev shLaughs (k : Nat) : List Nat := [3 + 2 * (k + 1), 3 + 2 * (k + 2), 3 + 2 * (k + 3), 3 + 2 * (k + 4), 3 + 2 * (k + 5), 3 + 2 * (k + 6), 3 + 2 * (k + 7), 3 + 2 * (k + 8), 3 + 2 * (k + 9), 3 + 2 * (k + 10), 0, 0, 0, 0]
set_option maxHeartbeats 4000000 in
set_option maxRecDepth 100000 in
theorem k_Laughs (l : Launch) {base : Nat} {adK : Nat → Nat} {un : Nat} {cA : Nat → ClassId} {dg : va_G} (S : List pSh) (σ : pSt) (hn : S.length + 11 ≤ 143) (hr1 : rws (S.length + 1) = 0) (hr2 : rws (S.length + 2) = 0) (hr3 : rws (S.length + 3) = 0) (hr4 : rws (S.length + 4) = 0) (hr5 : rws (S.length + 5) = 0) (hr6 : rws (S.length + 6) = 0) (hr7 : rws (S.length + 7) = 0) (hr8 : rws (S.length + 8) = 0) (hr9 : rws (S.length + 9) = 0) (hr10 : rws (S.length + 10) = 0) : Met l yX2_init (Cond.code yX2_init cX2_init 1 none :: tg) { frames := 2, cells := 10, slots := 540, locals := 40 } (kPc base adK un cA dg [.ref (adB base adK S.length 0)] (S ++ [(9, 0, (shLaughs S.length).map opn)]) σ) (kQc base adK un cA dg ((((((((((((S ++ [(9, 0, (shLaughs S.length).map opn)]) ++ [(0, 30, [])]) ++ [(0, 30, [])]) ++ [(0, 30, [])]) ++ [(0, 30, [])]) ++ [(0, 30, [])]) ++ [(0, 20, [])]) ++ [(0, 20, [])]) ++ [(0, 20, [])]) ++ [(0, 30, [])]) ++ [(0, 300, [])]).set S.length (9, 0, shLaughs S.length)) ((dset (dset (dset (dset (dset (dset (dset (dset (dset (dset σ.1 S.length 0 0 1) S.length 0 1 1) S.length 0 2 1) S.length 0 3 1) S.length 0 4 1) S.length 0 5 1) S.length 0 6 1) S.length 0 7 1) S.length 0 8 1) S.length 0 9 1), σ.2)) 10 540 (fun q => base ≤ q) := by
  refine Met.ofW (cc := cX2_init) (maxL := 1) (ret := none) (by decide) rfl ?_
  intro p e s m args below meth c s₁ B hml hv
  obtain ⟨rfl, hW, hK⟩ := hv
  have hx := B.exec
  have hb := B.bytes
  have hr := B.returns
  have hts0 := atoms_spec (ws := Cond.code yX2_init cX2_init 1 none :: tg) B.pre
  have hts : ∀ w ∈ tg, w.before _ s = true := fun w h => hts0 w (List.mem_cons_of_mem _ h)
  have hown : s.vm.findClass RX2 = some m.cls := findClass_of_methodNamed B.named
  have hlocks := B.notSynchronized
  have F : kF p s m _ meth c cX2_init RX2 cA dg := ⟨hx, hb, hts, hown, hK, (name_of_methodNamed B.named B.method).1⟩
  have hl := lv_entry ([.ref (adB base adK S.length 0)]) (n := 1) (Nat.le_of_ble_eq_true rfl)
  rw [lg_entry_eq]
  generalize (lg_sl ([.ref (adB base adK S.length 0)]) ++ List.replicate (1 - (lg_sl ([.ref (adB base adK S.length 0)])).length) Slot.unset).toArray = ls at hl ⊢
  have hl : lv_has ls 1 [(0, .ref (adB base adK S.length 0))] := hl
  have hS : va_S (fun q => base ≤ q) s.heap s.heap [] := va_S.rf
  refine lv_aload_n hx hb kX2_0 rfl (lv_at hl 0 rfl) ?_
  refine W.objInit hx hb hown (hts _ (hasW_in (i := 406) (by decide +kernel))) (hts _ hw_oi) (hts _ hw_oc) rfl (by rw [hml]; exact hl.1) rfl kX2_1 (Nat.le_of_ble_eq_true rfl) (Nat.le_of_ble_eq_true rfl) ?_
  have len0 : ((S ++ [(9, 0, (shLaughs S.length).map opn)]) : List pSh).length = S.length + 1 := by simp
  have q0 : ((S ++ [(9, 0, (shLaughs S.length).map opn)]) : List pSh)[S.length]? = some (9, 0, (shLaughs S.length).map opn) := by simp
  refine lv_aload_n hx hb kX2_4 rfl (lv_at hl 0 rfl) ?_
  refine lv_bipush (v := nI 30) hx hb kX2_5 (by decide) ?_
  refine w_arrF (t := 0) (n := 30) (k := S.length) (a := 2) (b := 0) F (by decide) (by decide) hw_ai q0 rfl (by decide) (hasW_in (i := 407) (by decide +kernel)) rfl rfl (by rw [len0, ← opn_e]; rfl) (tyX2_ok 0 (by decide)) (fun _ => rfl) (fun _ => rfl) (by rw [len0]; omega) (by rw [len0]; exact hr1) (Nat.le_of_ble_eq_true rfl) (Nat.le_of_ble_eq_true rfl) kX2_7 kX2_9 hW hS fun H locs hW hS => ?_
  have len1 : (((S ++ [(9, 0, (shLaughs S.length).map opn)]) ++ [(0, 30, [])]) : List pSh).length = S.length + 2 := by simp
  have q1 : (((S ++ [(9, 0, (shLaughs S.length).map opn)]) ++ [(0, 30, [])]) : List pSh)[S.length]? = some (9, 0, (shLaughs S.length).map opn) := by rw [List.getElem?_append_left (by rw [len0]; omega)]; exact q0
  refine lv_aload_n hx hb kX2_12 rfl (lv_at hl 0 rfl) ?_
  refine lv_bipush (v := nI 30) hx hb kX2_13 (by decide) ?_
  refine w_arrF (t := 0) (n := 30) (k := S.length) (a := 2) (b := 1) F (by decide) (by decide) hw_ai q1 rfl (by decide) (hasW_in (i := 408) (by decide +kernel)) rfl rfl (by rw [len1, ← opn_e]; rfl) (tyX2_ok 1 (by decide)) (fun _ => rfl) (fun _ => rfl) (by rw [len1]; omega) (by rw [len1]; exact hr2) (Nat.le_of_ble_eq_true rfl) (Nat.le_of_ble_eq_true rfl) kX2_15 kX2_17 hW hS fun H locs hW hS => ?_
  have len2 : ((((S ++ [(9, 0, (shLaughs S.length).map opn)]) ++ [(0, 30, [])]) ++ [(0, 30, [])]) : List pSh).length = S.length + 3 := by simp
  have q2 : ((((S ++ [(9, 0, (shLaughs S.length).map opn)]) ++ [(0, 30, [])]) ++ [(0, 30, [])]) : List pSh)[S.length]? = some (9, 0, (shLaughs S.length).map opn) := by rw [List.getElem?_append_left (by rw [len1]; omega)]; exact q1
  refine lv_aload_n hx hb kX2_20 rfl (lv_at hl 0 rfl) ?_
  refine lv_bipush (v := nI 30) hx hb kX2_21 (by decide) ?_
  refine w_arrF (t := 0) (n := 30) (k := S.length) (a := 2) (b := 2) F (by decide) (by decide) hw_ai q2 rfl (by decide) (hasW_in (i := 409) (by decide +kernel)) rfl rfl (by rw [len2, ← opn_e]; rfl) (tyX2_ok 2 (by decide)) (fun _ => rfl) (fun _ => rfl) (by rw [len2]; omega) (by rw [len2]; exact hr3) (Nat.le_of_ble_eq_true rfl) (Nat.le_of_ble_eq_true rfl) kX2_23 kX2_25 hW hS fun H locs hW hS => ?_
  have len3 : (((((S ++ [(9, 0, (shLaughs S.length).map opn)]) ++ [(0, 30, [])]) ++ [(0, 30, [])]) ++ [(0, 30, [])]) : List pSh).length = S.length + 4 := by simp
  have q3 : (((((S ++ [(9, 0, (shLaughs S.length).map opn)]) ++ [(0, 30, [])]) ++ [(0, 30, [])]) ++ [(0, 30, [])]) : List pSh)[S.length]? = some (9, 0, (shLaughs S.length).map opn) := by rw [List.getElem?_append_left (by rw [len2]; omega)]; exact q2
  refine lv_aload_n hx hb kX2_28 rfl (lv_at hl 0 rfl) ?_
  refine lv_bipush (v := nI 30) hx hb kX2_29 (by decide) ?_
  refine w_arrF (t := 0) (n := 30) (k := S.length) (a := 2) (b := 3) F (by decide) (by decide) hw_ai q3 rfl (by decide) (hasW_in (i := 410) (by decide +kernel)) rfl rfl (by rw [len3, ← opn_e]; rfl) (tyX2_ok 3 (by decide)) (fun _ => rfl) (fun _ => rfl) (by rw [len3]; omega) (by rw [len3]; exact hr4) (Nat.le_of_ble_eq_true rfl) (Nat.le_of_ble_eq_true rfl) kX2_31 kX2_33 hW hS fun H locs hW hS => ?_
  have len4 : ((((((S ++ [(9, 0, (shLaughs S.length).map opn)]) ++ [(0, 30, [])]) ++ [(0, 30, [])]) ++ [(0, 30, [])]) ++ [(0, 30, [])]) : List pSh).length = S.length + 5 := by simp
  have q4 : ((((((S ++ [(9, 0, (shLaughs S.length).map opn)]) ++ [(0, 30, [])]) ++ [(0, 30, [])]) ++ [(0, 30, [])]) ++ [(0, 30, [])]) : List pSh)[S.length]? = some (9, 0, (shLaughs S.length).map opn) := by rw [List.getElem?_append_left (by rw [len3]; omega)]; exact q3
  refine lv_aload_n hx hb kX2_36 rfl (lv_at hl 0 rfl) ?_
  refine lv_bipush (v := nI 30) hx hb kX2_37 (by decide) ?_
  refine w_arrF (t := 0) (n := 30) (k := S.length) (a := 2) (b := 4) F (by decide) (by decide) hw_ai q4 rfl (by decide) (hasW_in (i := 411) (by decide +kernel)) rfl rfl (by rw [len4, ← opn_e]; rfl) (tyX2_ok 4 (by decide)) (fun _ => rfl) (fun _ => rfl) (by rw [len4]; omega) (by rw [len4]; exact hr5) (Nat.le_of_ble_eq_true rfl) (Nat.le_of_ble_eq_true rfl) kX2_39 kX2_41 hW hS fun H locs hW hS => ?_
  have len5 : (((((((S ++ [(9, 0, (shLaughs S.length).map opn)]) ++ [(0, 30, [])]) ++ [(0, 30, [])]) ++ [(0, 30, [])]) ++ [(0, 30, [])]) ++ [(0, 30, [])]) : List pSh).length = S.length + 6 := by simp
  have q5 : (((((((S ++ [(9, 0, (shLaughs S.length).map opn)]) ++ [(0, 30, [])]) ++ [(0, 30, [])]) ++ [(0, 30, [])]) ++ [(0, 30, [])]) ++ [(0, 30, [])]) : List pSh)[S.length]? = some (9, 0, (shLaughs S.length).map opn) := by rw [List.getElem?_append_left (by rw [len4]; omega)]; exact q4
  refine lv_aload_n hx hb kX2_44 rfl (lv_at hl 0 rfl) ?_
  refine lv_bipush (v := nI 20) hx hb kX2_45 (by decide) ?_
  refine w_arrF (t := 0) (n := 20) (k := S.length) (a := 2) (b := 5) F (by decide) (by decide) hw_ai q5 rfl (by decide) (hasW_in (i := 412) (by decide +kernel)) rfl rfl (by rw [len5, ← opn_e]; rfl) (tyX2_ok 5 (by decide)) (fun _ => rfl) (fun _ => rfl) (by rw [len5]; omega) (by rw [len5]; exact hr6) (Nat.le_of_ble_eq_true rfl) (Nat.le_of_ble_eq_true rfl) kX2_47 kX2_49 hW hS fun H locs hW hS => ?_
  have len6 : ((((((((S ++ [(9, 0, (shLaughs S.length).map opn)]) ++ [(0, 30, [])]) ++ [(0, 30, [])]) ++ [(0, 30, [])]) ++ [(0, 30, [])]) ++ [(0, 30, [])]) ++ [(0, 20, [])]) : List pSh).length = S.length + 7 := by simp
  have q6 : ((((((((S ++ [(9, 0, (shLaughs S.length).map opn)]) ++ [(0, 30, [])]) ++ [(0, 30, [])]) ++ [(0, 30, [])]) ++ [(0, 30, [])]) ++ [(0, 30, [])]) ++ [(0, 20, [])]) : List pSh)[S.length]? = some (9, 0, (shLaughs S.length).map opn) := by rw [List.getElem?_append_left (by rw [len5]; omega)]; exact q5
  refine lv_aload_n hx hb kX2_52 rfl (lv_at hl 0 rfl) ?_
  refine lv_bipush (v := nI 20) hx hb kX2_53 (by decide) ?_
  refine w_arrF (t := 0) (n := 20) (k := S.length) (a := 2) (b := 6) F (by decide) (by decide) hw_ai q6 rfl (by decide) (hasW_in (i := 413) (by decide +kernel)) rfl rfl (by rw [len6, ← opn_e]; rfl) (tyX2_ok 6 (by decide)) (fun _ => rfl) (fun _ => rfl) (by rw [len6]; omega) (by rw [len6]; exact hr7) (Nat.le_of_ble_eq_true rfl) (Nat.le_of_ble_eq_true rfl) kX2_55 kX2_57 hW hS fun H locs hW hS => ?_
  have len7 : (((((((((S ++ [(9, 0, (shLaughs S.length).map opn)]) ++ [(0, 30, [])]) ++ [(0, 30, [])]) ++ [(0, 30, [])]) ++ [(0, 30, [])]) ++ [(0, 30, [])]) ++ [(0, 20, [])]) ++ [(0, 20, [])]) : List pSh).length = S.length + 8 := by simp
  have q7 : (((((((((S ++ [(9, 0, (shLaughs S.length).map opn)]) ++ [(0, 30, [])]) ++ [(0, 30, [])]) ++ [(0, 30, [])]) ++ [(0, 30, [])]) ++ [(0, 30, [])]) ++ [(0, 20, [])]) ++ [(0, 20, [])]) : List pSh)[S.length]? = some (9, 0, (shLaughs S.length).map opn) := by rw [List.getElem?_append_left (by rw [len6]; omega)]; exact q6
  refine lv_aload_n hx hb kX2_60 rfl (lv_at hl 0 rfl) ?_
  refine lv_bipush (v := nI 20) hx hb kX2_61 (by decide) ?_
  refine w_arrF (t := 0) (n := 20) (k := S.length) (a := 2) (b := 7) F (by decide) (by decide) hw_ai q7 rfl (by decide) (hasW_in (i := 414) (by decide +kernel)) rfl rfl (by rw [len7, ← opn_e]; rfl) (tyX2_ok 7 (by decide)) (fun _ => rfl) (fun _ => rfl) (by rw [len7]; omega) (by rw [len7]; exact hr8) (Nat.le_of_ble_eq_true rfl) (Nat.le_of_ble_eq_true rfl) kX2_63 kX2_65 hW hS fun H locs hW hS => ?_
  have len8 : ((((((((((S ++ [(9, 0, (shLaughs S.length).map opn)]) ++ [(0, 30, [])]) ++ [(0, 30, [])]) ++ [(0, 30, [])]) ++ [(0, 30, [])]) ++ [(0, 30, [])]) ++ [(0, 20, [])]) ++ [(0, 20, [])]) ++ [(0, 20, [])]) : List pSh).length = S.length + 9 := by simp
  have q8 : ((((((((((S ++ [(9, 0, (shLaughs S.length).map opn)]) ++ [(0, 30, [])]) ++ [(0, 30, [])]) ++ [(0, 30, [])]) ++ [(0, 30, [])]) ++ [(0, 30, [])]) ++ [(0, 20, [])]) ++ [(0, 20, [])]) ++ [(0, 20, [])]) : List pSh)[S.length]? = some (9, 0, (shLaughs S.length).map opn) := by rw [List.getElem?_append_left (by rw [len7]; omega)]; exact q7
  refine lv_aload_n hx hb kX2_68 rfl (lv_at hl 0 rfl) ?_
  refine lv_bipush (v := nI 30) hx hb kX2_69 (by decide) ?_
  refine w_arrF (t := 0) (n := 30) (k := S.length) (a := 2) (b := 8) F (by decide) (by decide) hw_ai q8 rfl (by decide) (hasW_in (i := 415) (by decide +kernel)) rfl rfl (by rw [len8, ← opn_e]; rfl) (tyX2_ok 8 (by decide)) (fun _ => rfl) (fun _ => rfl) (by rw [len8]; omega) (by rw [len8]; exact hr9) (Nat.le_of_ble_eq_true rfl) (Nat.le_of_ble_eq_true rfl) kX2_71 kX2_73 hW hS fun H locs hW hS => ?_
  have len9 : (((((((((((S ++ [(9, 0, (shLaughs S.length).map opn)]) ++ [(0, 30, [])]) ++ [(0, 30, [])]) ++ [(0, 30, [])]) ++ [(0, 30, [])]) ++ [(0, 30, [])]) ++ [(0, 20, [])]) ++ [(0, 20, [])]) ++ [(0, 20, [])]) ++ [(0, 30, [])]) : List pSh).length = S.length + 10 := by simp
  have q9 : (((((((((((S ++ [(9, 0, (shLaughs S.length).map opn)]) ++ [(0, 30, [])]) ++ [(0, 30, [])]) ++ [(0, 30, [])]) ++ [(0, 30, [])]) ++ [(0, 30, [])]) ++ [(0, 20, [])]) ++ [(0, 20, [])]) ++ [(0, 20, [])]) ++ [(0, 30, [])]) : List pSh)[S.length]? = some (9, 0, (shLaughs S.length).map opn) := by rw [List.getElem?_append_left (by rw [len8]; omega)]; exact q8
  refine lv_aload_n hx hb kX2_76 rfl (lv_at hl 0 rfl) ?_
  refine lv_sipush (v := nI 300) hx hb kX2_77 (by decide) ?_
  refine w_arrF (t := 0) (n := 300) (k := S.length) (a := 2) (b := 9) F (by decide) (by decide) hw_ai q9 rfl (by decide) (hasW_in (i := 416) (by decide +kernel)) rfl rfl (by rw [len9, ← opn_e]; rfl) (tyX2_ok 9 (by decide)) (fun _ => rfl) (fun _ => rfl) (by rw [len9]; omega) (by rw [len9]; exact hr10) (Nat.le_of_ble_eq_true rfl) (Nat.le_of_ble_eq_true rfl) kX2_80 kX2_82 hW hS fun H locs hW hS => ?_
  have len10 : ((((((((((((S ++ [(9, 0, (shLaughs S.length).map opn)]) ++ [(0, 30, [])]) ++ [(0, 30, [])]) ++ [(0, 30, [])]) ++ [(0, 30, [])]) ++ [(0, 30, [])]) ++ [(0, 20, [])]) ++ [(0, 20, [])]) ++ [(0, 20, [])]) ++ [(0, 30, [])]) ++ [(0, 300, [])]) : List pSh).length = S.length + 11 := by simp
  have q10 : ((((((((((((S ++ [(9, 0, (shLaughs S.length).map opn)]) ++ [(0, 30, [])]) ++ [(0, 30, [])]) ++ [(0, 30, [])]) ++ [(0, 30, [])]) ++ [(0, 30, [])]) ++ [(0, 20, [])]) ++ [(0, 20, [])]) ++ [(0, 20, [])]) ++ [(0, 30, [])]) ++ [(0, 300, [])]) : List pSh)[S.length]? = some (9, 0, (shLaughs S.length).map opn) := by rw [List.getElem?_append_left (by rw [len9]; omega)]; exact q9
  have hW3 := hW.close (a := 2) (n := 0) (fs := shLaughs S.length) q10 (fun b c hb hc _ => by
    match b, hb with
    | 0, hb => dsimp only; rw [dsA, if_neg (by decide), dsA, if_neg (by decide), dsA, if_neg (by decide), dsA, if_neg (by decide), dsA, if_neg (by decide), dsA, if_neg (by decide), dsA, if_neg (by decide), dsA, if_neg (by decide), dsA, if_neg (by decide), dsA, if_pos rfl]
    | 1, hb => dsimp only; rw [dsA, if_neg (by decide), dsA, if_neg (by decide), dsA, if_neg (by decide), dsA, if_neg (by decide), dsA, if_neg (by decide), dsA, if_neg (by decide), dsA, if_neg (by decide), dsA, if_neg (by decide), dsA, if_pos rfl]
    | 2, hb => dsimp only; rw [dsA, if_neg (by decide), dsA, if_neg (by decide), dsA, if_neg (by decide), dsA, if_neg (by decide), dsA, if_neg (by decide), dsA, if_neg (by decide), dsA, if_neg (by decide), dsA, if_pos rfl]
    | 3, hb => dsimp only; rw [dsA, if_neg (by decide), dsA, if_neg (by decide), dsA, if_neg (by decide), dsA, if_neg (by decide), dsA, if_neg (by decide), dsA, if_neg (by decide), dsA, if_pos rfl]
    | 4, hb => dsimp only; rw [dsA, if_neg (by decide), dsA, if_neg (by decide), dsA, if_neg (by decide), dsA, if_neg (by decide), dsA, if_neg (by decide), dsA, if_pos rfl]
    | 5, hb => dsimp only; rw [dsA, if_neg (by decide), dsA, if_neg (by decide), dsA, if_neg (by decide), dsA, if_neg (by decide), dsA, if_pos rfl]
    | 6, hb => dsimp only; rw [dsA, if_neg (by decide), dsA, if_neg (by decide), dsA, if_neg (by decide), dsA, if_pos rfl]
    | 7, hb => dsimp only; rw [dsA, if_neg (by decide), dsA, if_neg (by decide), dsA, if_pos rfl]
    | 8, hb => dsimp only; rw [dsA, if_neg (by decide), dsA, if_pos rfl]
    | 9, hb => dsimp only; rw [dsA, if_pos rfl]
    | 10, hb => cases hb; omega
    | 11, hb => cases hb; omega
    | 12, hb => cases hb; omega
    | 13, hb => cases hb; omega
    | b + 14, hb => cases hb)
  exact W.vret hx hb (by rw [hr]) (fun t ht _ => ⟨rfl, by rw [ht]; exact hW3, hS.F ht⟩) hS.2.2 kX2_85 hlocks
theorem kX8_0 : decode cX8_init 0 = .ok (.aload_n 0, 1) := by decide +kernel
theorem kX8_1 : decode cX8_init 1 = .ok (.invokespecial 3, 3) := by decide +kernel
theorem kX8_4 : decode cX8_init 4 = .ok (.aload_n 0, 1) := by decide +kernel
theorem kX8_5 : decode cX8_init 5 = .ok (.bipush 40, 2) := by decide +kernel
theorem kX8_7 : decode cX8_init 7 = .ok (.newarray .int, 2) := by decide +kernel
theorem kX8_9 : decode cX8_init 9 = .ok (.putfield 11, 3) := by decide +kernel
theorem kX8_12 : decode cX8_init 12 = .ok (.aload_n 0, 1) := by decide +kernel
theorem kX8_13 : decode cX8_init 13 = .ok (.bipush 40, 2) := by decide +kernel
theorem kX8_15 : decode cX8_init 15 = .ok (.newarray .int, 2) := by decide +kernel
theorem kX8_17 : decode cX8_init 17 = .ok (.putfield 15, 3) := by decide +kernel
theorem kX8_20 : decode cX8_init 20 = .ok (.aload_n 0, 1) := by decide +kernel
theorem kX8_21 : decode cX8_init 21 = .ok (.bipush 40, 2) := by decide +kernel
theorem kX8_23 : decode cX8_init 23 = .ok (.newarray .int, 2) := by decide +kernel
theorem kX8_25 : decode cX8_init 25 = .ok (.putfield 18, 3) := by decide +kernel
theorem kX8_28 : decode cX8_init 28 = .ok (.aload_n 0, 1) := by decide +kernel
theorem kX8_29 : decode cX8_init 29 = .ok (.bipush 20, 2) := by decide +kernel
theorem kX8_31 : decode cX8_init 31 = .ok (.newarray .int, 2) := by decide +kernel
theorem kX8_33 : decode cX8_init 33 = .ok (.putfield 21, 3) := by decide +kernel
theorem kX8_36 : decode cX8_init 36 = .ok (.aload_n 0, 1) := by decide +kernel
theorem kX8_37 : decode cX8_init 37 = .ok (.bipush 24, 2) := by decide +kernel
theorem kX8_39 : decode cX8_init 39 = .ok (.newarray .int, 2) := by decide +kernel
theorem kX8_41 : decode cX8_init 41 = .ok (.putfield 24, 3) := by decide +kernel
theorem kX8_44 : decode cX8_init 44 = .ok (.aload_n 0, 1) := by decide +kernel
theorem kX8_45 : decode cX8_init 45 = .ok (.aload_n 1, 1) := by decide +kernel
theorem kX8_46 : decode cX8_init 46 = .ok (.putfield 27, 3) := by decide +kernel
theorem kX8_49 : decode cX8_init 49 = .ok (.return_, 1) := by decide +kernel
abbrev shYears (k : Nat) : List Nat := [3 + 2 * 3, 3 + 2 * (k + 1), 3 + 2 * (k + 2), 3 + 2 * (k + 3), 3 + 2 * (k + 4), 3 + 2 * (k + 5), 0]
set_option maxHeartbeats 4000000 in
set_option maxRecDepth 100000 in
theorem k_Years (l : Launch) {base : Nat} {adK : Nat → Nat} {un : Nat} {cA : Nat → ClassId} {dg : va_G} (S : List pSh) (σ : pSt) (hn : S.length + 6 ≤ 143) (hr1 : rws (S.length + 1) = 0) (hr2 : rws (S.length + 2) = 0) (hr3 : rws (S.length + 3) = 0) (hr4 : rws (S.length + 4) = 0) (hr5 : rws (S.length + 5) = 0) : Met l yX8_init (Cond.code yX8_init cX8_init 2 none :: tg) { frames := 2, cells := 5, slots := 164, locals := 40 } (kPc base adK un cA dg [.ref (adB base adK S.length 0), .ref (adB base adK 3 0)] (S ++ [(15, 0, (shYears S.length).map opn)]) σ) (kQc base adK un cA dg (((((((S ++ [(15, 0, (shYears S.length).map opn)]) ++ [(0, 40, [])]) ++ [(0, 40, [])]) ++ [(0, 40, [])]) ++ [(0, 20, [])]) ++ [(0, 24, [])]).set S.length (15, 0, shYears S.length)) ((dset (dset (dset (dset (dset (dset σ.1 S.length 0 1 1) S.length 0 2 1) S.length 0 3 1) S.length 0 4 1) S.length 0 5 1) S.length 0 0 1), σ.2)) 5 164 (fun q => base ≤ q) := by
  refine Met.ofW (cc := cX8_init) (maxL := 2) (ret := none) (by decide) rfl ?_
  intro p e s m args below meth c s₁ B hml hv
  obtain ⟨rfl, hW, hK⟩ := hv
  have hx := B.exec
  have hb := B.bytes
  have hr := B.returns
  have hts0 := atoms_spec (ws := Cond.code yX8_init cX8_init 2 none :: tg) B.pre
  have hts : ∀ w ∈ tg, w.before _ s = true := fun w h => hts0 w (List.mem_cons_of_mem _ h)
  have hown : s.vm.findClass RX8 = some m.cls := findClass_of_methodNamed B.named
  have hlocks := B.notSynchronized
  have F : kF p s m _ meth c cX8_init RX8 cA dg := ⟨hx, hb, hts, hown, hK, (name_of_methodNamed B.named B.method).1⟩
  have hl := lv_entry ([.ref (adB base adK S.length 0), .ref (adB base adK 3 0)]) (n := 2) (Nat.le_of_ble_eq_true rfl)
  rw [lg_entry_eq]
  generalize (lg_sl ([.ref (adB base adK S.length 0), .ref (adB base adK 3 0)]) ++ List.replicate (2 - (lg_sl ([.ref (adB base adK S.length 0), .ref (adB base adK 3 0)])).length) Slot.unset).toArray = ls at hl ⊢
  have hl : lv_has ls 2 [(0, .ref (adB base adK S.length 0)), (1, .ref (adB base adK 3 0))] := hl
  have hS : va_S (fun q => base ≤ q) s.heap s.heap [] := va_S.rf
  refine lv_aload_n hx hb kX8_0 rfl (lv_at hl 0 rfl) ?_
  refine W.objInit hx hb hown (hts _ (hasW_in (i := 377) (by decide +kernel))) (hts _ hw_oi) (hts _ hw_oc) rfl (by rw [hml]; exact hl.1) rfl kX8_1 (Nat.le_of_ble_eq_true rfl) (Nat.le_of_ble_eq_true rfl) ?_
  have len0 : ((S ++ [(15, 0, (shYears S.length).map opn)]) : List pSh).length = S.length + 1 := by simp
  have q0 : ((S ++ [(15, 0, (shYears S.length).map opn)]) : List pSh)[S.length]? = some (15, 0, (shYears S.length).map opn) := by simp
  refine lv_aload_n hx hb kX8_4 rfl (lv_at hl 0 rfl) ?_
  refine lv_bipush (v := nI 40) hx hb kX8_5 (by decide) ?_
  refine w_arrF (t := 0) (n := 40) (k := S.length) (a := 8) (b := 1) F (by decide) (by decide) hw_ai q0 rfl (by decide) (hasW_in (i := 379) (by decide +kernel)) rfl rfl (by rw [len0, ← opn_e]; rfl) (tyX8_ok 1 (by decide)) (fun _ => rfl) (fun _ => rfl) (by rw [len0]; omega) (by rw [len0]; exact hr1) (Nat.le_of_ble_eq_true rfl) (Nat.le_of_ble_eq_true rfl) kX8_7 kX8_9 hW hS fun H locs hW hS => ?_
  have len1 : (((S ++ [(15, 0, (shYears S.length).map opn)]) ++ [(0, 40, [])]) : List pSh).length = S.length + 2 := by simp
  have q1 : (((S ++ [(15, 0, (shYears S.length).map opn)]) ++ [(0, 40, [])]) : List pSh)[S.length]? = some (15, 0, (shYears S.length).map opn) := by rw [List.getElem?_append_left (by rw [len0]; omega)]; exact q0
  refine lv_aload_n hx hb kX8_12 rfl (lv_at hl 0 rfl) ?_
  refine lv_bipush (v := nI 40) hx hb kX8_13 (by decide) ?_
  refine w_arrF (t := 0) (n := 40) (k := S.length) (a := 8) (b := 2) F (by decide) (by decide) hw_ai q1 rfl (by decide) (hasW_in (i := 380) (by decide +kernel)) rfl rfl (by rw [len1, ← opn_e]; rfl) (tyX8_ok 2 (by decide)) (fun _ => rfl) (fun _ => rfl) (by rw [len1]; omega) (by rw [len1]; exact hr2) (Nat.le_of_ble_eq_true rfl) (Nat.le_of_ble_eq_true rfl) kX8_15 kX8_17 hW hS fun H locs hW hS => ?_
  have len2 : ((((S ++ [(15, 0, (shYears S.length).map opn)]) ++ [(0, 40, [])]) ++ [(0, 40, [])]) : List pSh).length = S.length + 3 := by simp
  have q2 : ((((S ++ [(15, 0, (shYears S.length).map opn)]) ++ [(0, 40, [])]) ++ [(0, 40, [])]) : List pSh)[S.length]? = some (15, 0, (shYears S.length).map opn) := by rw [List.getElem?_append_left (by rw [len1]; omega)]; exact q1
  refine lv_aload_n hx hb kX8_20 rfl (lv_at hl 0 rfl) ?_
  refine lv_bipush (v := nI 40) hx hb kX8_21 (by decide) ?_
  refine w_arrF (t := 0) (n := 40) (k := S.length) (a := 8) (b := 3) F (by decide) (by decide) hw_ai q2 rfl (by decide) (hasW_in (i := 381) (by decide +kernel)) rfl rfl (by rw [len2, ← opn_e]; rfl) (tyX8_ok 3 (by decide)) (fun _ => rfl) (fun _ => rfl) (by rw [len2]; omega) (by rw [len2]; exact hr3) (Nat.le_of_ble_eq_true rfl) (Nat.le_of_ble_eq_true rfl) kX8_23 kX8_25 hW hS fun H locs hW hS => ?_
  have len3 : (((((S ++ [(15, 0, (shYears S.length).map opn)]) ++ [(0, 40, [])]) ++ [(0, 40, [])]) ++ [(0, 40, [])]) : List pSh).length = S.length + 4 := by simp
  have q3 : (((((S ++ [(15, 0, (shYears S.length).map opn)]) ++ [(0, 40, [])]) ++ [(0, 40, [])]) ++ [(0, 40, [])]) : List pSh)[S.length]? = some (15, 0, (shYears S.length).map opn) := by rw [List.getElem?_append_left (by rw [len2]; omega)]; exact q2
  refine lv_aload_n hx hb kX8_28 rfl (lv_at hl 0 rfl) ?_
  refine lv_bipush (v := nI 20) hx hb kX8_29 (by decide) ?_
  refine w_arrF (t := 0) (n := 20) (k := S.length) (a := 8) (b := 4) F (by decide) (by decide) hw_ai q3 rfl (by decide) (hasW_in (i := 382) (by decide +kernel)) rfl rfl (by rw [len3, ← opn_e]; rfl) (tyX8_ok 4 (by decide)) (fun _ => rfl) (fun _ => rfl) (by rw [len3]; omega) (by rw [len3]; exact hr4) (Nat.le_of_ble_eq_true rfl) (Nat.le_of_ble_eq_true rfl) kX8_31 kX8_33 hW hS fun H locs hW hS => ?_
  have len4 : ((((((S ++ [(15, 0, (shYears S.length).map opn)]) ++ [(0, 40, [])]) ++ [(0, 40, [])]) ++ [(0, 40, [])]) ++ [(0, 20, [])]) : List pSh).length = S.length + 5 := by simp
  have q4 : ((((((S ++ [(15, 0, (shYears S.length).map opn)]) ++ [(0, 40, [])]) ++ [(0, 40, [])]) ++ [(0, 40, [])]) ++ [(0, 20, [])]) : List pSh)[S.length]? = some (15, 0, (shYears S.length).map opn) := by rw [List.getElem?_append_left (by rw [len3]; omega)]; exact q3
  refine lv_aload_n hx hb kX8_36 rfl (lv_at hl 0 rfl) ?_
  refine lv_bipush (v := nI 24) hx hb kX8_37 (by decide) ?_
  refine w_arrF (t := 0) (n := 24) (k := S.length) (a := 8) (b := 5) F (by decide) (by decide) hw_ai q4 rfl (by decide) (hasW_in (i := 383) (by decide +kernel)) rfl rfl (by rw [len4, ← opn_e]; rfl) (tyX8_ok 5 (by decide)) (fun _ => rfl) (fun _ => rfl) (by rw [len4]; omega) (by rw [len4]; exact hr5) (Nat.le_of_ble_eq_true rfl) (Nat.le_of_ble_eq_true rfl) kX8_39 kX8_41 hW hS fun H locs hW hS => ?_
  have len5 : (((((((S ++ [(15, 0, (shYears S.length).map opn)]) ++ [(0, 40, [])]) ++ [(0, 40, [])]) ++ [(0, 40, [])]) ++ [(0, 20, [])]) ++ [(0, 24, [])]) : List pSh).length = S.length + 6 := by simp
  have q5 : (((((((S ++ [(15, 0, (shYears S.length).map opn)]) ++ [(0, 40, [])]) ++ [(0, 40, [])]) ++ [(0, 40, [])]) ++ [(0, 20, [])]) ++ [(0, 24, [])]) : List pSh)[S.length]? = some (15, 0, (shYears S.length).map opn) := by rw [List.getElem?_append_left (by rw [len4]; omega)]; exact q4
  refine lv_aload_n hx hb kX8_44 rfl (lv_at hl 0 rfl) ?_
  refine lv_aload_n hx hb kX8_45 rfl (lv_at hl 1 rfl) ?_
  refine w_refF (k := S.length) (a := 8) (b := 0) (r := 3) F q5 rfl (by decide) (hasW_in (i := 378) (by decide +kernel)) rfl rfl rfl (tyX8_ok 0 (by decide)) (fun _ => rfl) (fun _ => rfl) kX8_46 hW hS fun H locs hW hS => ?_
  have hW3 := hW.close (a := 8) (n := 0) (fs := shYears S.length) q5 (fun b c hb hc _ => by
    match b, hb with
    | 0, hb => dsimp only; rw [dsA, if_pos rfl]
    | 1, hb => dsimp only; rw [dsA, if_neg (by decide), dsA, if_neg (by decide), dsA, if_neg (by decide), dsA, if_neg (by decide), dsA, if_neg (by decide), dsA, if_pos rfl]
    | 2, hb => dsimp only; rw [dsA, if_neg (by decide), dsA, if_neg (by decide), dsA, if_neg (by decide), dsA, if_neg (by decide), dsA, if_pos rfl]
    | 3, hb => dsimp only; rw [dsA, if_neg (by decide), dsA, if_neg (by decide), dsA, if_neg (by decide), dsA, if_pos rfl]
    | 4, hb => dsimp only; rw [dsA, if_neg (by decide), dsA, if_neg (by decide), dsA, if_pos rfl]
    | 5, hb => dsimp only; rw [dsA, if_neg (by decide), dsA, if_pos rfl]
    | 6, hb => cases hb; omega
    | b + 7, hb => cases hb)
  exact W.vret hx hb (by rw [hr]) (fun t ht _ => ⟨rfl, by rw [ht]; exact hW3, hS.F ht⟩) hS.2.2 kX8_49 hlocks
