set_option maxHeartbeats 8000000 in
set_option maxRecDepth 100000 in
theorem hb_search {p : Program} {l : Launch} {e : Env} {s : State} {m : MethodId} {args : Array Value} {below : List Frame} {meth : Method} {c : Code} {Q : State → Prop} {base : Nat} {adK : Nat → Nat} {cA : Nat → ClassId} {dg : va_G} {adV : Nat → Nat} {H : Heap} {locs : List Loc} {ls : Array Slot} (F : kF p s m args meth c cX9_init RX9 cA dg) (hml : c.maxLocals = 2) (hZ : kZ base adK adV s) (hl : lv_has ls 2 [(0, .ref (adB base adK 0 0))]) (D : pD) (hfl : D 0 0 1 = 1) (hW : wB base adK (adB base adK 41 0) cA dg (SX 0 50) (D, E0) H) (hS : va_S (fun q => base ≤ q) s.heap H locs) (kk : ∀ (H1 : Heap) (locs1 : List Loc) (D' : pD), Kx 50 6 D D' → wB base adK (adB base adK 41 0) cA dg (SX 0 57) (D', E0) H1 → va_S (fun q => base ≤ q) s.heap H1 locs1 → W p l e { frames := 16, cells := 124, slots := 6026, locals := 1300 } s m args below meth c H1 locs1 81 2876 Q (F0 m 82 ls [])) : W p l e { frames := 16, cells := 124, slots := 6026, locals := 1300 } s m args below meth c H locs 49 2389 Q (F0 m 67 ls []) := by
  have hx := F.1
  have hb := F.2.1
  have lenz : (SX 0 50).length = 50 := by decide +kernel
  have hz : zB 50 (D, E0) := by
    have := hW.2.2.1
    rw [lenz] at this
    exact this
  clear lenz
  refine lv_aload_n hx hb kX9_67 rfl (lv_at hl 0 rfl) ?_
  have len : (SX 0 50).length = 50 := by decide +kernel
  refine w_newB (ci := 6) (fs := (shSearch 50).map opn) F.G tyX6 tyX6_ok (hasW_in (i := 322) (by decide +kernel)) (hasW_in (i := 323) (by decide +kernel)) (hasW_in (i := 88) (by decide +kernel)) rfl (fun j hj => by
    match j, hj with
    | 0, _ => rfl
    | 1, _ => rfl
    | 2, _ => rfl
    | 3, _ => rfl
    | 4, _ => rfl
    | 5, _ => rfl
    | 6, _ => rfl
    | 7, _ => rfl
    | 8, _ => rfl
    | 9, _ => rfl) (by rw [len]; decide) (by rw [len]; rfl) (Nat.le_of_ble_eq_true rfl) (Nat.le_of_ble_eq_true rfl) kX9_68 hW hS fun H hW hS => ?_
  rw [len]
  refine lv_dup hx hb kX9_71 rfl ?_
  refine lv_aload_n hx hb kX9_72 rfl (lv_at hl 0 rfl) ?_
  refine w_get (k := 0) (a := 9) (b := 1) (nk := 0) (fs := xO.2.2) (cd := 10) (v := .ref (adB base adK 3 0)) F.G (by rw [List.getElem?_append_left (by rw [len]; decide)]; decide +kernel) rfl (by decide) (hasW_in (i := 453) (by decide +kernel)) rfl (pFv_o (r := 3) hfl) kX9_73 hW ?_
  have hM := k_Search l (base := base) (adK := adK) (un := adB base adK 41 0) (cA := cA) (dg := dg) (adV := adV) (SX 0 50) 50 len (D, E0) (by decide) rfl rfl rfl rfl rfl rfl
  refine k_init (a0 := adB base adK 50 0) (As := [.ref (adB base adK 3 0)]) F.G hml hZ hM (fun U h1 h2 h3 => ⟨h1, h2, h3⟩) kPz_c kQc_e rfl rfl (Or.inl (hasW_in (i := 324) (by decide +kernel))) (hasW_in (i := 88) (by decide +kernel)) (hasW_in (i := 325) (by decide +kernel)) (hasW_in (i := 326) (by decide +kernel)) rfl hdX6 ⟨Nat.le_of_ble_eq_true rfl, Nat.le_of_ble_eq_true rfl⟩ kX9_76 hl.1 (Nat.le_of_ble_eq_true rfl) ⟨Nat.le_of_ble_eq_true rfl, Nat.le_of_ble_eq_true rfl⟩ rfl hW hS fun H locs σ2 hσ hW hS => ?_
  subst hσ
  have eF : sfSearch (SX 0 50) 50 = SX 0 57 := by decide +kernel
  rw [eF] at hW
  refine w_refF (k := 0) (a := 9) (b := 6) (r := 50) (nk := 0) (fs := xO.2.2) F (by decide +kernel) rfl (by decide) (hasW_in (i := 458) (by decide +kernel)) rfl rfl rfl (tyX9_ok 6 (by decide)) (fun _ => rfl) (fun _ => rfl) kX9_79 hW hS fun H locs hW hS => ?_
  exact kk H locs _ (KB.x (KB.dl puSearch (by decide)) (by decide)) hW hS
set_option maxHeartbeats 8000000 in
set_option maxRecDepth 100000 in
theorem hb_four {p : Program} {l : Launch} {e : Env} {s : State} {m : MethodId} {args : Array Value} {below : List Frame} {meth : Method} {c : Code} {Q : State → Prop} {base : Nat} {adK : Nat → Nat} {cA : Nat → ClassId} {dg : va_G} {adV : Nat → Nat} {H : Heap} {locs : List Loc} {ls : Array Slot} (F : kF p s m args meth c cX9_init RX9 cA dg) (hml : c.maxLocals = 2) (hZ : kZ base adK adV s) (hl : lv_has ls 2 [(0, .ref (adB base adK 0 0))]) (D : pD) (hW : wB base adK (adB base adK 41 0) cA dg (SX 0 57) (D, E0) H) (hS : va_S (fun q => base ≤ q) s.heap H locs) (kk : ∀ (H1 : Heap) (locs1 : List Loc) (D' : pD), Kx 57 7 D D' → (∀ i, D' 58 0 i = 0) → wB base adK (adB base adK 41 0) cA dg (SX 0 59) (D', E0) H1 → va_S (fun q => base ≤ q) s.heap H1 locs1 → W p l e { frames := 16, cells := 124, slots := 6026, locals := 1300 } s m args below meth c H1 locs1 83 4797 Q (F0 m 93 ls [])) : W p l e { frames := 16, cells := 124, slots := 6026, locals := 1300 } s m args below meth c H locs 81 2876 Q (F0 m 82 ls []) := by
  have hx := F.1
  have hb := F.2.1
  have lenz : (SX 0 57).length = 57 := by decide +kernel
  have hz : zB 57 (D, E0) := by
    have := hW.2.2.1
    rw [lenz] at this
    exact this
  clear lenz
  refine lv_aload_n hx hb kX9_82 rfl (lv_at hl 0 rfl) ?_
  have len : (SX 0 57).length = 57 := by decide +kernel
  refine w_newB (ci := 1) (fs := (shFour 57).map opn) F.G tyX1 tyX1_ok (hasW_in (i := 362) (by decide +kernel)) (hasW_in (i := 363) (by decide +kernel)) (hasW_in (i := 89) (by decide +kernel)) rfl (fun j hj => by
    match j, hj with
    | 0, _ => rfl) (by rw [len]; decide) (by rw [len]; rfl) (Nat.le_of_ble_eq_true rfl) (Nat.le_of_ble_eq_true rfl) kX9_83 hW hS fun H hW hS => ?_
  rw [len]
  refine lv_dup hx hb kX9_86 rfl ?_
  have hM := k_Four l (base := base) (adK := adK) (un := adB base adK 41 0) (cA := cA) (dg := dg) (SX 0 57) (D, E0) (by rw [len]; decide) (by rw [len]; rfl)
  rw [len] at hM
  refine k_init (a0 := adB base adK 57 0) (As := []) F.G hml hZ hM (fun U h1 h2 _ => ⟨h1, h2⟩) kPc_c kQc_e rfl rfl (Or.inr hZ.2.2.2.1) (hasW_in (i := 89) (by decide +kernel)) (hasW_in (i := 365) (by decide +kernel)) (hasW_in (i := 366) (by decide +kernel)) rfl hdX1 ⟨Nat.le_of_ble_eq_true rfl, Nat.le_of_ble_eq_true rfl⟩ kX9_87 hl.1 (Nat.le_of_ble_eq_true rfl) ⟨Nat.le_of_ble_eq_true rfl, Nat.le_of_ble_eq_true rfl⟩ rfl hW hS fun H locs σ2 hσ hW hS => ?_
  subst hσ
  have eF : ((SX 0 57 ++ [(8, 0, (shFour 57).map opn)]) ++ [(1, 1920, [])]).set 57 (8, 0, shFour 57) = SX 0 59 := by decide +kernel
  rw [eF] at hW
  refine w_refF (k := 0) (a := 9) (b := 7) (r := 57) (nk := 0) (fs := xO.2.2) F (by decide +kernel) rfl (by decide) (hasW_in (i := 459) (by decide +kernel)) rfl rfl rfl (tyX9_ok 7 (by decide)) (fun _ => rfl) (fun _ => rfl) kX9_90 hW hS fun H locs hW hS => ?_
  refine kk H locs _ (KB.x (KB.set (by decide)) (by decide)) (fun i => ?_) hW hS
  rw [dsN (by decide), dsN (by decide)]
  exact congrFun ((hz 58 (by decide)).1 0) i
set_option maxHeartbeats 8000000 in
set_option maxRecDepth 100000 in
theorem hb_years {p : Program} {l : Launch} {e : Env} {s : State} {m : MethodId} {args : Array Value} {below : List Frame} {meth : Method} {c : Code} {Q : State → Prop} {base : Nat} {adK : Nat → Nat} {cA : Nat → ClassId} {dg : va_G} {adV : Nat → Nat} {H : Heap} {locs : List Loc} {ls : Array Slot} (F : kF p s m args meth c cX9_init RX9 cA dg) (hml : c.maxLocals = 2) (hZ : kZ base adK adV s) (hl : lv_has ls 2 [(0, .ref (adB base adK 0 0))]) (D : pD) (hfl : D 0 0 1 = 1) (hW : wB base adK (adB base adK 41 0) cA dg (SX 0 59) (D, E0) H) (hS : va_S (fun q => base ≤ q) s.heap H locs) (kk : ∀ (H1 : Heap) (locs1 : List Loc) (D' : pD), Kx 59 8 D D' → (D' 59 0 6 = 0) → wB base adK (adB base adK 41 0) cA dg (SX 0 65) (D', E0) H1 → va_S (fun q => base ≤ q) s.heap H1 locs1 → W p l e { frames := 16, cells := 124, slots := 6026, locals := 1300 } s m args below meth c H1 locs1 89 4968 Q (F0 m 108 ls [])) : W p l e { frames := 16, cells := 124, slots := 6026, locals := 1300 } s m args below meth c H locs 83 4797 Q (F0 m 93 ls []) := by
  have hx := F.1
  have hb := F.2.1
  have lenz : (SX 0 59).length = 59 := by decide +kernel
  have hz : zB 59 (D, E0) := by
    have := hW.2.2.1
    rw [lenz] at this
    exact this
  clear lenz
  refine lv_aload_n hx hb kX9_93 rfl (lv_at hl 0 rfl) ?_
  have len : (SX 0 59).length = 59 := by decide +kernel
  refine w_newB (ci := 8) (fs := (shYears 59).map opn) F.G tyX8 tyX8_ok (hasW_in (i := 372) (by decide +kernel)) (hasW_in (i := 373) (by decide +kernel)) (hasW_in (i := 90) (by decide +kernel)) rfl (fun j hj => by
    match j, hj with
    | 0, _ => rfl
    | 1, _ => rfl
    | 2, _ => rfl
    | 3, _ => rfl
    | 4, _ => rfl
    | 5, _ => rfl
    | 6, _ => rfl) (by rw [len]; decide) (by rw [len]; rfl) (Nat.le_of_ble_eq_true rfl) (Nat.le_of_ble_eq_true rfl) kX9_94 hW hS fun H hW hS => ?_
  rw [len]
  refine lv_dup hx hb kX9_97 rfl ?_
  refine lv_aload_n hx hb kX9_98 rfl (lv_at hl 0 rfl) ?_
  refine w_get (k := 0) (a := 9) (b := 1) (nk := 0) (fs := xO.2.2) (cd := 10) (v := .ref (adB base adK 3 0)) F.G (by rw [List.getElem?_append_left (by rw [len]; decide)]; decide +kernel) rfl (by decide) (hasW_in (i := 453) (by decide +kernel)) rfl (pFv_o (r := 3) hfl) kX9_99 hW ?_
  have hM := k_Years l (base := base) (adK := adK) (un := adB base adK 41 0) (cA := cA) (dg := dg) (SX 0 59) (D, E0) (by rw [len]; decide) (by rw [len]; rfl) (by rw [len]; rfl) (by rw [len]; rfl) (by rw [len]; rfl) (by rw [len]; rfl)
  rw [len] at hM
  refine k_init (a0 := adB base adK 59 0) (As := [.ref (adB base adK 3 0)]) F.G hml hZ hM (fun U h1 h2 _ => ⟨h1, h2⟩) kPc_c kQc_e rfl rfl (Or.inl (hasW_in (i := 374) (by decide +kernel))) (hasW_in (i := 90) (by decide +kernel)) (hasW_in (i := 375) (by decide +kernel)) (hasW_in (i := 376) (by decide +kernel)) rfl hdX8 ⟨Nat.le_of_ble_eq_true rfl, Nat.le_of_ble_eq_true rfl⟩ kX9_102 hl.1 (Nat.le_of_ble_eq_true rfl) ⟨Nat.le_of_ble_eq_true rfl, Nat.le_of_ble_eq_true rfl⟩ rfl hW hS fun H locs σ2 hσ hW hS => ?_
  subst hσ
  have eF : (((((((SX 0 59 ++ [(15, 0, (shYears 59).map opn)]) ++ [(0, 40, [])]) ++ [(0, 40, [])]) ++ [(0, 40, [])]) ++ [(0, 20, [])]) ++ [(0, 24, [])])).set 59 (15, 0, shYears 59) = SX 0 65 := by decide +kernel
  rw [eF] at hW
  refine w_refF (k := 0) (a := 9) (b := 8) (r := 59) (nk := 0) (fs := xO.2.2) F (by decide +kernel) rfl (by decide) (hasW_in (i := 460) (by decide +kernel)) rfl rfl rfl (tyX9_ok 8 (by decide)) (fun _ => rfl) (fun _ => rfl) kX9_105 hW hS fun H locs hW hS => ?_
  refine kk H locs _ (KB.x ((((((KB.set (by decide)).tr (KB.set (by decide))).tr (KB.set (by decide))).tr (KB.set (by decide))).tr (KB.set (by decide))).tr (KB.set (by decide))) (by decide)) ?_ hW hS
  simp (disch := decide) only [dsN, dsA, if_false, sNe]
  exact congrFun ((hz 59 (by decide)).1 0) 6
set_option maxHeartbeats 8000000 in
set_option maxRecDepth 100000 in
theorem hb_laughs {p : Program} {l : Launch} {e : Env} {s : State} {m : MethodId} {args : Array Value} {below : List Frame} {meth : Method} {c : Code} {Q : State → Prop} {base : Nat} {adK : Nat → Nat} {cA : Nat → ClassId} {dg : va_G} {adV : Nat → Nat} {H : Heap} {locs : List Loc} {ls : Array Slot} (F : kF p s m args meth c cX9_init RX9 cA dg) (hml : c.maxLocals = 2) (hZ : kZ base adK adV s) (hl : lv_has ls 2 [(0, .ref (adB base adK 0 0))]) (D : pD) (hW : wB base adK (adB base adK 41 0) cA dg (SX 0 65) (D, E0) H) (hS : va_S (fun q => base ≤ q) s.heap H locs) (kk : ∀ (H1 : Heap) (locs1 : List Loc) (D' : pD), Kx 65 9 D D' → (D' 65 0 11 = 0 ∧ D' 65 0 12 = 0 ∧ D' 65 0 13 = 0) → wB base adK (adB base adK 41 0) cA dg (SX 0 76) (D', E0) H1 → va_S (fun q => base ≤ q) s.heap H1 locs1 → W p l e { frames := 16, cells := 124, slots := 6026, locals := 1300 } s m args below meth c H1 locs1 100 5522 Q (F0 m 119 ls [])) : W p l e { frames := 16, cells := 124, slots := 6026, locals := 1300 } s m args below meth c H locs 89 4968 Q (F0 m 108 ls []) := by
  have hx := F.1
  have hb := F.2.1
  have lenz : (SX 0 65).length = 65 := by decide +kernel
  have hz : zB 65 (D, E0) := by
    have := hW.2.2.1
    rw [lenz] at this
    exact this
  clear lenz
  refine lv_aload_n hx hb kX9_108 rfl (lv_at hl 0 rfl) ?_
  have len : (SX 0 65).length = 65 := by decide +kernel
  refine w_newB (ci := 2) (fs := (shLaughs 65).map opn) F.G tyX2 tyX2_ok (hasW_in (i := 401) (by decide +kernel)) (hasW_in (i := 402) (by decide +kernel)) (hasW_in (i := 91) (by decide +kernel)) rfl (fun j hj => by
    match j, hj with
    | 0, _ => rfl
    | 1, _ => rfl
    | 2, _ => rfl
    | 3, _ => rfl
    | 4, _ => rfl
    | 5, _ => rfl
    | 6, _ => rfl
    | 7, _ => rfl
    | 8, _ => rfl
    | 9, _ => rfl
    | 10, _ => rfl
    | 11, _ => rfl
    | 12, _ => rfl
    | 13, _ => rfl) (by rw [len]; decide) (by rw [len]; rfl) (Nat.le_of_ble_eq_true rfl) (Nat.le_of_ble_eq_true rfl) kX9_109 hW hS fun H hW hS => ?_
  rw [len]
  refine lv_dup hx hb kX9_112 rfl ?_
  have hM := k_Laughs l (base := base) (adK := adK) (un := adB base adK 41 0) (cA := cA) (dg := dg) (SX 0 65) (D, E0) (by rw [len]; decide) (by rw [len]; rfl) (by rw [len]; rfl) (by rw [len]; rfl) (by rw [len]; rfl) (by rw [len]; rfl) (by rw [len]; rfl) (by rw [len]; rfl) (by rw [len]; rfl) (by rw [len]; rfl) (by rw [len]; rfl)
  rw [len] at hM
  refine k_init (a0 := adB base adK 65 0) (As := []) F.G hml hZ hM (fun U h1 h2 _ => ⟨h1, h2⟩) kPc_c kQc_e rfl rfl (Or.inr hZ.2.2.2.2.1) (hasW_in (i := 91) (by decide +kernel)) (hasW_in (i := 404) (by decide +kernel)) (hasW_in (i := 405) (by decide +kernel)) rfl hdX2 ⟨Nat.le_of_ble_eq_true rfl, Nat.le_of_ble_eq_true rfl⟩ kX9_113 hl.1 (Nat.le_of_ble_eq_true rfl) ⟨Nat.le_of_ble_eq_true rfl, Nat.le_of_ble_eq_true rfl⟩ rfl hW hS fun H locs σ2 hσ hW hS => ?_
  subst hσ
  have eF : ((((((((((((SX 0 65 ++ [(9, 0, (shLaughs 65).map opn)]) ++ [(0, 30, [])]) ++ [(0, 30, [])]) ++ [(0, 30, [])]) ++ [(0, 30, [])]) ++ [(0, 30, [])]) ++ [(0, 20, [])]) ++ [(0, 20, [])]) ++ [(0, 20, [])]) ++ [(0, 30, [])]) ++ [(0, 300, [])])).set 65 (9, 0, shLaughs 65) = SX 0 76 := by decide +kernel
  rw [eF] at hW
  refine w_refF (k := 0) (a := 9) (b := 9) (r := 65) (nk := 0) (fs := xO.2.2) F (by decide +kernel) rfl (by decide) (hasW_in (i := 461) (by decide +kernel)) rfl rfl rfl (tyX9_ok 9 (by decide)) (fun _ => rfl) (fun _ => rfl) kX9_116 hW hS fun H locs hW hS => ?_
  refine kk H locs _ (KB.x ((((((((((KB.set (by decide)).tr (KB.set (by decide))).tr (KB.set (by decide))).tr (KB.set (by decide))).tr (KB.set (by decide))).tr (KB.set (by decide))).tr (KB.set (by decide))).tr (KB.set (by decide))).tr (KB.set (by decide))).tr (KB.set (by decide))) (by decide)) ?_ hW hS
  simp (disch := decide) only [dsN, dsA, if_false, sNe]
  exact ⟨congrFun ((hz 65 (by decide)).1 0) 11, congrFun ((hz 65 (by decide)).1 0) 12, congrFun ((hz 65 (by decide)).1 0) 13⟩
set_option maxHeartbeats 8000000 in
set_option maxRecDepth 100000 in
theorem hb_k0 {p : Program} {l : Launch} {e : Env} {s : State} {m : MethodId} {args : Array Value} {below : List Frame} {meth : Method} {c : Code} {Q : State → Prop} {base : Nat} {adK : Nat → Nat} {cA : Nat → ClassId} {dg : va_G} {adV : Nat → Nat} {H : Heap} {locs : List Loc} {ls : Array Slot} (F : kF p s m args meth c cX9_init RX9 cA dg) (hml : c.maxLocals = 2) (hZ : kZ base adK adV s) (hl : lv_has ls 2 [(1, .int (nI 0)), (0, .ref (adB base adK 0 0))]) (D : pD) (hfl : D 0 0 1 = 1) (hf4 : D 0 0 4 = 1) (hW : wB base adK (adB base adK 41 0) cA dg (SX 0 76) (D, E0) H) (hS : va_S (fun q => base ≤ q) s.heap H locs) (kk : ∀ (H1 : Heap) (locs1 : List Loc) (D' : pD), KB 76 D D' → wB base adK (adB base adK 41 0) cA dg (SX 1 82) (D', E0) H1 → va_S (fun q => base ≤ q) s.heap H1 locs1 → W p l e { frames := 16, cells := 124, slots := 6026, locals := 1300 } s m args below meth c H1 locs1 106 5648 Q (F0 m 143 ls [])) : W p l e { frames := 16, cells := 124, slots := 6026, locals := 1300 } s m args below meth c H locs 100 5522 Q (F0 m 126 ls []) := by
  have hx := F.1
  have hb := F.2.1
  have lenz : (SX 0 76).length = 76 := by decide +kernel
  have hz : zB 76 (D, E0) := by
    have := hW.2.2.1
    rw [lenz] at this
    exact this
  clear lenz
  refine lv_aload_n hx hb kX9_126 rfl (lv_at hl 1 rfl) ?_
  refine w_get (k := 0) (a := 9) (b := 4) (nk := 0) (fs := xO.2.2) (cd := 100) (v := .ref (adB base adK 48 0)) F.G (by decide +kernel) rfl (by decide) (hasW_in (i := 456) (by decide +kernel)) rfl (pFv_o (r := 48) hf4) kX9_127 hW ?_
  refine lv_iload_n hx hb kX9_130 rfl (lv_at hl 0 rfl) ?_
  have len : (SX 0 76).length = 76 := by decide +kernel
  refine w_newB (ci := 5) (fs := (shRendering 76).map opn) F.G tyX5 tyX5_ok (hasW_in (i := 286) (by decide +kernel)) (hasW_in (i := 287) (by decide +kernel)) (hasW_in (i := 87) (by decide +kernel)) rfl (fun j hj => by
    match j, hj with
    | 0, _ => rfl
    | 1, _ => rfl
    | 2, _ => rfl
    | 3, _ => rfl
    | 4, _ => rfl
    | 5, _ => rfl) (by rw [len]; decide) (by rw [len]; rfl) (Nat.le_of_ble_eq_true rfl) (Nat.le_of_ble_eq_true rfl) kX9_131 hW hS fun H hW hS => ?_
  rw [len]
  refine lv_dup hx hb kX9_134 rfl ?_
  refine lv_aload_n hx hb kX9_135 rfl (lv_at hl 1 rfl) ?_
  refine w_get (k := 0) (a := 9) (b := 1) (nk := 0) (fs := xO.2.2) (cd := 10) (v := .ref (adB base adK 3 0)) F.G (by rw [List.getElem?_append_left (by rw [len]; decide)]; decide +kernel) rfl (by decide) (hasW_in (i := 453) (by decide +kernel)) rfl (pFv_o (r := 3) hfl) kX9_136 hW ?_
  obtain ⟨D2, r1, ko1, v1⟩ := X_rn_k0 (dsl D 76 puRendering) E0
  have lenF : (sfRendering (SX 0 76) 76).length = 82 := by decide +kernel
  have hz2 : zB 82 (D2, E0) := (hz.dl (n' := 82) puRendering (by decide) (by decide)).ko ko1 (by decide) (Nat.le_refl _)
  have hM := k_Rendering l (base := base) (adK := adK) (un := adB base adK 41 0) (cA := cA) (dg := dg) (adV := adV) (SX 0 76) 76 len (D, E0) (by decide) rfl rfl rfl rfl rfl D2 (no_of (by decide +kernel)) (sh_of (by decide +kernel)) (sh_ev cl_k0 (rg2_eq (by decide +kernel) (by decide +kernel)) gd_rend Tx rfl (pL0_ok (okS.cons (okV.r rfl) okS.nil)) r1) (by rw [lenF]; exact hz2) rfl
  refine k_init (a0 := adB base adK 76 0) (As := [.ref (adB base adK 3 0)]) F.G hml hZ hM (fun U h1 h2 h3 => ⟨h1, h2, h3⟩) kPz_c kQc_e rfl rfl (Or.inl (hasW_in (i := 288) (by decide +kernel))) (hasW_in (i := 87) (by decide +kernel)) (hasW_in (i := 289) (by decide +kernel)) (hasW_in (i := 290) (by decide +kernel)) rfl hdX5 ⟨Nat.le_of_ble_eq_true rfl, Nat.le_of_ble_eq_true rfl⟩ kX9_139 hl.1 (Nat.le_of_ble_eq_true rfl) ⟨Nat.le_of_ble_eq_true rfl, Nat.le_of_ble_eq_true rfl⟩ rfl hW hS fun H locs σ2 hσ hW hS => ?_
  subst hσ
  have eF : sfRendering (SX 0 76) 76 = SX 0 82 := by decide +kernel
  rw [eF] at hW
  refine w_aast (k := 48) (n := 4) (r := 76) (i := 0) (fs := kpL 0) (nr := 0) (frs := shRendering 76) F.G (by decide +kernel) (by decide) (by decide) (by decide) (by decide +kernel) kX9_142 hW hS fun H locs hW hS => ?_
  have eG : (SX 0 82).set 48 (4, 4, (kpL 0).set 0 (76 + 1)) = SX 1 82 := by decide +kernel
  rw [eG] at hW
  exact kk H locs _ ((KB.dl puRendering (by decide)).tr (KB.ko ko1 (by decide))) hW hS
set_option maxHeartbeats 8000000 in
set_option maxRecDepth 100000 in
theorem hb_k1 {p : Program} {l : Launch} {e : Env} {s : State} {m : MethodId} {args : Array Value} {below : List Frame} {meth : Method} {c : Code} {Q : State → Prop} {base : Nat} {adK : Nat → Nat} {cA : Nat → ClassId} {dg : va_G} {adV : Nat → Nat} {H : Heap} {locs : List Loc} {ls : Array Slot} (F : kF p s m args meth c cX9_init RX9 cA dg) (hml : c.maxLocals = 2) (hZ : kZ base adK adV s) (hl : lv_has ls 2 [(1, .int (nI 1)), (0, .ref (adB base adK 0 0))]) (D : pD) (hfl : D 0 0 1 = 1) (hf4 : D 0 0 4 = 1) (hW : wB base adK (adB base adK 41 0) cA dg (SX 1 82) (D, E0) H) (hS : va_S (fun q => base ≤ q) s.heap H locs) (kk : ∀ (H1 : Heap) (locs1 : List Loc) (D' : pD), KB 82 D D' → wB base adK (adB base adK 41 0) cA dg (SX 2 88) (D', E0) H1 → va_S (fun q => base ≤ q) s.heap H1 locs1 → W p l e { frames := 16, cells := 124, slots := 6026, locals := 1300 } s m args below meth c H1 locs1 112 5774 Q (F0 m 143 ls [])) : W p l e { frames := 16, cells := 124, slots := 6026, locals := 1300 } s m args below meth c H locs 106 5648 Q (F0 m 126 ls []) := by
  have hx := F.1
  have hb := F.2.1
  have lenz : (SX 1 82).length = 82 := by decide +kernel
  have hz : zB 82 (D, E0) := by
    have := hW.2.2.1
    rw [lenz] at this
    exact this
  clear lenz
  refine lv_aload_n hx hb kX9_126 rfl (lv_at hl 1 rfl) ?_
  refine w_get (k := 0) (a := 9) (b := 4) (nk := 0) (fs := xO.2.2) (cd := 100) (v := .ref (adB base adK 48 0)) F.G (by decide +kernel) rfl (by decide) (hasW_in (i := 456) (by decide +kernel)) rfl (pFv_o (r := 48) hf4) kX9_127 hW ?_
  refine lv_iload_n hx hb kX9_130 rfl (lv_at hl 0 rfl) ?_
  have len : (SX 1 82).length = 82 := by decide +kernel
  refine w_newB (ci := 5) (fs := (shRendering 82).map opn) F.G tyX5 tyX5_ok (hasW_in (i := 286) (by decide +kernel)) (hasW_in (i := 287) (by decide +kernel)) (hasW_in (i := 87) (by decide +kernel)) rfl (fun j hj => by
    match j, hj with
    | 0, _ => rfl
    | 1, _ => rfl
    | 2, _ => rfl
    | 3, _ => rfl
    | 4, _ => rfl
    | 5, _ => rfl) (by rw [len]; decide) (by rw [len]; rfl) (Nat.le_of_ble_eq_true rfl) (Nat.le_of_ble_eq_true rfl) kX9_131 hW hS fun H hW hS => ?_
  rw [len]
  refine lv_dup hx hb kX9_134 rfl ?_
  refine lv_aload_n hx hb kX9_135 rfl (lv_at hl 1 rfl) ?_
  refine w_get (k := 0) (a := 9) (b := 1) (nk := 0) (fs := xO.2.2) (cd := 10) (v := .ref (adB base adK 3 0)) F.G (by rw [List.getElem?_append_left (by rw [len]; decide)]; decide +kernel) rfl (by decide) (hasW_in (i := 453) (by decide +kernel)) rfl (pFv_o (r := 3) hfl) kX9_136 hW ?_
  obtain ⟨D2, r1, ko1, v1⟩ := X_rn_k1 (dsl D 82 puRendering) E0
  have lenF : (sfRendering (SX 1 82) 82).length = 88 := by decide +kernel
  have hz2 : zB 88 (D2, E0) := (hz.dl (n' := 88) puRendering (by decide) (by decide)).ko ko1 (by decide) (Nat.le_refl _)
  have hM := k_Rendering l (base := base) (adK := adK) (un := adB base adK 41 0) (cA := cA) (dg := dg) (adV := adV) (SX 1 82) 82 len (D, E0) (by decide) rfl rfl rfl rfl rfl D2 (no_of (by decide +kernel)) (sh_of (by decide +kernel)) (sh_ev cl_k1 (rg2_eq (by decide +kernel) (by decide +kernel)) gd_rend Tx rfl (pL0_ok (okS.cons (okV.r rfl) okS.nil)) r1) (by rw [lenF]; exact hz2) rfl
  refine k_init (a0 := adB base adK 82 0) (As := [.ref (adB base adK 3 0)]) F.G hml hZ hM (fun U h1 h2 h3 => ⟨h1, h2, h3⟩) kPz_c kQc_e rfl rfl (Or.inl (hasW_in (i := 288) (by decide +kernel))) (hasW_in (i := 87) (by decide +kernel)) (hasW_in (i := 289) (by decide +kernel)) (hasW_in (i := 290) (by decide +kernel)) rfl hdX5 ⟨Nat.le_of_ble_eq_true rfl, Nat.le_of_ble_eq_true rfl⟩ kX9_139 hl.1 (Nat.le_of_ble_eq_true rfl) ⟨Nat.le_of_ble_eq_true rfl, Nat.le_of_ble_eq_true rfl⟩ rfl hW hS fun H locs σ2 hσ hW hS => ?_
  subst hσ
  have eF : sfRendering (SX 1 82) 82 = SX 1 88 := by decide +kernel
  rw [eF] at hW
  refine w_aast (k := 48) (n := 4) (r := 82) (i := 1) (fs := kpL 1) (nr := 0) (frs := shRendering 82) F.G (by decide +kernel) (by decide) (by decide) (by decide) (by decide +kernel) kX9_142 hW hS fun H locs hW hS => ?_
  have eG : (SX 1 88).set 48 (4, 4, (kpL 1).set 1 (82 + 1)) = SX 2 88 := by decide +kernel
  rw [eG] at hW
  exact kk H locs _ ((KB.dl puRendering (by decide)).tr (KB.ko ko1 (by decide))) hW hS
set_option maxHeartbeats 8000000 in
set_option maxRecDepth 100000 in
theorem hb_k2 {p : Program} {l : Launch} {e : Env} {s : State} {m : MethodId} {args : Array Value} {below : List Frame} {meth : Method} {c : Code} {Q : State → Prop} {base : Nat} {adK : Nat → Nat} {cA : Nat → ClassId} {dg : va_G} {adV : Nat → Nat} {H : Heap} {locs : List Loc} {ls : Array Slot} (F : kF p s m args meth c cX9_init RX9 cA dg) (hml : c.maxLocals = 2) (hZ : kZ base adK adV s) (hl : lv_has ls 2 [(1, .int (nI 2)), (0, .ref (adB base adK 0 0))]) (D : pD) (hfl : D 0 0 1 = 1) (hf4 : D 0 0 4 = 1) (hW : wB base adK (adB base adK 41 0) cA dg (SX 2 88) (D, E0) H) (hS : va_S (fun q => base ≤ q) s.heap H locs) (kk : ∀ (H1 : Heap) (locs1 : List Loc) (D' : pD), KB 88 D D' → wB base adK (adB base adK 41 0) cA dg (SX 3 94) (D', E0) H1 → va_S (fun q => base ≤ q) s.heap H1 locs1 → W p l e { frames := 16, cells := 124, slots := 6026, locals := 1300 } s m args below meth c H1 locs1 118 5900 Q (F0 m 143 ls [])) : W p l e { frames := 16, cells := 124, slots := 6026, locals := 1300 } s m args below meth c H locs 112 5774 Q (F0 m 126 ls []) := by
  have hx := F.1
  have hb := F.2.1
  have lenz : (SX 2 88).length = 88 := by decide +kernel
  have hz : zB 88 (D, E0) := by
    have := hW.2.2.1
    rw [lenz] at this
    exact this
  clear lenz
  refine lv_aload_n hx hb kX9_126 rfl (lv_at hl 1 rfl) ?_
  refine w_get (k := 0) (a := 9) (b := 4) (nk := 0) (fs := xO.2.2) (cd := 100) (v := .ref (adB base adK 48 0)) F.G (by decide +kernel) rfl (by decide) (hasW_in (i := 456) (by decide +kernel)) rfl (pFv_o (r := 48) hf4) kX9_127 hW ?_
  refine lv_iload_n hx hb kX9_130 rfl (lv_at hl 0 rfl) ?_
  have len : (SX 2 88).length = 88 := by decide +kernel
  refine w_newB (ci := 5) (fs := (shRendering 88).map opn) F.G tyX5 tyX5_ok (hasW_in (i := 286) (by decide +kernel)) (hasW_in (i := 287) (by decide +kernel)) (hasW_in (i := 87) (by decide +kernel)) rfl (fun j hj => by
    match j, hj with
    | 0, _ => rfl
    | 1, _ => rfl
    | 2, _ => rfl
    | 3, _ => rfl
    | 4, _ => rfl
    | 5, _ => rfl) (by rw [len]; decide) (by rw [len]; rfl) (Nat.le_of_ble_eq_true rfl) (Nat.le_of_ble_eq_true rfl) kX9_131 hW hS fun H hW hS => ?_
  rw [len]
  refine lv_dup hx hb kX9_134 rfl ?_
  refine lv_aload_n hx hb kX9_135 rfl (lv_at hl 1 rfl) ?_
  refine w_get (k := 0) (a := 9) (b := 1) (nk := 0) (fs := xO.2.2) (cd := 10) (v := .ref (adB base adK 3 0)) F.G (by rw [List.getElem?_append_left (by rw [len]; decide)]; decide +kernel) rfl (by decide) (hasW_in (i := 453) (by decide +kernel)) rfl (pFv_o (r := 3) hfl) kX9_136 hW ?_
  obtain ⟨D2, r1, ko1, v1⟩ := X_rn_k2 (dsl D 88 puRendering) E0
  have lenF : (sfRendering (SX 2 88) 88).length = 94 := by decide +kernel
  have hz2 : zB 94 (D2, E0) := (hz.dl (n' := 94) puRendering (by decide) (by decide)).ko ko1 (by decide) (Nat.le_refl _)
  have hM := k_Rendering l (base := base) (adK := adK) (un := adB base adK 41 0) (cA := cA) (dg := dg) (adV := adV) (SX 2 88) 88 len (D, E0) (by decide) rfl rfl rfl rfl rfl D2 (no_of (by decide +kernel)) (sh_of (by decide +kernel)) (sh_ev cl_k2 (rg2_eq (by decide +kernel) (by decide +kernel)) gd_rend Tx rfl (pL0_ok (okS.cons (okV.r rfl) okS.nil)) r1) (by rw [lenF]; exact hz2) rfl
  refine k_init (a0 := adB base adK 88 0) (As := [.ref (adB base adK 3 0)]) F.G hml hZ hM (fun U h1 h2 h3 => ⟨h1, h2, h3⟩) kPz_c kQc_e rfl rfl (Or.inl (hasW_in (i := 288) (by decide +kernel))) (hasW_in (i := 87) (by decide +kernel)) (hasW_in (i := 289) (by decide +kernel)) (hasW_in (i := 290) (by decide +kernel)) rfl hdX5 ⟨Nat.le_of_ble_eq_true rfl, Nat.le_of_ble_eq_true rfl⟩ kX9_139 hl.1 (Nat.le_of_ble_eq_true rfl) ⟨Nat.le_of_ble_eq_true rfl, Nat.le_of_ble_eq_true rfl⟩ rfl hW hS fun H locs σ2 hσ hW hS => ?_
  subst hσ
  have eF : sfRendering (SX 2 88) 88 = SX 2 94 := by decide +kernel
  rw [eF] at hW
  refine w_aast (k := 48) (n := 4) (r := 88) (i := 2) (fs := kpL 2) (nr := 0) (frs := shRendering 88) F.G (by decide +kernel) (by decide) (by decide) (by decide) (by decide +kernel) kX9_142 hW hS fun H locs hW hS => ?_
  have eG : (SX 2 94).set 48 (4, 4, (kpL 2).set 2 (88 + 1)) = SX 3 94 := by decide +kernel
  rw [eG] at hW
  exact kk H locs _ ((KB.dl puRendering (by decide)).tr (KB.ko ko1 (by decide))) hW hS
set_option maxHeartbeats 8000000 in
set_option maxRecDepth 100000 in
theorem hb_k3 {p : Program} {l : Launch} {e : Env} {s : State} {m : MethodId} {args : Array Value} {below : List Frame} {meth : Method} {c : Code} {Q : State → Prop} {base : Nat} {adK : Nat → Nat} {cA : Nat → ClassId} {dg : va_G} {adV : Nat → Nat} {H : Heap} {locs : List Loc} {ls : Array Slot} (F : kF p s m args meth c cX9_init RX9 cA dg) (hml : c.maxLocals = 2) (hZ : kZ base adK adV s) (hl : lv_has ls 2 [(1, .int (nI 3)), (0, .ref (adB base adK 0 0))]) (D : pD) (hfl : D 0 0 1 = 1) (hf4 : D 0 0 4 = 1) (hW : wB base adK (adB base adK 41 0) cA dg (SX 3 94) (D, E0) H) (hS : va_S (fun q => base ≤ q) s.heap H locs) (kk : ∀ (H1 : Heap) (locs1 : List Loc) (D' : pD), KB 94 D D' → wB base adK (adB base adK 41 0) cA dg (SX 4 100) (D', E0) H1 → va_S (fun q => base ≤ q) s.heap H1 locs1 → W p l e { frames := 16, cells := 124, slots := 6026, locals := 1300 } s m args below meth c H1 locs1 124 6026 Q (F0 m 143 ls [])) : W p l e { frames := 16, cells := 124, slots := 6026, locals := 1300 } s m args below meth c H locs 118 5900 Q (F0 m 126 ls []) := by
  have hx := F.1
  have hb := F.2.1
  have lenz : (SX 3 94).length = 94 := by decide +kernel
  have hz : zB 94 (D, E0) := by
    have := hW.2.2.1
    rw [lenz] at this
    exact this
  clear lenz
  refine lv_aload_n hx hb kX9_126 rfl (lv_at hl 1 rfl) ?_
  refine w_get (k := 0) (a := 9) (b := 4) (nk := 0) (fs := xO.2.2) (cd := 100) (v := .ref (adB base adK 48 0)) F.G (by decide +kernel) rfl (by decide) (hasW_in (i := 456) (by decide +kernel)) rfl (pFv_o (r := 48) hf4) kX9_127 hW ?_
  refine lv_iload_n hx hb kX9_130 rfl (lv_at hl 0 rfl) ?_
  have len : (SX 3 94).length = 94 := by decide +kernel
  refine w_newB (ci := 5) (fs := (shRendering 94).map opn) F.G tyX5 tyX5_ok (hasW_in (i := 286) (by decide +kernel)) (hasW_in (i := 287) (by decide +kernel)) (hasW_in (i := 87) (by decide +kernel)) rfl (fun j hj => by
    match j, hj with
    | 0, _ => rfl
    | 1, _ => rfl
    | 2, _ => rfl
    | 3, _ => rfl
    | 4, _ => rfl
    | 5, _ => rfl) (by rw [len]; decide) (by rw [len]; rfl) (Nat.le_of_ble_eq_true rfl) (Nat.le_of_ble_eq_true rfl) kX9_131 hW hS fun H hW hS => ?_
  rw [len]
  refine lv_dup hx hb kX9_134 rfl ?_
  refine lv_aload_n hx hb kX9_135 rfl (lv_at hl 1 rfl) ?_
  refine w_get (k := 0) (a := 9) (b := 1) (nk := 0) (fs := xO.2.2) (cd := 10) (v := .ref (adB base adK 3 0)) F.G (by rw [List.getElem?_append_left (by rw [len]; decide)]; decide +kernel) rfl (by decide) (hasW_in (i := 453) (by decide +kernel)) rfl (pFv_o (r := 3) hfl) kX9_136 hW ?_
  obtain ⟨D2, r1, ko1, v1⟩ := X_rn_k3 (dsl D 94 puRendering) E0
  have lenF : (sfRendering (SX 3 94) 94).length = 100 := by decide +kernel
  have hz2 : zB 100 (D2, E0) := (hz.dl (n' := 100) puRendering (by decide) (by decide)).ko ko1 (by decide) (Nat.le_refl _)
  have hM := k_Rendering l (base := base) (adK := adK) (un := adB base adK 41 0) (cA := cA) (dg := dg) (adV := adV) (SX 3 94) 94 len (D, E0) (by decide) rfl rfl rfl rfl rfl D2 (no_of (by decide +kernel)) (sh_of (by decide +kernel)) (sh_ev cl_k3 (rg2_eq (by decide +kernel) (by decide +kernel)) gd_rend Tx rfl (pL0_ok (okS.cons (okV.r rfl) okS.nil)) r1) (by rw [lenF]; exact hz2) rfl
  refine k_init (a0 := adB base adK 94 0) (As := [.ref (adB base adK 3 0)]) F.G hml hZ hM (fun U h1 h2 h3 => ⟨h1, h2, h3⟩) kPz_c kQc_e rfl rfl (Or.inl (hasW_in (i := 288) (by decide +kernel))) (hasW_in (i := 87) (by decide +kernel)) (hasW_in (i := 289) (by decide +kernel)) (hasW_in (i := 290) (by decide +kernel)) rfl hdX5 ⟨Nat.le_of_ble_eq_true rfl, Nat.le_of_ble_eq_true rfl⟩ kX9_139 hl.1 (Nat.le_of_ble_eq_true rfl) ⟨Nat.le_of_ble_eq_true rfl, Nat.le_of_ble_eq_true rfl⟩ rfl hW hS fun H locs σ2 hσ hW hS => ?_
  subst hσ
  have eF : sfRendering (SX 3 94) 94 = SX 3 100 := by decide +kernel
  rw [eF] at hW
  refine w_aast (k := 48) (n := 4) (r := 94) (i := 3) (fs := kpL 3) (nr := 0) (frs := shRendering 94) F.G (by decide +kernel) (by decide) (by decide) (by decide) (by decide +kernel) kX9_142 hW hS fun H locs hW hS => ?_
  have eG : (SX 3 100).set 48 (4, 4, (kpL 3).set 3 (94 + 1)) = SX 4 100 := by decide +kernel
  rw [eG] at hW
  exact kk H locs _ ((KB.dl puRendering (by decide)).tr (KB.ko ko1 (by decide))) hW hS
