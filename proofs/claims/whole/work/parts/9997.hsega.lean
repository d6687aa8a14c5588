theorem kX9_0 : decode cX9_init 0 = .ok (.aload_n 0, 1) := by decide +kernel
theorem kX9_1 : decode cX9_init 1 = .ok (.invokespecial 3, 3) := by decide +kernel
theorem kX9_4 : decode cX9_init 4 = .ok (.aload_n 0, 1) := by decide +kernel
theorem kX9_5 : decode cX9_init 5 = .ok (.new 9, 3) := by decide +kernel
theorem kX9_8 : decode cX9_init 8 = .ok (.dup, 1) := by decide +kernel
theorem kX9_9 : decode cX9_init 9 = .ok (.invokespecial 11, 3) := by decide +kernel
theorem kX9_12 : decode cX9_init 12 = .ok (.putfield 12, 3) := by decide +kernel
theorem kX9_15 : decode cX9_init 15 = .ok (.aload_n 0, 1) := by decide +kernel
theorem kX9_16 : decode cX9_init 16 = .ok (.new 16, 3) := by decide +kernel
theorem kX9_19 : decode cX9_init 19 = .ok (.dup, 1) := by decide +kernel
theorem kX9_20 : decode cX9_init 20 = .ok (.invokespecial 18, 3) := by decide +kernel
theorem kX9_23 : decode cX9_init 23 = .ok (.putfield 19, 3) := by decide +kernel
theorem kX9_26 : decode cX9_init 26 = .ok (.aload_n 0, 1) := by decide +kernel
theorem kX9_27 : decode cX9_init 27 = .ok (.new 23, 3) := by decide +kernel
theorem kX9_30 : decode cX9_init 30 = .ok (.dup, 1) := by decide +kernel
theorem kX9_31 : decode cX9_init 31 = .ok (.invokespecial 25, 3) := by decide +kernel
theorem kX9_34 : decode cX9_init 34 = .ok (.putfield 26, 3) := by decide +kernel
theorem kX9_37 : decode cX9_init 37 = .ok (.aload_n 0, 1) := by decide +kernel
theorem kX9_38 : decode cX9_init 38 = .ok (.new 30, 3) := by decide +kernel
theorem kX9_41 : decode cX9_init 41 = .ok (.dup, 1) := by decide +kernel
theorem kX9_42 : decode cX9_init 42 = .ok (.aload_n 0, 1) := by decide +kernel
theorem kX9_43 : decode cX9_init 43 = .ok (.getfield 19, 3) := by decide +kernel
theorem kX9_46 : decode cX9_init 46 = .ok (.invokespecial 32, 3) := by decide +kernel
theorem kX9_49 : decode cX9_init 49 = .ok (.putfield 35, 3) := by decide +kernel
theorem kX9_52 : decode cX9_init 52 = .ok (.aload_n 0, 1) := by decide +kernel
theorem kX9_53 : decode cX9_init 53 = .ok (.iconst 4, 1) := by decide +kernel
theorem kX9_54 : decode cX9_init 54 = .ok (.anewarray 30, 3) := by decide +kernel
theorem kX9_57 : decode cX9_init 57 = .ok (.putfield 39, 3) := by decide +kernel
theorem kX9_60 : decode cX9_init 60 = .ok (.aload_n 0, 1) := by decide +kernel
theorem kX9_61 : decode cX9_init 61 = .ok (.iconst 4, 1) := by decide +kernel
theorem kX9_62 : decode cX9_init 62 = .ok (.newarray .boolean, 2) := by decide +kernel
theorem kX9_64 : decode cX9_init 64 = .ok (.putfield 43, 3) := by decide +kernel
theorem kX9_67 : decode cX9_init 67 = .ok (.aload_n 0, 1) := by decide +kernel
theorem kX9_68 : decode cX9_init 68 = .ok (.new 47, 3) := by decide +kernel
theorem kX9_71 : decode cX9_init 71 = .ok (.dup, 1) := by decide +kernel
theorem kX9_72 : decode cX9_init 72 = .ok (.aload_n 0, 1) := by decide +kernel
theorem kX9_73 : decode cX9_init 73 = .ok (.getfield 19, 3) := by decide +kernel
theorem kX9_76 : decode cX9_init 76 = .ok (.invokespecial 49, 3) := by decide +kernel
theorem kX9_79 : decode cX9_init 79 = .ok (.putfield 50, 3) := by decide +kernel
theorem kX9_82 : decode cX9_init 82 = .ok (.aload_n 0, 1) := by decide +kernel
theorem kX9_83 : decode cX9_init 83 = .ok (.new 54, 3) := by decide +kernel
theorem kX9_86 : decode cX9_init 86 = .ok (.dup, 1) := by decide +kernel
theorem kX9_87 : decode cX9_init 87 = .ok (.invokespecial 56, 3) := by decide +kernel
theorem kX9_90 : decode cX9_init 90 = .ok (.putfield 57, 3) := by decide +kernel
theorem kX9_93 : decode cX9_init 93 = .ok (.aload_n 0, 1) := by decide +kernel
theorem kX9_94 : decode cX9_init 94 = .ok (.new 61, 3) := by decide +kernel
theorem kX9_97 : decode cX9_init 97 = .ok (.dup, 1) := by decide +kernel
theorem kX9_98 : decode cX9_init 98 = .ok (.aload_n 0, 1) := by decide +kernel
theorem kX9_99 : decode cX9_init 99 = .ok (.getfield 19, 3) := by decide +kernel
theorem kX9_102 : decode cX9_init 102 = .ok (.invokespecial 63, 3) := by decide +kernel
theorem kX9_105 : decode cX9_init 105 = .ok (.putfield 64, 3) := by decide +kernel
theorem kX9_108 : decode cX9_init 108 = .ok (.aload_n 0, 1) := by decide +kernel
theorem kX9_109 : decode cX9_init 109 = .ok (.new 68, 3) := by decide +kernel
theorem kX9_112 : decode cX9_init 112 = .ok (.dup, 1) := by decide +kernel
theorem kX9_113 : decode cX9_init 113 = .ok (.invokespecial 70, 3) := by decide +kernel
theorem kX9_116 : decode cX9_init 116 = .ok (.putfield 71, 3) := by decide +kernel
theorem kX9_119 : decode cX9_init 119 = .ok (.iconst 0, 1) := by decide +kernel
theorem kX9_120 : decode cX9_init 120 = .ok (.istore_n 1, 1) := by decide +kernel
theorem kX9_121 : decode cX9_init 121 = .ok (.iload_n 1, 1) := by decide +kernel
theorem kX9_122 : decode cX9_init 122 = .ok (.iconst 4, 1) := by decide +kernel
theorem kX9_123 : decode cX9_init 123 = .ok (.if_icmp .ge 26, 3) := by decide +kernel
theorem kX9_126 : decode cX9_init 126 = .ok (.aload_n 0, 1) := by decide +kernel
theorem kX9_127 : decode cX9_init 127 = .ok (.getfield 39, 3) := by decide +kernel
theorem kX9_130 : decode cX9_init 130 = .ok (.iload_n 1, 1) := by decide +kernel
theorem kX9_131 : decode cX9_init 131 = .ok (.new 30, 3) := by decide +kernel
theorem kX9_134 : decode cX9_init 134 = .ok (.dup, 1) := by decide +kernel
theorem kX9_135 : decode cX9_init 135 = .ok (.aload_n 0, 1) := by decide +kernel
theorem kX9_136 : decode cX9_init 136 = .ok (.getfield 19, 3) := by decide +kernel
theorem kX9_139 : decode cX9_init 139 = .ok (.invokespecial 32, 3) := by decide +kernel
theorem kX9_142 : decode cX9_init 142 = .ok (.aastore, 1) := by decide +kernel
theorem kX9_143 : decode cX9_init 143 = .ok (.iinc 1 1, 3) := by decide +kernel
theorem kX9_146 : decode cX9_init 146 = .ok (.goto (-25), 3) := by decide +kernel
theorem kX9_149 : decode cX9_init 149 = .ok (.return_, 1) := by decide +kernel
set_option maxHeartbeats 8000000 in
set_option maxRecDepth 100000 in
theorem hb_tape {p : Program} {l : Launch} {e : Env} {s : State} {m : MethodId} {args : Array Value} {below : List Frame} {meth : Method} {c : Code} {Q : State → Prop} {base : Nat} {adK : Nat → Nat} {cA : Nat → ClassId} {dg : va_G} {adV : Nat → Nat} {H : Heap} {locs : List Loc} {ls : Array Slot} (F : kF p s m args meth c cX9_init RX9 cA dg) (hml : c.maxLocals = 2) (hZ : kZ base adK adV s) (hl : lv_has ls 2 [(0, .ref (adB base adK 0 0))]) (D : pD) (hW : wB base adK (adB base adK 41 0) cA dg (SX 0 1) (D, E0) H) (hS : va_S (fun q => base ≤ q) s.heap H locs) (kk : ∀ (H1 : Heap) (locs1 : List Loc) (D' : pD), Kx 1 0 D D' → (D' 1 0 1 = 0) → wB base adK (adB base adK 41 0) cA dg (SX 0 3) (D', E0) H1 → va_S (fun q => base ≤ q) s.heap H1 locs1 → W p l e { frames := 16, cells := 124, slots := 6026, locals := 1300 } s m args below meth c H1 locs1 2 1202 Q (F0 m 15 ls [])) : W p l e { frames := 16, cells := 124, slots := 6026, locals := 1300 } s m args below meth c H locs 0 0 Q (F0 m 4 ls []) := by
  have hx := F.1
  have hb := F.2.1
  have lenz : (SX 0 1).length = 1 := by decide +kernel
  have hz : zB 1 (D, E0) := by
    have := hW.2.2.1
    rw [lenz] at this
    exact this
  clear lenz
  refine lv_aload_n hx hb kX9_4 rfl (lv_at hl 0 rfl) ?_
  have len : (SX 0 1).length = 1 := by decide +kernel
  refine w_newB (ci := 7) (fs := (shTape 1).map opn) F.G tyX7 tyX7_ok (hasW_in (i := 108) (by decide +kernel)) (hasW_in (i := 109) (by decide +kernel)) (hasW_in (i := 82) (by decide +kernel)) rfl (fun j hj => by
    match j, hj with
    | 0, _ => rfl
    | 1, _ => rfl) (by rw [len]; decide) (by rw [len]; rfl) (Nat.le_of_ble_eq_true rfl) (Nat.le_of_ble_eq_true rfl) kX9_5 hW hS fun H hW hS => ?_
  rw [len]
  refine lv_dup hx hb kX9_8 rfl ?_
  have hM := k_Tape l (base := base) (adK := adK) (un := adB base adK 41 0) (cA := cA) (dg := dg) (SX 0 1) (D, E0) (by rw [len]; decide) (by rw [len]; rfl)
  rw [len] at hM
  refine k_init (a0 := adB base adK 1 0) (As := []) F.G hml hZ hM (fun U h1 h2 _ => ⟨h1, h2⟩) kPc_c kQc_e rfl rfl (Or.inr hZ.2.1) (hasW_in (i := 82) (by decide +kernel)) (hasW_in (i := 111) (by decide +kernel)) (hasW_in (i := 112) (by decide +kernel)) rfl hdX7 ⟨Nat.le_of_ble_eq_true rfl, Nat.le_of_ble_eq_true rfl⟩ kX9_9 hl.1 (Nat.le_of_ble_eq_true rfl) ⟨Nat.le_of_ble_eq_true rfl, Nat.le_of_ble_eq_true rfl⟩ rfl hW hS fun H locs σ2 hσ hW hS => ?_
  subst hσ
  have eF : ((SX 0 1 ++ [(14, 0, (shTape 1).map opn)]) ++ [(1, 1200, [])]).set 1 (14, 0, shTape 1) = SX 0 3 := by decide +kernel
  rw [eF] at hW
  refine w_refF (k := 0) (a := 9) (b := 0) (r := 1) (nk := 0) (fs := xO.2.2) F (by decide +kernel) rfl (by decide) (hasW_in (i := 452) (by decide +kernel)) rfl rfl rfl (tyX9_ok 0 (by decide)) (fun _ => rfl) (fun _ => rfl) kX9_12 hW hS fun H locs hW hS => ?_
  refine kk H locs _ (KB.x (KB.set (by decide)) (by decide)) ?_ hW hS
  rw [dsN (by decide), dsA, if_neg (by decide)]
  exact congrFun ((hz 1 (by decide)).1 0) 1
def PhH (D : pD) : Prop := (∀ i, i < 5 → D 4 0 i = 0) ∧ (D 5 0 0 = 2 ∧ D 5 0 1 = 1 ∧ D 5 0 2 = 5 ∧ D 5 0 3 = 1 ∧ D 5 0 4 = 6) ∧ (∀ i, i < 24 → D 6 0 i = 1) ∧ GS D ∧ ∀ i, D 10 0 i = 0
set_option maxHeartbeats 8000000 in
set_option maxRecDepth 100000 in
theorem hb_held {p : Program} {l : Launch} {e : Env} {s : State} {m : MethodId} {args : Array Value} {below : List Frame} {meth : Method} {c : Code} {Q : State → Prop} {base : Nat} {adK : Nat → Nat} {cA : Nat → ClassId} {dg : va_G} {adV : Nat → Nat} {H : Heap} {locs : List Loc} {ls : Array Slot} (F : kF p s m args meth c cX9_init RX9 cA dg) (hml : c.maxLocals = 2) (hZ : kZ base adK adV s) (hl : lv_has ls 2 [(0, .ref (adB base adK 0 0))]) (D : pD) (hW : wB base adK (adB base adK 41 0) cA dg (SX 0 3) (D, E0) H) (hS : va_S (fun q => base ≤ q) s.heap H locs) (kk : ∀ (H1 : Heap) (locs1 : List Loc) (D' : pD), Kx 3 1 D D' → (PhH D') → wB base adK (adB base adK 41 0) cA dg (SX 0 17) (D', E0) H1 → va_S (fun q => base ≤ q) s.heap H1 locs1 → W p l e { frames := 16, cells := 124, slots := 6026, locals := 1300 } s m args below meth c H1 locs1 16 1657 Q (F0 m 26 ls [])) : W p l e { frames := 16, cells := 124, slots := 6026, locals := 1300 } s m args below meth c H locs 2 1202 Q (F0 m 15 ls []) := by
  have hx := F.1
  have hb := F.2.1
  have lenz : (SX 0 3).length = 3 := by decide +kernel
  have hz : zB 3 (D, E0) := by
    have := hW.2.2.1
    rw [lenz] at this
    exact this
  clear lenz
  refine lv_aload_n hx hb kX9_15 rfl (lv_at hl 0 rfl) ?_
  have len : (SX 0 3).length = 3 := by decide +kernel
  refine w_newB (ci := 0) (fs := (shBook 3).map opn) F.G tyX0 tyX0_ok (hasW_in (i := 125) (by decide +kernel)) (hasW_in (i := 126) (by decide +kernel)) (hasW_in (i := 83) (by decide +kernel)) rfl (fun j hj => by
    match j, hj with
    | 0, _ => rfl
    | 1, _ => rfl
    | 2, _ => rfl
    | 3, _ => rfl
    | 4, _ => rfl
    | 5, _ => rfl
    | 6, _ => rfl
    | 7, _ => rfl
    | 8, _ => rfl
    | 9, _ => rfl
    | 10, _ => rfl
    | 11, _ => rfl
    | 12, _ => rfl) (by rw [len]; decide) (by rw [len]; rfl) (Nat.le_of_ble_eq_true rfl) (Nat.le_of_ble_eq_true rfl) kX9_16 hW hS fun H hW hS => ?_
  rw [len]
  refine lv_dup hx hb kX9_19 rfl ?_
  obtain ⟨D2, r1, ko1, v1, v2, v3⟩ := X_clear_held (dsl D 3 puBook) E0
  have e7 : ∀ k, 4 ≤ k → dsl D 3 puBook k = fun _ _ => 0 := fun k hk => (dsl_ne (by omega) puBook D).trans (funext fun j => (hz k (by omega)).1 j)
  have h0 : ∀ g, g < 4 → D2 7 0 (64 * g) = 0 := fun g _ => by rw [ko1.c (by decide), e7 7 (by decide)]
  obtain ⟨D3, ks, gs, r2⟩ := Bk_sumGroups_spec D2 E0 h0
  have ko2 := ks.ko
  have lenF : (sfBook (SX 0 3) 3).length = 17 := by decide +kernel
  have hz2 : zB 17 (D2, E0) := (hz.dl (n' := 17) puBook (by decide) (by decide)).ko ko1 (by decide) (Nat.le_refl _)
  have hz3 : zB 17 (D3, E0) := hz2.ko ko2 (by decide) (Nat.le_refl _)
  have hM := k_Book l (base := base) (adK := adK) (un := adB base adK 41 0) (cA := cA) (dg := dg) (adV := adV) (SX 0 3) 3 len (D, E0) (by decide) rfl rfl rfl rfl rfl rfl rfl rfl rfl rfl rfl rfl rfl D2 D3 (no_of (by decide +kernel)) (sh_of (by decide +kernel)) (sh_ev cl_b3 (rgB_eq (by decide +kernel)) gd_book Tx rfl (pL0_ok (okS.cons (okV.r rfl) okS.nil)) r1) (by rw [lenF]; exact hz2) (sh_ev cl_b3 (rgB_eq (by decide +kernel)) gd_book Tx rfl (pL0_ok (okS.cons (okV.r rfl) okS.nil)) r2) (by rw [lenF]; exact hz3) rfl
  refine k_init (a0 := adB base adK 3 0) (As := []) F.G hml hZ hM (fun U h1 h2 h3 => ⟨h1, h2, h3⟩) kPz_c kQc_e rfl rfl (Or.inl (hasW_in (i := 127) (by decide +kernel))) (hasW_in (i := 83) (by decide +kernel)) (hasW_in (i := 128) (by decide +kernel)) (hasW_in (i := 129) (by decide +kernel)) rfl hdX0 ⟨Nat.le_of_ble_eq_true rfl, Nat.le_of_ble_eq_true rfl⟩ kX9_20 hl.1 (Nat.le_of_ble_eq_true rfl) ⟨Nat.le_of_ble_eq_true rfl, Nat.le_of_ble_eq_true rfl⟩ rfl hW hS fun H locs σ2 hσ hW hS => ?_
  subst hσ
  have eF : sfBook (SX 0 3) 3 = SX 0 17 := by decide +kernel
  rw [eF] at hW
  refine w_refF (k := 0) (a := 9) (b := 1) (r := 3) (nk := 0) (fs := xO.2.2) F (by decide +kernel) rfl (by decide) (hasW_in (i := 453) (by decide +kernel)) rfl rfl rfl (tyX9_ok 1 (by decide)) (fun _ => rfl) (fun _ => rfl) kX9_23 hW hS fun H locs hW hS => ?_
  refine kk H locs _ (KB.x ((KB.dl puBook (by decide)).tr ((KB.ko ko1 (by decide)).tr (KB.ko ko2 (by decide)))) (by decide)) ?_ hW hS
  have n : ∀ k, k ≠ 0 → dset D3 0 0 1 1 k = D3 k := fun k hk => funext fun _ => dsN hk
  refine ⟨fun i hi => ?_, ?_, fun i hi => ?_, ?_, fun i => ?_⟩
  · rw [n 4 (by decide), ko2.c (by decide)]
    exact v1 i hi
  · rw [n 5 (by decide)]
    simp (disch := decide) only [ko2.c]
    exact v2
  · rw [n 6 (by decide), ko2.c (by decide)]
    exact v3 i hi
  · intro g hg s hs
    rw [n 7 (by decide), n 6 (by decide)]
    exact gs g hg s hs
  · rw [n 10 (by decide), ko2.c (by decide), ko1.c (by decide), e7 10 (by decide)]
def PhR (D : pD) : Prop := D 17 0 4 = 0 ∧ D 17 0 5 = -1 ∧ ∀ i, D 25 0 i = 0
set_option maxHeartbeats 8000000 in
set_option maxRecDepth 100000 in
theorem hb_reader {p : Program} {l : Launch} {e : Env} {s : State} {m : MethodId} {args : Array Value} {below : List Frame} {meth : Method} {c : Code} {Q : State → Prop} {base : Nat} {adK : Nat → Nat} {cA : Nat → ClassId} {dg : va_G} {adV : Nat → Nat} {H : Heap} {locs : List Loc} {ls : Array Slot} (F : kF p s m args meth c cX9_init RX9 cA dg) (hml : c.maxLocals = 2) (hZ : kZ base adK adV s) (hl : lv_has ls 2 [(0, .ref (adB base adK 0 0))]) (D : pD) (hW : wB base adK (adB base adK 41 0) cA dg (SX 0 17) (D, E0) H) (hS : va_S (fun q => base ≤ q) s.heap H locs) (kk : ∀ (H1 : Heap) (locs1 : List Loc) (D' : pD), Kx 17 2 D D' → (PhR D') → wB base adK (adB base adK 41 0) cA dg (SX 0 42) (D', E0) H1 → va_S (fun q => base ≤ q) s.heap H1 locs1 → W p l e { frames := 16, cells := 124, slots := 6026, locals := 1300 } s m args below meth c H1 locs1 41 2255 Q (F0 m 37 ls [])) : W p l e { frames := 16, cells := 124, slots := 6026, locals := 1300 } s m args below meth c H locs 16 1657 Q (F0 m 26 ls []) := by
  have hx := F.1
  have hb := F.2.1
  have lenz : (SX 0 17).length = 17 := by decide +kernel
  have hz : zB 17 (D, E0) := by
    have := hW.2.2.1
    rw [lenz] at this
    exact this
  clear lenz
  refine lv_aload_n hx hb kX9_26 rfl (lv_at hl 0 rfl) ?_
  have len : (SX 0 17).length = 17 := by decide +kernel
  refine w_newB (ci := 4) (fs := (shReader 17).map opn) F.G tyX4 tyX4_ok (hasW_in (i := 215) (by decide +kernel)) (hasW_in (i := 216) (by decide +kernel)) (hasW_in (i := 85) (by decide +kernel)) rfl (fun j hj => by
    match j, hj with
    | 0, _ => rfl
    | 1, _ => rfl
    | 2, _ => rfl
    | 3, _ => rfl
    | 4, _ => rfl
    | 5, _ => rfl
    | 6, _ => rfl
    | 7, _ => rfl
    | 8, _ => rfl
    | 9, _ => rfl
    | 10, _ => rfl
    | 11, _ => rfl
    | 12, _ => rfl
    | 13, _ => rfl) (by rw [len]; decide) (by rw [len]; rfl) (Nat.le_of_ble_eq_true rfl) (Nat.le_of_ble_eq_true rfl) kX9_27 hW hS fun H hW hS => ?_
  rw [len]
  refine lv_dup hx hb kX9_30 rfl ?_
  have eI : SX 0 17 ++ [(4 + 7, 0, (shReader 17).map opn)] = SR 18 := by decide +kernel
  rw [eI] at hW
  have hM := k_Reader l (base := base) (adK := adK) (cA := cA) (dg := dg) (adV := adV) D
  refine k_init (a0 := adB base adK 17 0) (As := []) F.G hml hZ hM (fun U h1 h2 h3 => ⟨h1, h2, h3⟩) kPz_c kQe_e rfl rfl (Or.inr hZ.2.2.1) (hasW_in (i := 85) (by decide +kernel)) (hasW_in (i := 218) (by decide +kernel)) (hasW_in (i := 219) (by decide +kernel)) rfl hdX4 ⟨Nat.le_of_ble_eq_true rfl, Nat.le_of_ble_eq_true rfl⟩ kX9_31 hl.1 (Nat.le_of_ble_eq_true rfl) ⟨Nat.le_of_ble_eq_true rfl, Nat.le_of_ble_eq_true rfl⟩ rfl hW hS fun H locs σ2 hσ hW hS => ?_
  obtain ⟨D1, E1⟩ := σ2
  obtain ⟨h1, h2, h3, h4, h5⟩ := hσ
  dsimp only at h1 h2 h3 h4 h5
  subst h1
  refine w_refF (k := 0) (a := 9) (b := 2) (r := 17) (nk := 0) (fs := xO.2.2) F (by decide +kernel) rfl (by decide) (hasW_in (i := 454) (by decide +kernel)) rfl rfl rfl (tyX9_ok 2 (by decide)) (fun _ => rfl) (fun _ => rfl) kX9_34 hW hS fun H locs hW hS => ?_
  refine kk H locs _ (KB.x h2 (by decide)) ?_ hW hS
  have n : ∀ k, k ≠ 0 → dset D1 0 0 2 1 k = D1 k := fun k hk => funext fun _ => dsN hk
  refine ⟨?_, ?_, fun i => ?_⟩
  · rw [n 17 (by decide)]
    exact h3
  · rw [n 17 (by decide)]
    exact h4
  · rw [n 25 (by decide)]
    exact h5 i
def PhN (D : pD) : Prop := ∀ i, i < 24 → D 43 0 i = -1 ∧ D 44 0 i = -1 ∧ D 45 0 i = -1 ∧ D 46 0 i = -1 ∧ D 47 0 i = 0
set_option maxHeartbeats 8000000 in
set_option maxRecDepth 100000 in
theorem hb_now {p : Program} {l : Launch} {e : Env} {s : State} {m : MethodId} {args : Array Value} {below : List Frame} {meth : Method} {c : Code} {Q : State → Prop} {base : Nat} {adK : Nat → Nat} {cA : Nat → ClassId} {dg : va_G} {adV : Nat → Nat} {H : Heap} {locs : List Loc} {ls : Array Slot} (F : kF p s m args meth c cX9_init RX9 cA dg) (hml : c.maxLocals = 2) (hZ : kZ base adK adV s) (hl : lv_has ls 2 [(0, .ref (adB base adK 0 0))]) (D : pD) (hfl : D 0 0 1 = 1) (hW : wB base adK (adB base adK 41 0) cA dg (SX 0 42) (D, E0) H) (hS : va_S (fun q => base ≤ q) s.heap H locs) (kk : ∀ (H1 : Heap) (locs1 : List Loc) (D' : pD), Kx 42 3 D D' → (PhN D') → wB base adK (adB base adK 41 0) cA dg (SX 0 48) (D', E0) H1 → va_S (fun q => base ≤ q) s.heap H1 locs1 → W p l e { frames := 16, cells := 124, slots := 6026, locals := 1300 } s m args below meth c H1 locs1 47 2381 Q (F0 m 52 ls [])) : W p l e { frames := 16, cells := 124, slots := 6026, locals := 1300 } s m args below meth c H locs 41 2255 Q (F0 m 37 ls []) := by
  have hx := F.1
  have hb := F.2.1
  have lenz : (SX 0 42).length = 42 := by decide +kernel
  have hz : zB 42 (D, E0) := by
    have := hW.2.2.1
    rw [lenz] at this
    exact this
  clear lenz
  refine lv_aload_n hx hb kX9_37 rfl (lv_at hl 0 rfl) ?_
  have len : (SX 0 42).length = 42 := by decide +kernel
  refine w_newB (ci := 5) (fs := (shRendering 42).map opn) F.G tyX5 tyX5_ok (hasW_in (i := 286) (by decide +kernel)) (hasW_in (i := 287) (by decide +kernel)) (hasW_in (i := 87) (by decide +kernel)) rfl (fun j hj => by
    match j, hj with
    | 0, _ => rfl
    | 1, _ => rfl
    | 2, _ => rfl
    | 3, _ => rfl
    | 4, _ => rfl
    | 5, _ => rfl) (by rw [len]; decide) (by rw [len]; rfl) (Nat.le_of_ble_eq_true rfl) (Nat.le_of_ble_eq_true rfl) kX9_38 hW hS fun H hW hS => ?_
  rw [len]
  refine lv_dup hx hb kX9_41 rfl ?_
  refine lv_aload_n hx hb kX9_42 rfl (lv_at hl 0 rfl) ?_
  refine w_get (k := 0) (a := 9) (b := 1) (nk := 0) (fs := xO.2.2) (cd := 10) (v := .ref (adB base adK 3 0)) F.G (by rw [List.getElem?_append_left (by rw [len]; decide)]; decide +kernel) rfl (by decide) (hasW_in (i := 453) (by decide +kernel)) rfl (pFv_o (r := 3) hfl) kX9_43 hW ?_
  obtain ⟨D2, r1, ko1, v1⟩ := X_rn_now (dsl D 42 puRendering) E0
  have lenF : (sfRendering (SX 0 42) 42).length = 48 := by decide +kernel
  have hz2 : zB 48 (D2, E0) := (hz.dl (n' := 48) puRendering (by decide) (by decide)).ko ko1 (by decide) (Nat.le_refl _)
  have hM := k_Rendering l (base := base) (adK := adK) (un := adB base adK 41 0) (cA := cA) (dg := dg) (adV := adV) (SX 0 42) 42 len (D, E0) (by decide) rfl rfl rfl rfl rfl D2 (no_of (by decide +kernel)) (sh_of (by decide +kernel)) (sh_ev cl_now (rg2_eq (by decide +kernel) (by decide +kernel)) gd_rend Tx rfl (pL0_ok (okS.cons (okV.r rfl) okS.nil)) r1) (by rw [lenF]; exact hz2) rfl
  refine k_init (a0 := adB base adK 42 0) (As := [.ref (adB base adK 3 0)]) F.G hml hZ hM (fun U h1 h2 h3 => ⟨h1, h2, h3⟩) kPz_c kQc_e rfl rfl (Or.inl (hasW_in (i := 288) (by decide +kernel))) (hasW_in (i := 87) (by decide +kernel)) (hasW_in (i := 289) (by decide +kernel)) (hasW_in (i := 290) (by decide +kernel)) rfl hdX5 ⟨Nat.le_of_ble_eq_true rfl, Nat.le_of_ble_eq_true rfl⟩ kX9_46 hl.1 (Nat.le_of_ble_eq_true rfl) ⟨Nat.le_of_ble_eq_true rfl, Nat.le_of_ble_eq_true rfl⟩ rfl hW hS fun H locs σ2 hσ hW hS => ?_
  subst hσ
  have eF : sfRendering (SX 0 42) 42 = SX 0 48 := by decide +kernel
  rw [eF] at hW
  refine w_refF (k := 0) (a := 9) (b := 3) (r := 42) (nk := 0) (fs := xO.2.2) F (by decide +kernel) rfl (by decide) (hasW_in (i := 455) (by decide +kernel)) rfl rfl rfl (tyX9_ok 3 (by decide)) (fun _ => rfl) (fun _ => rfl) kX9_49 hW hS fun H locs hW hS => ?_
  refine kk H locs _ (KB.x ((KB.dl puRendering (by decide)).tr (KB.ko ko1 (by decide))) (by decide)) ?_ hW hS
  have n : ∀ k, k ≠ 0 → dset D2 0 0 3 1 k = D2 k := fun k hk => funext fun _ => dsN hk
  intro i hi
  rw [n 43 (by decide), n 44 (by decide), n 45 (by decide), n 46 (by decide), n 47 (by decide)]
  exact v1 i hi
set_option maxHeartbeats 8000000 in
set_option maxRecDepth 100000 in
theorem hb_kept {p : Program} {l : Launch} {e : Env} {s : State} {m : MethodId} {args : Array Value} {below : List Frame} {meth : Method} {c : Code} {Q : State → Prop} {base : Nat} {adK : Nat → Nat} {cA : Nat → ClassId} {dg : va_G} {adV : Nat → Nat} {H : Heap} {locs : List Loc} {ls : Array Slot} (F : kF p s m args meth c cX9_init RX9 cA dg) (hml : c.maxLocals = 2) (hZ : kZ base adK adV s) (hl : lv_has ls 2 [(0, .ref (adB base adK 0 0))]) (D : pD) (hW : wB base adK (adB base adK 41 0) cA dg (SX 0 48) (D, E0) H) (hS : va_S (fun q => base ≤ q) s.heap H locs) (kk : ∀ (H1 : Heap) (locs1 : List Loc) (D' : pD), Kx 48 4 D D' → wB base adK (adB base adK 41 0) cA dg (SX 0 49) (D', E0) H1 → va_S (fun q => base ≤ q) s.heap H1 locs1 → W p l e { frames := 16, cells := 124, slots := 6026, locals := 1300 } s m args below meth c H1 locs1 48 2385 Q (F0 m 60 ls [])) : W p l e { frames := 16, cells := 124, slots := 6026, locals := 1300 } s m args below meth c H locs 47 2381 Q (F0 m 52 ls []) := by
  have hx := F.1
  have hb := F.2.1
  have lenz : (SX 0 48).length = 48 := by decide +kernel
  have hz : zB 48 (D, E0) := by
    have := hW.2.2.1
    rw [lenz] at this
    exact this
  clear lenz
  refine lv_aload_n hx hb kX9_52 rfl (lv_at hl 0 rfl) ?_
  refine lv_iconst (v := nI 4) hx hb kX9_53 (by decide) ?_
  have len : (SX 0 48).length = 48 := by decide +kernel
  refine w_anew (n := 4) F.G hZ.2.2.2.2.2.2.1 (by decide) (hasW_in (i := 286) (by decide +kernel)) (by rw [len]; decide) (by rw [len]; rfl) (Nat.le_of_ble_eq_true rfl) (Nat.le_of_ble_eq_true rfl) kX9_54 hW hS fun H hW hS => ?_
  rw [len]
  have eF : SX 0 48 ++ [(4, 4, List.replicate 4 0)] = SX 0 49 := by decide +kernel
  rw [eF] at hW
  refine w_refF (k := 0) (a := 9) (b := 4) (r := 48) (nk := 0) (fs := xO.2.2) F (by decide +kernel) rfl (by decide) (hasW_in (i := 456) (by decide +kernel)) rfl rfl rfl (tyX9_ok 4 (by decide)) (fun _ => rfl) (fun _ => rfl) kX9_57 hW hS fun H locs hW hS => ?_
  exact kk H locs _ (KB.x KB.rf (by decide)) hW hS
set_option maxHeartbeats 8000000 in
set_option maxRecDepth 100000 in
theorem hb_isKept {p : Program} {l : Launch} {e : Env} {s : State} {m : MethodId} {args : Array Value} {below : List Frame} {meth : Method} {c : Code} {Q : State → Prop} {base : Nat} {adK : Nat → Nat} {cA : Nat → ClassId} {dg : va_G} {adV : Nat → Nat} {H : Heap} {locs : List Loc} {ls : Array Slot} (F : kF p s m args meth c cX9_init RX9 cA dg) (hml : c.maxLocals = 2) (hZ : kZ base adK adV s) (hl : lv_has ls 2 [(0, .ref (adB base adK 0 0))]) (D : pD) (hW : wB base adK (adB base adK 41 0) cA dg (SX 0 49) (D, E0) H) (hS : va_S (fun q => base ≤ q) s.heap H locs) (kk : ∀ (H1 : Heap) (locs1 : List Loc) (D' : pD), Kx 49 5 D D' → (∀ i, D' 49 0 i = 0) → wB base adK (adB base adK 41 0) cA dg (SX 0 50) (D', E0) H1 → va_S (fun q => base ≤ q) s.heap H1 locs1 → W p l e { frames := 16, cells := 124, slots := 6026, locals := 1300 } s m args below meth c H1 locs1 49 2389 Q (F0 m 67 ls [])) : W p l e { frames := 16, cells := 124, slots := 6026, locals := 1300 } s m args below meth c H locs 48 2385 Q (F0 m 60 ls []) := by
  have hx := F.1
  have hb := F.2.1
  have lenz : (SX 0 49).length = 49 := by decide +kernel
  have hz : zB 49 (D, E0) := by
    have := hW.2.2.1
    rw [lenz] at this
    exact this
  clear lenz
  refine lv_aload_n hx hb kX9_60 rfl (lv_at hl 0 rfl) ?_
  refine lv_iconst (v := nI 4) hx hb kX9_61 (by decide) ?_
  have len : (SX 0 49).length = 49 := by decide +kernel
  refine w_newaB (t := 2) (n := 4) F.G (by decide) (by decide) hw_az (by rw [len]; decide) (by rw [len]; rfl) (Nat.le_of_ble_eq_true rfl) (Nat.le_of_ble_eq_true rfl) kX9_62 hW hS fun H hW hS => ?_
  rw [len]
  have eF : SX 0 49 ++ [(2, 4, [])] = SX 0 50 := by decide +kernel
  rw [eF] at hW
  refine w_refF (k := 0) (a := 9) (b := 5) (r := 49) (nk := 0) (fs := xO.2.2) F (by decide +kernel) rfl (by decide) (hasW_in (i := 457) (by decide +kernel)) rfl rfl rfl (tyX9_ok 5 (by decide)) (fun _ => rfl) (fun _ => rfl) kX9_64 hW hS fun H locs hW hS => ?_
  refine kk H locs _ (KB.x KB.rf (by decide)) (fun i => ?_) hW hS
  rw [dsN (by decide)]
  exact congrFun ((hz 49 (by decide)).1 0) i
