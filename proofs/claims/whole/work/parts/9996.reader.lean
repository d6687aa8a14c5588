theorem kX4_0 : decode cX4_init 0 = .ok (.aload_n 0, 1) := by decide +kernel
theorem kX4_1 : decode cX4_init 1 = .ok (.invokespecial 3, 3) := by decide +kernel
theorem kX4_4 : decode cX4_init 4 = .ok (.aload_n 0, 1) := by decide +kernel
theorem kX4_5 : decode cX4_init 5 = .ok (.new 9, 3) := by decide +kernel
theorem kX4_8 : decode cX4_init 8 = .ok (.dup, 1) := by decide +kernel
theorem kX4_9 : decode cX4_init 9 = .ok (.invokespecial 11, 3) := by decide +kernel
theorem kX4_12 : decode cX4_init 12 = .ok (.putfield 12, 3) := by decide +kernel
theorem kX4_15 : decode cX4_init 15 = .ok (.aload_n 0, 1) := by decide +kernel
theorem kX4_16 : decode cX4_init 16 = .ok (.new 18, 3) := by decide +kernel
theorem kX4_19 : decode cX4_init 19 = .ok (.dup, 1) := by decide +kernel
theorem kX4_20 : decode cX4_init 20 = .ok (.invokespecial 20, 3) := by decide +kernel
theorem kX4_23 : decode cX4_init 23 = .ok (.putfield 21, 3) := by decide +kernel
theorem kX4_26 : decode cX4_init 26 = .ok (.aload_n 0, 1) := by decide +kernel
theorem kX4_27 : decode cX4_init 27 = .ok (.new 18, 3) := by decide +kernel
theorem kX4_30 : decode cX4_init 30 = .ok (.dup, 1) := by decide +kernel
theorem kX4_31 : decode cX4_init 31 = .ok (.invokespecial 20, 3) := by decide +kernel
theorem kX4_34 : decode cX4_init 34 = .ok (.putfield 25, 3) := by decide +kernel
theorem kX4_37 : decode cX4_init 37 = .ok (.aload_n 0, 1) := by decide +kernel
theorem kX4_38 : decode cX4_init 38 = .ok (.new 18, 3) := by decide +kernel
theorem kX4_41 : decode cX4_init 41 = .ok (.dup, 1) := by decide +kernel
theorem kX4_42 : decode cX4_init 42 = .ok (.invokespecial 20, 3) := by decide +kernel
theorem kX4_45 : decode cX4_init 45 = .ok (.putfield 28, 3) := by decide +kernel
theorem kX4_48 : decode cX4_init 48 = .ok (.aload_n 0, 1) := by decide +kernel
theorem kX4_49 : decode cX4_init 49 = .ok (.iconst 0, 1) := by decide +kernel
theorem kX4_50 : decode cX4_init 50 = .ok (.putfield 31, 3) := by decide +kernel
theorem kX4_53 : decode cX4_init 53 = .ok (.aload_n 0, 1) := by decide +kernel
theorem kX4_54 : decode cX4_init 54 = .ok (.iconst (-1), 1) := by decide +kernel
theorem kX4_55 : decode cX4_init 55 = .ok (.putfield 35, 3) := by decide +kernel
theorem kX4_58 : decode cX4_init 58 = .ok (.aload_n 0, 1) := by decide +kernel
theorem kX4_59 : decode cX4_init 59 = .ok (.iconst 0, 1) := by decide +kernel
theorem kX4_60 : decode cX4_init 60 = .ok (.newarray .byte, 2) := by decide +kernel
theorem kX4_62 : decode cX4_init 62 = .ok (.putfield 38, 3) := by decide +kernel
theorem kX4_65 : decode cX4_init 65 = .ok (.return_, 1) := by decide +kernel
def RdF (D : pD) (σ : pSt) : Prop := σ.2 = E0 ∧ KB 17 D σ.1 ∧ σ.1 17 0 4 = 0 ∧ σ.1 17 0 5 = -1 ∧ ∀ i, σ.1 25 0 i = 0
abbrev shReader (n : Nat) : List Nat := [39, 67, 73, 79, 0, 0, 8, 0, 0, 0, 2, 0, 0, 0]
set_option maxHeartbeats 8000000 in
set_option maxRecDepth 100000 in
theorem k_Reader (l : Launch) {base : Nat} {adK : Nat → Nat} {cA : Nat → ClassId} {dg : va_G} {adV : Nat → Nat} (D : pD) : Met l yX4_init (Cond.code yX4_init cX4_init 1 none :: tg) { frames := 14, cells := 24, slots := 584, locals := 1100 } (kPz base adK (adB base adK 41 0) cA dg adV [.ref (adB base adK 17 0)] (SR 18) (D, E0)) (kQe base adK (adB base adK 41 0) cA dg (SX 0 42) (RdF D)) 24 584 (fun q => base ≤ q) := by
  refine Met.ofW (cc := cX4_init) (maxL := 1) (ret := none) (by decide) rfl ?_
  intro p e s m args below meth c s₁ B hml hv
  obtain ⟨rfl, hW, hK, hZ⟩ := hv
  have hx := B.exec
  have hb := B.bytes
  have hr := B.returns
  have hts0 := atoms_spec (ws := Cond.code yX4_init cX4_init 1 none :: tg) B.pre
  have hts : ∀ w ∈ tg, w.before _ s = true := fun w h => hts0 w (List.mem_cons_of_mem _ h)
  have hown : s.vm.findClass RX4 = some m.cls := findClass_of_methodNamed B.named
  have hlocks := B.notSynchronized
  have F : kF p s m _ meth c cX4_init RX4 cA dg := ⟨hx, hb, hts, hown, hK, (name_of_methodNamed B.named B.method).1⟩
  have hl := lv_entry ([.ref (adB base adK 17 0)]) (n := 1) (Nat.le_of_ble_eq_true rfl)
  rw [lg_entry_eq]
  generalize (lg_sl ([.ref (adB base adK 17 0)]) ++ List.replicate (1 - (lg_sl ([.ref (adB base adK 17 0)])).length) Slot.unset).toArray = ls at hl ⊢
  have hl : lv_has ls 1 [(0, .ref (adB base adK 17 0))] := hl
  have hS : va_S (fun q => base ≤ q) s.heap s.heap [] := va_S.rf
  refine lv_aload_n hx hb kX4_0 rfl (lv_at hl 0 rfl) ?_
  refine W.objInit hx hb hown (hts _ (hasW_in (i := 220) (by decide +kernel))) (hts _ hw_oi) (hts _ hw_oc) rfl (by rw [hml]; exact hl.1) rfl kX4_1 (Nat.le_of_ble_eq_true rfl) (Nat.le_of_ble_eq_true rfl) ?_
  have len : (SR 18).length = 18 := by decide +kernel
  have hz : zB 18 (D, E0) := by
    have := hW.2.2.1
    rw [len] at this
    exact this
  clear len
  refine lv_aload_n hx hb kX4_4 rfl (lv_at hl 0 rfl) ?_
  have len : (SR 18).length = 18 := by decide +kernel
  refine w_newB (ci := 0) (fs := (shBook 18).map opn) F.G tyX0 tyX0_ok (hasW_in (i := 221) (by decide +kernel)) (hasW_in (i := 126) (by decide +kernel)) (hasW_in (i := 83) (by decide +kernel)) rfl (fun j hj => by
    match j, hj with
    | 0, _ => rfl
    | 1, _ => rfl
    | 2, _ => rfl
    | 3, _ => rfl
    | 4, _ => rfl
    | 5, _ => rfl
    | 6, _ => rfl
    | 7, _ => rfl
    | 8, _ => rfl
    | 9, _ => rfl
    | 10, _ => rfl
    | 11, _ => rfl
    | 12, _ => rfl) (by rw [len]; decide) (by rw [len]; rfl) (Nat.le_of_ble_eq_true rfl) (Nat.le_of_ble_eq_true rfl) kX4_5 hW hS fun H hW hS => ?_
  rw [len]
  refine lv_dup hx hb kX4_8 rfl ?_
  obtain ⟨D2, r1, ko1, -⟩ := X_clear_draft (dsl D 18 puBook) E0
  obtain ⟨D3, r2, ko2⟩ := X_sum_draft D2 E0
  have lenF : (sfBook (SR 18) 18).length = 32 := by decide +kernel
  have hz2 : zB 32 (D2, E0) := (hz.dl (n' := 32) puBook (by decide) (by decide)).ko ko1 (by decide) (Nat.le_refl _)
  have hz3 : zB 32 (D3, E0) := hz2.ko ko2 (by decide) (Nat.le_refl _)
  have hM := k_Book l (base := base) (adK := adK) (un := adB base adK 41 0) (cA := cA) (dg := dg) (adV := adV) (SR 18) 18 len (D, E0) (by decide) rfl rfl rfl rfl rfl rfl rfl rfl rfl rfl rfl rfl rfl D2 D3 (no_of (by decide +kernel)) (sh_of (by decide +kernel)) (sh_ev cl_b18 (rgB_eq (by decide +kernel)) gd_book Tx rfl (pL0_ok (okS.cons (okV.r rfl) okS.nil)) r1) (by rw [lenF]; exact hz2) (sh_ev cl_b18 (rgB_eq (by decide +kernel)) gd_book Tx rfl (pL0_ok (okS.cons (okV.r rfl) okS.nil)) r2) (by rw [lenF]; exact hz3) rfl
  refine k_init (a0 := adB base adK 18 0) (As := []) F.G hml hZ hM (fun U h1 h2 h3 => ⟨h1, h2, h3⟩) kPz_c kQc_e rfl rfl (Or.inl (hasW_in (i := 222) (by decide +kernel))) (hasW_in (i := 83) (by decide +kernel)) (hasW_in (i := 128) (by decide +kernel)) (hasW_in (i := 129) (by decide +kernel)) rfl hdX0 ⟨Nat.le_of_ble_eq_true rfl, Nat.le_of_ble_eq_true rfl⟩ kX4_9 hl.1 (Nat.le_of_ble_eq_true rfl) ⟨Nat.le_of_ble_eq_true rfl, Nat.le_of_ble_eq_true rfl⟩ rfl hW hS fun H locs σ2 hσ hW hS => ?_
  subst hσ
  have eF : sfBook (SR 18) 18 = SR 32 := by decide +kernel
  rw [eF] at hW
  clear hM eF lenF len
  refine w_refF (k := 17) (a := 4) (b := 0) (r := 18) (nk := 0) (fs := rO.2.2) F (by decide +kernel) rfl (by decide) (hasW_in (i := 240) (by decide +kernel)) rfl rfl rfl (tyX4_ok 0 (by decide)) (fun _ => rfl) (fun _ => rfl) kX4_12 hW hS fun H locs hW hS => ?_
  refine lv_aload_n hx hb kX4_15 rfl (lv_at hl 0 rfl) ?_
  have len : (SR 32).length = 32 := by decide +kernel
  refine w_newB (ci := 3) (fs := (shN 32).map opn) F.G tyX3 tyX3_ok (hasW_in (i := 223) (by decide +kernel)) (hasW_in (i := 224) (by decide +kernel)) (hasW_in (i := 86) (by decide +kernel)) rfl (fun j hj => by
    match j, hj with
    | 0, _ => rfl
    | 1, _ => rfl
    | 2, _ => rfl) (by rw [len]; decide) (by rw [len]; rfl) (Nat.le_of_ble_eq_true rfl) (Nat.le_of_ble_eq_true rfl) kX4_16 hW hS fun H hW hS => ?_
  rw [len]
  refine lv_dup hx hb kX4_19 rfl ?_
  have hM := k_Names l (base := base) (adK := adK) (un := adB base adK 41 0) (cA := cA) (dg := dg) (SR 32) ((dset D3 17 0 0 1), E0) (by rw [len]; decide) (by rw [len]; rfl) (by rw [len]; rfl)
  rw [len] at hM
  refine k_init (a0 := adB base adK 32 0) (As := []) F.G hml hZ hM (fun U h1 h2 _ => ⟨h1, h2⟩) kPc_c kQc_e rfl rfl (Or.inr hZ.2.2.2.2.2.1) (hasW_in (i := 86) (by decide +kernel)) (hasW_in (i := 226) (by decide +kernel)) (hasW_in (i := 227) (by decide +kernel)) rfl hdX3 ⟨Nat.le_of_ble_eq_true rfl, Nat.le_of_ble_eq_true rfl⟩ kX4_20 hl.1 (Nat.le_of_ble_eq_true rfl) ⟨Nat.le_of_ble_eq_true rfl, Nat.le_of_ble_eq_true rfl⟩ rfl hW hS fun H locs σ2 hσ hW hS => ?_
  subst hσ
  have eF : ((SR 32 ++ [(10, 0, (shN 32).map opn)]) ++ [(0, 20, [])] ++ [(0, 20, [])]).set 32 (10, 0, shN 32) = SR 35 := by decide +kernel
  rw [eF] at hW
  clear hM eF len
  refine w_refF (k := 17) (a := 4) (b := 1) (r := 32) (nk := 0) (fs := rO.2.2) F (by decide +kernel) rfl (by decide) (hasW_in (i := 242) (by decide +kernel)) rfl rfl rfl (tyX4_ok 1 (by decide)) (fun _ => rfl) (fun _ => rfl) kX4_23 hW hS fun H locs hW hS => ?_
  refine lv_aload_n hx hb kX4_26 rfl (lv_at hl 0 rfl) ?_
  have len : (SR 35).length = 35 := by decide +kernel
  refine w_newB (ci := 3) (fs := (shN 35).map opn) F.G tyX3 tyX3_ok (hasW_in (i := 223) (by decide +kernel)) (hasW_in (i := 224) (by decide +kernel)) (hasW_in (i := 86) (by decide +kernel)) rfl (fun j hj => by
    match j, hj with
    | 0, _ => rfl
    | 1, _ => rfl
    | 2, _ => rfl) (by rw [len]; decide) (by rw [len]; rfl) (Nat.le_of_ble_eq_true rfl) (Nat.le_of_ble_eq_true rfl) kX4_27 hW hS fun H hW hS => ?_
  rw [len]
  refine lv_dup hx hb kX4_30 rfl ?_
  have hM := k_Names l (base := base) (adK := adK) (un := adB base adK 41 0) (cA := cA) (dg := dg) (SR 35) ((dset (dset (dset (dset D3 17 0 0 1) 32 0 0 1) 32 0 1 1) 17 0 1 1), E0) (by rw [len]; decide) (by rw [len]; rfl) (by rw [len]; rfl)
  rw [len] at hM
  refine k_init (a0 := adB base adK 35 0) (As := []) F.G hml hZ hM (fun U h1 h2 _ => ⟨h1, h2⟩) kPc_c kQc_e rfl rfl (Or.inr hZ.2.2.2.2.2.1) (hasW_in (i := 86) (by decide +kernel)) (hasW_in (i := 226) (by decide +kernel)) (hasW_in (i := 227) (by decide +kernel)) rfl hdX3 ⟨Nat.le_of_ble_eq_true rfl, Nat.le_of_ble_eq_true rfl⟩ kX4_31 hl.1 (Nat.le_of_ble_eq_true rfl) ⟨Nat.le_of_ble_eq_true rfl, Nat.le_of_ble_eq_true rfl⟩ rfl hW hS fun H locs σ2 hσ hW hS => ?_
  subst hσ
  have eF : ((SR 35 ++ [(10, 0, (shN 35).map opn)]) ++ [(0, 20, [])] ++ [(0, 20, [])]).set 35 (10, 0, shN 35) = SR 38 := by decide +kernel
  rw [eF] at hW
  clear hM eF len
  refine w_refF (k := 17) (a := 4) (b := 2) (r := 35) (nk := 0) (fs := rO.2.2) F (by decide +kernel) rfl (by decide) (hasW_in (i := 243) (by decide +kernel)) rfl rfl rfl (tyX4_ok 2 (by decide)) (fun _ => rfl) (fun _ => rfl) kX4_34 hW hS fun H locs hW hS => ?_
  refine lv_aload_n hx hb kX4_37 rfl (lv_at hl 0 rfl) ?_
  have len : (SR 38).length = 38 := by decide +kernel
  refine w_newB (ci := 3) (fs := (shN 38).map opn) F.G tyX3 tyX3_ok (hasW_in (i := 223) (by decide +kernel)) (hasW_in (i := 224) (by decide +kernel)) (hasW_in (i := 86) (by decide +kernel)) rfl (fun j hj => by
    match j, hj with
    | 0, _ => rfl
    | 1, _ => rfl
    | 2, _ => rfl) (by rw [len]; decide) (by rw [len]; rfl) (Nat.le_of_ble_eq_true rfl) (Nat.le_of_ble_eq_true rfl) kX4_38 hW hS fun H hW hS => ?_
  rw [len]
  refine lv_dup hx hb kX4_41 rfl ?_
  have hM := k_Names l (base := base) (adK := adK) (un := adB base adK 41 0) (cA := cA) (dg := dg) (SR 38) ((dset (dset (dset (dset (dset (dset (dset D3 17 0 0 1) 32 0 0 1) 32 0 1 1) 17 0 1 1) 35 0 0 1) 35 0 1 1) 17 0 2 1), E0) (by rw [len]; decide) (by rw [len]; rfl) (by rw [len]; rfl)
  rw [len] at hM
  refine k_init (a0 := adB base adK 38 0) (As := []) F.G hml hZ hM (fun U h1 h2 _ => ⟨h1, h2⟩) kPc_c kQc_e rfl rfl (Or.inr hZ.2.2.2.2.2.1) (hasW_in (i := 86) (by decide +kernel)) (hasW_in (i := 226) (by decide +kernel)) (hasW_in (i := 227) (by decide +kernel)) rfl hdX3 ⟨Nat.le_of_ble_eq_true rfl, Nat.le_of_ble_eq_true rfl⟩ kX4_42 hl.1 (Nat.le_of_ble_eq_true rfl) ⟨Nat.le_of_ble_eq_true rfl, Nat.le_of_ble_eq_true rfl⟩ rfl hW hS fun H locs σ2 hσ hW hS => ?_
  subst hσ
  have eF : ((SR 38 ++ [(10, 0, (shN 38).map opn)]) ++ [(0, 20, [])] ++ [(0, 20, [])]).set 38 (10, 0, shN 38) = SR 41 := by decide +kernel
  rw [eF] at hW
  clear hM eF len
  refine w_refF (k := 17) (a := 4) (b := 3) (r := 38) (nk := 0) (fs := rO.2.2) F (by decide +kernel) rfl (by decide) (hasW_in (i := 244) (by decide +kernel)) rfl rfl rfl (tyX4_ok 3 (by decide)) (fun _ => rfl) (fun _ => rfl) kX4_45 hW hS fun H locs hW hS => ?_
  refine lv_aload_n hx hb kX4_48 rfl (lv_at hl 0 rfl) ?_
  refine lv_iconst (v := 0) hx hb kX4_49 (by decide) ?_
  refine w_put (k := 17) (a := 4) (b := 4) (x := 0) (nk := 0) (fs := rO.2.2) F.G (by decide +kernel) rfl (by decide) (hasW_in (i := 245) (by decide +kernel)) rfl rfl (tyX4_ok 4 (by decide)) rfl rfl (by show Value.int (dset _ _ _ _ _ _ _ _) = _; rw [dsA, if_pos rfl]) kX4_50 hW hS fun H locs hW hS => ?_
  refine lv_aload_n hx hb kX4_53 rfl (lv_at hl 0 rfl) ?_
  refine lv_iconst (v := -1) hx hb kX4_54 (by decide) ?_
  refine w_put (k := 17) (a := 4) (b := 5) (x := -1) (nk := 0) (fs := rO.2.2) F.G (by decide +kernel) rfl (by decide) (hasW_in (i := 247) (by decide +kernel)) rfl rfl (tyX4_ok 5 (by decide)) rfl rfl (by show Value.int (dset _ _ _ _ _ _ _ _) = _; rw [dsA, if_pos rfl]) kX4_55 hW hS fun H locs hW hS => ?_
  refine lv_aload_n hx hb kX4_58 rfl (lv_at hl 0 rfl) ?_
  refine lv_iconst (v := nI 0) hx hb kX4_59 (by decide) ?_
  have len : (SR 41).length = 41 := by decide +kernel
  refine w_newaB (t := 1) (n := 0) F.G (by decide) (by decide) hw_ab (by rw [len]; decide) (by rw [len]; rfl) (Nat.le_of_ble_eq_true rfl) (Nat.le_of_ble_eq_true rfl) kX4_60 hW hS fun H hW hS => ?_
  rw [len]
  have eF : SR 41 ++ [(1, 0, [])] = SR 42 := by decide +kernel
  rw [eF] at hW
  refine w_put (k := 17) (a := 4) (b := 6) (x := 2) (nk := 0) (fs := rO.2.2) (cd := 8) F.G (by decide +kernel) rfl (by decide) (hasW_in (i := 249) (by decide +kernel)) rfl rfl (tyX4_ok 6 (by decide)) rfl rfl (pFv_u (r := 2) (by rw [dsA, if_pos rfl])) kX4_62 hW hS fun H locs hW hS => ?_
  have hq : (SR 42)[17]? = some (4 + 7, 0, (shReader 17).map opn) := by decide +kernel
  have hW := hW.close (a := 4) (n := 0) (fs := shReader 17) hq (fun b c hb hc hc2 => by
    match b, hb with
    | 0, _ => simp (disch := decide) only [dsN, dsA, if_true, if_false, sNe]
    | 1, _ => simp (disch := decide) only [dsN, dsA, if_true, if_false, sNe]
    | 2, _ => simp (disch := decide) only [dsN, dsA, if_true, if_false, sNe]
    | 3, _ => simp (disch := decide) only [dsN, dsA, if_true, if_false, sNe]
    | 4, hb => cases hb; omega
    | 5, hb => cases hb; omega
    | 6, hb => cases hb; omega
    | 7, hb => cases hb; omega
    | 8, hb => cases hb; omega
    | 9, hb => cases hb; omega
    | 10, hb => cases hb; omega
    | 11, hb => cases hb; omega
    | 12, hb => cases hb; omega
    | 13, hb => cases hb; omega
    | b + 14, hb => cases hb)
  have eF : (SR 42).set 17 (4 + 7, 0, shReader 17) = SX 0 42 := by decide +kernel
  rw [eF] at hW
  refine W.vret hx hb (by rw [hr]) (fun t ht _ => ⟨rfl, ⟨_, ?_, by rw [ht]; exact hW⟩, hS.F ht⟩) hS.2.2 kX4_65 hlocks
  refine ⟨rfl, ?_, ?_, ?_, fun i => ?_⟩
  · refine KB.tr ((KB.dl puBook (by decide)).tr ((KB.ko ko1 (by decide)).tr (KB.ko ko2 (by decide)))) ?_
    intro k hk
    funext j
    have h1 : k ≠ 17 := by omega
    have h2 : k ≠ 32 := by omega
    have h3 : k ≠ 35 := by omega
    have h4 : k ≠ 38 := by omega
    dsimp only
    rw [dsN h1, dsN h1, dsN h1, dsN h1, dsN h4, dsN h4, dsN h1, dsN h3, dsN h3, dsN h1, dsN h2, dsN h2, dsN h1]
  · simp (disch := decide) only [dsN, dsA, if_true, if_false, sNe]
  · simp (disch := decide) only [dsN, dsA, if_true, if_false, sNe]
  · simp (disch := decide) only [dsN]
    rw [ko2.c (by decide), ko1.c (by decide)]
    have e1 : dsl D 18 puBook 25 = D 25 := dsl_ne (by decide) puBook D
    rw [e1]
    exact congrFun ((hz 25 (by decide)).1 0) i
