/-! THE START: the law from its entry -/
def dvB (c : Nat) (t : FieldType) : Bool := match c with
  | 0 => decide (defaultValue t = .int 0)
  | 1 => decide (defaultValue t = .long 0)
  | 2 => decide (defaultValue t = .int 0)
  | c + 3 => !(pFr c).1 && decide (defaultValue t = .null)
theorem dvB_ok {ad : Nat → Nat → Nat} {un b c : Nat} {t : FieldType} (h : dvB c t = true) : defaultValue t = pFv ad un (fun _ => 0) (fun _ => 0) b c := by
  match c, h with
  | 0, h => exact of_decide_eq_true (p := defaultValue t = .int 0) h
  | 1, h => exact of_decide_eq_true (p := defaultValue t = .long 0) h
  | 2, h => exact of_decide_eq_true (p := defaultValue t = .int 0) h
  | c + 3, h =>
    have h2 : (!(pFr c).1 && decide (defaultValue t = .null)) = true := h
    rw [Bool.and_eq_true] at h2
    obtain ⟨h3, h4⟩ := h2
    rw [of_decide_eq_true h4]
    show _ = pFa ad un (pFr c) 0
    cases hp : pFr c with
    | mk f r =>
      rw [hp] at h3
      cases f with
      | true => cases h3
      | false => rfl
theorem hfs_of {ad : Nat → Nat → Nat} {un N : Nat} {ty : Nat → FieldType} {fs : List Nat} (h : ((List.range N).all fun j => match fs[j]? with
    | some c => dvB c (ty j)
    | none => false) = true) : ∀ j, j < N → defaultValue (ty j) = vp_V (fs.mapIdx fun b c => pFv ad un (fun _ => 0) (fun _ => 0) b c) j := by
  intro j hj
  have h1 := al12 h hj
  cases hc : fs[j]? with
  | none => rw [hc] at h1; cases h1
  | some c =>
    rw [hc] at h1
    rw [dvB_ok (ad := ad) (un := un) (b := j) h1]
    unfold vp_V
    rw [List.getD_eq_getElem?_getD, List.getElem?_mapIdx, hc]
    rfl
theorem wo_all {ad : Nat → Nat → Nat} {un : Nat} {cA : Nat → ClassId} {dg : va_G} {σ : pSt} {H : Heap} (h : pWo (Sh.take 143) ad un cA dg σ H) : pWo Sh ad un cA dg σ H := by
  intro k j e he
  obtain ⟨hk, -⟩ := pCe_pl plS_Sh he
  refine h k j e ?_
  unfold pCe at he ⊢
  rw [List.getElem?_take, if_pos hk]
  exact he
set_option maxHeartbeats 8000000 in
set_option maxRecDepth 100000 in
/-- THE LAW, from its entry -/
theorem whole_start {p : Program} {e : Env} {s : State} {m : MethodId} {below : List Frame} {meth : Method} {c : Code} (l : Launch) {b L : Nat} {xs : Nat → Int32} (hL : L ≤ 3072) (C0 : lw_At p s m meth c b L xs) : W p l e room_1 s m #[Value.ref b] below meth c s.heap [] 0 0 (lw_Z below #[Value.ref b] s) (entryFrame m ([Value.ref b] : List Value).toArray 4) := by
  obtain ⟨hx, hb, hr, hml, hown, hts, hX, hbl, hlocks, hgv⟩ := C0
  have htg : ∀ w ∈ tg, w.before #[Value.ref b] s = true := fun w h => hts w (List.mem_filter.mp h).1
  obtain ⟨adK, adV, hZZ⟩ := st_ZZ hts hgv
  obtain ⟨dg, cA, hK⟩ := st_K hts
  have hZ : kZ s.heap.size adK adV s := ⟨hZZ, st_NN hts⟩
  have G : kG p s m #[Value.ref b] c code RL cA dg := ⟨hx, hb, htg, hown, hK⟩
  have hl := lv_entry ([.ref b]) (n := 4) (Nat.le_of_ble_eq_true rfl)
  rw [lg_entry_eq]
  generalize (lg_sl ([.ref b]) ++ List.replicate (4 - (lg_sl ([.ref b])).length) Slot.unset).toArray = ls at hl ⊢
  have hl : lv_has ls 4 [(0, .ref b)] := hl
  have hS : va_S (fun q => s.heap.size ≤ q) s.heap s.heap [] := va_S.rf
  have hW : wB s.heap.size adK (adB s.heap.size adK 41 0) cA dg [] (fun _ _ _ => 0, E0) s.heap := ⟨fun k j e h => (by cases h), rfl, fun k _ => ⟨fun _ => rfl, rfl⟩, fun k q h => (by cases h)⟩
  refine w_newB (ci := 9) (fs := shHb.map opn) G tyX9 tyX9_ok (hasW_in (i := 100) (by decide +kernel)) (hasW_in (i := 101) (by decide +kernel)) (hasW_in (i := 81) (by decide +kernel)) rfl (fun j hj => by
    match j, hj with
    | 0, _ => rfl
    | 1, _ => rfl
    | 2, _ => rfl
    | 3, _ => rfl
    | 4, _ => rfl
    | 5, _ => rfl
    | 6, _ => rfl
    | 7, _ => rfl
    | 8, _ => rfl
    | 9, _ => rfl) (by decide) rfl (Nat.le_of_ble_eq_true rfl) (Nat.le_of_ble_eq_true rfl) dL_0 hW hS fun H hW hS => ?_
  have eI : ([] : List pSh) ++ [(9 + 7, 0, shHb.map opn)] = SX 0 1 := by decide +kernel
  rw [eI] at hW
  refine lv_dup hx hb dL_3 rfl ?_
  have hM := k_Heron l (base := s.heap.size) (adK := adK) (cA := cA) (dg := dg) (adV := adV)
  refine k_init (a0 := adB s.heap.size adK 0 0) (As := []) (rest := [.ref (adB s.heap.size adK 0 0)]) G hml hZ hM (fun U h1 h2 h3 => ⟨h1, h2, h3⟩) kPz_c kQe_e rfl rfl (Or.inl (hasW_in (i := 102) (by decide +kernel))) (hasW_in (i := 81) (by decide +kernel)) (hasW_in (i := 103) (by decide +kernel)) (hasW_in (i := 104) (by decide +kernel)) rfl hdX9 ⟨Nat.le_of_ble_eq_true rfl, Nat.le_of_ble_eq_true rfl⟩ dL_4 hl.1 (Nat.le_of_ble_eq_true rfl) ⟨Nat.le_of_ble_eq_true rfl, Nat.le_of_ble_eq_true rfl⟩ rfl hW hS fun H locs σ2 hσ hW hS => ?_
  obtain ⟨D, E⟩ := σ2
  obtain ⟨hE, hF⟩ := hσ
  dsimp only at hE hF
  subst hE
  have len : (Sh.take 100).length = 100 := by decide +kernel
  have hz : zB 100 (D, E0) := by
    have := hW.2.2.1
    rw [len] at this
    exact this
  obtain ⟨D0, D1, r0, r1, z0, z1, hI⟩ := mo_start hF hz
  refine lv_astore_n (lv' := [(1, .ref (adB s.heap.size adK 0 0)), (0, .ref b)]) hx hb dL_7 rfl hl (by decide) rfl fun ls hl => ?_
  refine w_newB (ci := 10) (fs := (shModel 100).map opn) G tyX10 tyX10_ok (hasW_in (i := 1162) (by decide +kernel)) (hasW_in (i := 1163) (by decide +kernel)) (hasW_in (i := 92) (by decide +kernel)) rfl (hfs_of (by decide +kernel)) (by rw [len]; decide) (by rw [len]; rfl) (Nat.le_of_ble_eq_true rfl) (Nat.le_of_ble_eq_true rfl) dL_8 hW hS fun H hW hS => ?_
  rw [len]
  refine lv_dup hx hb dL_11 rfl ?_
  have lenF : (sfModel (Sh.take 100) 100).length = 143 := by decide +kernel
  have hM := k_Model l (base := s.heap.size) (adK := adK) (un := adB s.heap.size adK 41 0) (cA := cA) (dg := dg) (adV := adV) (Sh.take 100) 100 len (D, E0) (by decide) (by decide) D0 D1 (no_of (by decide +kernel)) (sh_of (by decide +kernel)) (sh_ev cl_m (rgB_eq (by decide +kernel)) gd_model Tx rfl (pL0_ok (okS.cons (okV.r rfl) okS.nil)) r0) (by rw [lenF]; exact z0) (sh_ev cl_m (rgB_eq (by decide +kernel)) gd_model Tx rfl (pL0_ok (okS.cons (okV.r rfl) okS.nil)) r1) (by rw [lenF]; exact z1) rfl
  refine k_init (a0 := adB s.heap.size adK 100 0) (As := []) (rest := [.ref (adB s.heap.size adK 100 0)]) G hml hZ hM (fun U h1 h2 h3 => ⟨h1, h2, h3⟩) kPz_c kQc_e rfl rfl (Or.inl (hasW_in (i := 1164) (by decide +kernel))) (hasW_in (i := 92) (by decide +kernel)) (hasW_in (i := 1165) (by decide +kernel)) (hasW_in (i := 1166) (by decide +kernel)) rfl hdX10 ⟨Nat.le_of_ble_eq_true rfl, Nat.le_of_ble_eq_true rfl⟩ dL_12 hl.1 (Nat.le_of_ble_eq_true rfl) ⟨Nat.le_of_ble_eq_true rfl, Nat.le_of_ble_eq_true rfl⟩ rfl hW hS fun H locs σ2 hσ hW hS => ?_
  subst hσ
  have eF : sfModel (Sh.take 100) 100 = Sh.take 143 := by decide +kernel
  rw [eF] at hW
  refine lv_astore_n (lv' := [(2, .ref (adB s.heap.size adK 100 0)), (1, .ref (adB s.heap.size adK 0 0)), (0, .ref b)]) hx hb dL_15 rfl hl (by decide) rfl fun ls hl => ?_
  refine lv_iconst (v := nI 0) hx hb dL_16 (by decide) ?_
  refine lv_istore_n (lv' := [(3, .int (nI 0)), (2, .ref (adB s.heap.size adK 100 0)), (1, .ref (adB s.heap.size adK 0 0)), (0, .ref b)]) hx hb dL_17 rfl hl (by decide) rfl fun ls hl => ?_
  exact la_loop (l := l) (ad := adB s.heap.size adK) (un := adB s.heap.size adK 41 0) (cA := cA) (dg := dg) (adV := adV) ⟨hx, hb, hml, hown, htg, pAp_B plS_Sh, hK, hZZ, hX, hbl, hL⟩ hr hlocks ⟨Nat.le_of_ble_eq_true rfl, Nat.le_of_ble_eq_true rfl⟩ (L + 6) 0 (D1, E0) H locs ls (by omega) (by omega) hI (wo_all hW.1) hS (lv_sub hl [3, 2, 1, 0] rfl)
