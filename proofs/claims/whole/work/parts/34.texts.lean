/-! TEXTS: String.length and charAt over the claim's constants -/
def tR (d : Nat) : Room := { frames := d, cells := 0, slots := 0, locals := 40 * d }
def tQ (r : Option Value) : Array Value → State → Outcome → State → Prop := fun _ st oc t => oc = .returned r ∧ t.heap = st.heap
/-- what is known of the texts, and of the statics behind them -/
def pZt (N : Nat) (len : List Nat) (byt : List (List Int32)) (adK adV : Nat → Nat) (A : Nat → Prop) (U : State) : Prop := va_Z "java/lang/String" "COMPACT_STRINGS" "Z" (.int 1) A U U.heap ∧ va_Zq "jdk/internal/util/Preconditions" "SIOOBE_FORMATTER" "Ljava/util/function/BiFunction;" A U U.heap ∧ vk_S N len byt adK adV A U U.heap
theorem pZt.moved {N : Nat} {len : List Nat} {byt : List (List Int32)} {adK adV : Nat → Nat} {A : Nat → Prop} {s U : State} (hW : s.vm.Alike U.vm) (hk : ∀ q : Nat, q < s.heap.size → ¬ A q → U.heap[q]? = s.heap[q]?) (h : pZt N len byt adK adV A s) : pZt N len byt adK adV A U :=
  ⟨(h.1.moved hW).kept hk, (h.2.1.moved hW).kept hk, (h.2.2.moved hW).kept hk⟩
section TX
variable {l : Launch} {N : Nat} {len : List Nat} {byt : List (List Int32)} {adK adV : Nat → Nat} {A : Nat → Prop}
theorem t_call {p : Program} {e : Env} {R : Room} {s : State} {m : MethodId} {args : Array Value} {below : List Frame} {meth : Method} {c : Code} {Q : State → Prop} {H H0 : Heap} {locs : List Loc} {pc : Nat} {ls : Array Slot} {st0 rest : List Value} {r : Option Value} {a : Array Value}
    (hr : va_Run p l e R s m args below meth c H locs 0 0 0 0 (F0 m pc ls st0) rest (tQ r a) A) (hS : va_S A H0 H locs) (kk : ∀ locs1, va_S A H0 H locs1 → W p l e R s m args below meth c H locs1 0 0 Q (F0 m (pc + 3) ls (r.toList ++ rest))) : W p l e R s m args below meth c H locs 0 0 Q (F0 m pc ls st0) := by
  intro T2 hT X
  obtain ⟨v', st₀, t, T', LL, h0, X', hLL, e1, e2, ⟨hv, hh⟩, stp⟩ := hr T2 hT X
  have hv : v' = r := by injection hv
  subst hv
  obtain ⟨t2, a1, b1⟩ := kk (locs ++ LL) ⟨hS.1, hS.2.1, fun q hq => by
      rcases List.mem_append.mp hq with h | h
      · exact hS.2.2 q h
      · exact hLL q h⟩ T' (by rw [e1, hh, h0]) X'
  exact ⟨t2, stp t2 a1, b1⟩
theorem tx_good (ws : List Cond) (hw : ∀ w ∈ ws, w ∈ tg) : GoodIn tg ws := fun w h => ⟨hw w h, good_of_word (tg_good w (hw w h))⟩
theorem cd_J0_coder_7d493 : Cond.code yJ0_coder_7d493 cJ0_coder_7d493 1 (some .byte) ∈ tg := hasW_in (i := 535) (by decide +kernel)
theorem dJ0_coder_7d493_0 : decode cJ0_coder_7d493 0 = .ok (.getstatic 38, 3) := by decide +kernel
theorem dJ0_coder_7d493_3 : decode cJ0_coder_7d493 3 = .ok (.ifCond .eq 10, 3) := by decide +kernel
theorem dJ0_coder_7d493_6 : decode cJ0_coder_7d493 6 = .ok (.aload_n 0, 1) := by decide +kernel
theorem dJ0_coder_7d493_7 : decode cJ0_coder_7d493 7 = .ok (.getfield 15, 3) := by decide +kernel
theorem dJ0_coder_7d493_10 : decode cJ0_coder_7d493 10 = .ok (.goto 4, 3) := by decide +kernel
theorem dJ0_coder_7d493_13 : decode cJ0_coder_7d493 13 = .ok (.iconst 1, 1) := by decide +kernel
theorem dJ0_coder_7d493_14 : decode cJ0_coder_7d493 14 = .ok (.ireturn, 1) := by decide +kernel
theorem cd_J0_isLatin1_aae02 : Cond.code yJ0_isLatin1_aae02 cJ0_isLatin1_aae02 1 (some .boolean) ∈ tg := hasW_in (i := 545) (by decide +kernel)
theorem dJ0_isLatin1_aae02_0 : decode cJ0_isLatin1_aae02 0 = .ok (.getstatic 38, 3) := by decide +kernel
theorem dJ0_isLatin1_aae02_3 : decode cJ0_isLatin1_aae02 3 = .ok (.ifCond .eq 14, 3) := by decide +kernel
theorem dJ0_isLatin1_aae02_6 : decode cJ0_isLatin1_aae02 6 = .ok (.aload_n 0, 1) := by decide +kernel
theorem dJ0_isLatin1_aae02_7 : decode cJ0_isLatin1_aae02 7 = .ok (.getfield 15, 3) := by decide +kernel
theorem dJ0_isLatin1_aae02_10 : decode cJ0_isLatin1_aae02 10 = .ok (.ifCond .ne 7, 3) := by decide +kernel
theorem dJ0_isLatin1_aae02_13 : decode cJ0_isLatin1_aae02 13 = .ok (.iconst 1, 1) := by decide +kernel
theorem dJ0_isLatin1_aae02_14 : decode cJ0_isLatin1_aae02 14 = .ok (.goto 4, 3) := by decide +kernel
theorem dJ0_isLatin1_aae02_17 : decode cJ0_isLatin1_aae02 17 = .ok (.iconst 0, 1) := by decide +kernel
theorem dJ0_isLatin1_aae02_18 : decode cJ0_isLatin1_aae02 18 = .ok (.ireturn, 1) := by decide +kernel
theorem cd_J0_length_8abf5 : Cond.code yJ0_length_8abf5 cJ0_length_8abf5 1 (some .int) ∈ tg := hasW_in (i := 531) (by decide +kernel)
theorem dJ0_length_8abf5_0 : decode cJ0_length_8abf5 0 = .ok (.aload_n 0, 1) := by decide +kernel
theorem dJ0_length_8abf5_1 : decode cJ0_length_8abf5 1 = .ok (.getfield 9, 3) := by decide +kernel
theorem dJ0_length_8abf5_4 : decode cJ0_length_8abf5 4 = .ok (.arraylength, 1) := by decide +kernel
theorem dJ0_length_8abf5_5 : decode cJ0_length_8abf5 5 = .ok (.aload_n 0, 1) := by decide +kernel
theorem dJ0_length_8abf5_6 : decode cJ0_length_8abf5 6 = .ok (.invokevirtual 335, 3) := by decide +kernel
theorem dJ0_length_8abf5_9 : decode cJ0_length_8abf5 9 = .ok (.ishr, 1) := by decide +kernel
theorem dJ0_length_8abf5_10 : decode cJ0_length_8abf5 10 = .ok (.ireturn, 1) := by decide +kernel
theorem cd_J3_checkIndex_8e157 : Cond.code yJ3_checkIndex_8e157 cJ3_checkIndex_8e157 3 (some .int) ∈ tg := hasW_in (i := 556) (by decide +kernel)
theorem dJ3_checkIndex_8e157_0 : decode cJ3_checkIndex_8e157 0 = .ok (.iload_n 0, 1) := by decide +kernel
theorem dJ3_checkIndex_8e157_1 : decode cJ3_checkIndex_8e157 1 = .ok (.ifCond .lt 8, 3) := by decide +kernel
theorem dJ3_checkIndex_8e157_4 : decode cJ3_checkIndex_8e157 4 = .ok (.iload_n 0, 1) := by decide +kernel
theorem dJ3_checkIndex_8e157_5 : decode cJ3_checkIndex_8e157 5 = .ok (.iload_n 1, 1) := by decide +kernel
theorem dJ3_checkIndex_8e157_6 : decode cJ3_checkIndex_8e157 6 = .ok (.if_icmp .lt 10, 3) := by decide +kernel
theorem dJ3_checkIndex_8e157_9 : decode cJ3_checkIndex_8e157 9 = .ok (.aload_n 2, 1) := by decide +kernel
theorem dJ3_checkIndex_8e157_10 : decode cJ3_checkIndex_8e157 10 = .ok (.iload_n 0, 1) := by decide +kernel
theorem dJ3_checkIndex_8e157_11 : decode cJ3_checkIndex_8e157 11 = .ok (.iload_n 1, 1) := by decide +kernel
theorem dJ3_checkIndex_8e157_12 : decode cJ3_checkIndex_8e157 12 = .ok (.invokestatic 95, 3) := by decide +kernel
theorem dJ3_checkIndex_8e157_15 : decode cJ3_checkIndex_8e157 15 = .ok (.athrow, 1) := by decide +kernel
theorem dJ3_checkIndex_8e157_16 : decode cJ3_checkIndex_8e157 16 = .ok (.iload_n 0, 1) := by decide +kernel
theorem dJ3_checkIndex_8e157_17 : decode cJ3_checkIndex_8e157 17 = .ok (.ireturn, 1) := by decide +kernel
theorem cd_J0_checkIndex_df160 : Cond.code yJ0_checkIndex_df160 cJ0_checkIndex_df160 2 none ∈ tg := hasW_in (i := 551) (by decide +kernel)
theorem dJ0_checkIndex_df160_0 : decode cJ0_checkIndex_df160 0 = .ok (.iload_n 0, 1) := by decide +kernel
theorem dJ0_checkIndex_df160_1 : decode cJ0_checkIndex_df160 1 = .ok (.iload_n 1, 1) := by decide +kernel
theorem dJ0_checkIndex_df160_2 : decode cJ0_checkIndex_df160 2 = .ok (.getstatic 1053, 3) := by decide +kernel
theorem dJ0_checkIndex_df160_5 : decode cJ0_checkIndex_df160 5 = .ok (.invokestatic 1059, 3) := by decide +kernel
theorem dJ0_checkIndex_df160_8 : decode cJ0_checkIndex_df160 8 = .ok (.pop, 1) := by decide +kernel
theorem dJ0_checkIndex_df160_9 : decode cJ0_checkIndex_df160 9 = .ok (.return_, 1) := by decide +kernel
theorem cd_J1_charAt_3b067 : Cond.code yJ1_charAt_3b067 cJ1_charAt_3b067 2 (some .char) ∈ tg := hasW_in (i := 548) (by decide +kernel)
theorem dJ1_charAt_3b067_0 : decode cJ1_charAt_3b067 0 = .ok (.iload_n 1, 1) := by decide +kernel
theorem dJ1_charAt_3b067_1 : decode cJ1_charAt_3b067 1 = .ok (.aload_n 0, 1) := by decide +kernel
theorem dJ1_charAt_3b067_2 : decode cJ1_charAt_3b067 2 = .ok (.arraylength, 1) := by decide +kernel
theorem dJ1_charAt_3b067_3 : decode cJ1_charAt_3b067 3 = .ok (.invokestatic 9, 3) := by decide +kernel
theorem dJ1_charAt_3b067_6 : decode cJ1_charAt_3b067 6 = .ok (.aload_n 0, 1) := by decide +kernel
theorem dJ1_charAt_3b067_7 : decode cJ1_charAt_3b067 7 = .ok (.iload_n 1, 1) := by decide +kernel
theorem dJ1_charAt_3b067_8 : decode cJ1_charAt_3b067 8 = .ok (.baload, 1) := by decide +kernel
theorem dJ1_charAt_3b067_9 : decode cJ1_charAt_3b067 9 = .ok (.sipush 255, 3) := by decide +kernel
theorem dJ1_charAt_3b067_12 : decode cJ1_charAt_3b067 12 = .ok (.iand, 1) := by decide +kernel
theorem dJ1_charAt_3b067_13 : decode cJ1_charAt_3b067 13 = .ok (.i2c, 1) := by decide +kernel
theorem dJ1_charAt_3b067_14 : decode cJ1_charAt_3b067 14 = .ok (.ireturn, 1) := by decide +kernel
theorem cd_J0_charAt_5068e : Cond.code yJ0_charAt_5068e cJ0_charAt_5068e 2 (some .char) ∈ tg := hasW_in (i := 541) (by decide +kernel)
theorem dJ0_charAt_5068e_0 : decode cJ0_charAt_5068e 0 = .ok (.aload_n 0, 1) := by decide +kernel
theorem dJ0_charAt_5068e_1 : decode cJ0_charAt_5068e 1 = .ok (.invokevirtual 492, 3) := by decide +kernel
theorem dJ0_charAt_5068e_4 : decode cJ0_charAt_5068e 4 = .ok (.ifCond .eq 12, 3) := by decide +kernel
theorem dJ0_charAt_5068e_7 : decode cJ0_charAt_5068e 7 = .ok (.aload_n 0, 1) := by decide +kernel
theorem dJ0_charAt_5068e_8 : decode cJ0_charAt_5068e 8 = .ok (.getfield 9, 3) := by decide +kernel
theorem dJ0_charAt_5068e_11 : decode cJ0_charAt_5068e 11 = .ok (.iload_n 1, 1) := by decide +kernel
theorem dJ0_charAt_5068e_12 : decode cJ0_charAt_5068e 12 = .ok (.invokestatic 495, 3) := by decide +kernel
theorem dJ0_charAt_5068e_15 : decode cJ0_charAt_5068e 15 = .ok (.ireturn, 1) := by decide +kernel
theorem dJ0_charAt_5068e_16 : decode cJ0_charAt_5068e 16 = .ok (.aload_n 0, 1) := by decide +kernel
theorem dJ0_charAt_5068e_17 : decode cJ0_charAt_5068e 17 = .ok (.getfield 9, 3) := by decide +kernel
theorem dJ0_charAt_5068e_20 : decode cJ0_charAt_5068e 20 = .ok (.iload_n 1, 1) := by decide +kernel
theorem dJ0_charAt_5068e_21 : decode cJ0_charAt_5068e 21 = .ok (.invokestatic 498, 3) := by decide +kernel
theorem dJ0_charAt_5068e_24 : decode cJ0_charAt_5068e 24 = .ok (.ireturn, 1) := by decide +kernel
theorem tx_coder {i : Nat} (hi : i < N) : Met l yJ0_coder_7d493 (Cond.code yJ0_coder_7d493 cJ0_coder_7d493 1 (some .byte) :: tg) (tR 0) (va_Pc ([.ref (adK i)]) (pZt N len byt adK adV A)) (tQ (some (.int 0))) 0 0 A := by
  refine Met.ofW (cc := cJ0_coder_7d493) (maxL := 1) (ret := (some .byte)) (by decide) rfl ?_
  intro p e s m args below meth c s₁ B hml hv
  obtain ⟨rfl, hz⟩ := hv
  have hts := atoms_spec (ws := Cond.code yJ0_coder_7d493 cJ0_coder_7d493 1 (some .byte) :: tg) B.pre
  have hw : ∀ w ∈ tg, w.before _ s = true := fun w h => hts w (List.mem_cons_of_mem _ h)
  have hx := B.exec
  have hb := B.bytes
  have hr := B.returns
  have hown := findClass_of_methodNamed B.named
  have hlocks := B.notSynchronized
  have hl := lv_entry ([.ref (adK i)]) (n := 1) (Nat.le_of_ble_eq_true rfl)
  rw [lg_entry_eq]
  generalize (lg_sl ([.ref (adK i)]) ++ List.replicate (1 - (lg_sl ([.ref (adK i)])).length) Slot.unset).toArray = ls at hl ⊢
  have hl : lv_has ls 1 [(0, .ref (adK i))] := hl
  have hS : va_S A s.heap s.heap [] := va_S.rf
  refine va_gets hx hb hz.1 hS hown (hw _ (hasW_in (i := 536) (w := Cond.fieldLink "java/lang/String" 38 "java/lang/String" "COMPACT_STRINGS" "Z") (by decide +kernel))) (fun _ h => h) dJ0_coder_7d493_0 ?_
  refine lv_if_eq (tgt := 13) hx hb dJ0_coder_7d493_3 (by decide) (fun h => absurd h (by decide)) (fun _ => ?_)
  refine lv_aload_n hx hb dJ0_coder_7d493_6 rfl (lv_at hl 0 rfl) ?_
  refine vk_getf hx hb (hz.2.2.1 i hi).2.1 hS hown (hw _ (hasW_in (i := 1731) (w := Cond.fieldLink "java/lang/String" 15 "java/lang/String" "coder" "B") (by decide +kernel))) (fun _ h => h) dJ0_coder_7d493_7 ?_
  refine lv_goto (tgt := 14) hx hb dJ0_coder_7d493_10 (by decide) ?_
  exact W.zret (ty := .byte) hx hb hr (by decide +kernel) (fun t ht _ => ⟨rfl, ht⟩) hS.2.2 dJ0_coder_7d493_14 hlocks
theorem tx_lat {i : Nat} (hi : i < N) : Met l yJ0_isLatin1_aae02 (Cond.code yJ0_isLatin1_aae02 cJ0_isLatin1_aae02 1 (some .boolean) :: tg) (tR 0) (va_Pc ([.ref (adK i)]) (pZt N len byt adK adV A)) (tQ (some (.int 1))) 0 0 A := by
  refine Met.ofW (cc := cJ0_isLatin1_aae02) (maxL := 1) (ret := (some .boolean)) (by decide) rfl ?_
  intro p e s m args below meth c s₁ B hml hv
  obtain ⟨rfl, hz⟩ := hv
  have hts := atoms_spec (ws := Cond.code yJ0_isLatin1_aae02 cJ0_isLatin1_aae02 1 (some .boolean) :: tg) B.pre
  have hw : ∀ w ∈ tg, w.before _ s = true := fun w h => hts w (List.mem_cons_of_mem _ h)
  have hx := B.exec
  have hb := B.bytes
  have hr := B.returns
  have hown := findClass_of_methodNamed B.named
  have hlocks := B.notSynchronized
  have hl := lv_entry ([.ref (adK i)]) (n := 1) (Nat.le_of_ble_eq_true rfl)
  rw [lg_entry_eq]
  generalize (lg_sl ([.ref (adK i)]) ++ List.replicate (1 - (lg_sl ([.ref (adK i)])).length) Slot.unset).toArray = ls at hl ⊢
  have hl : lv_has ls 1 [(0, .ref (adK i))] := hl
  have hS : va_S A s.heap s.heap [] := va_S.rf
  refine va_gets hx hb hz.1 hS hown (hw _ (hasW_in (i := 536) (w := Cond.fieldLink "java/lang/String" 38 "java/lang/String" "COMPACT_STRINGS" "Z") (by decide +kernel))) (fun _ h => h) dJ0_isLatin1_aae02_0 ?_
  refine lv_if_eq (tgt := 17) hx hb dJ0_isLatin1_aae02_3 (by decide) (fun h => absurd h (by decide)) (fun _ => ?_)
  refine lv_aload_n hx hb dJ0_isLatin1_aae02_6 rfl (lv_at hl 0 rfl) ?_
  refine vk_getf hx hb (hz.2.2.1 i hi).2.1 hS hown (hw _ (hasW_in (i := 1731) (w := Cond.fieldLink "java/lang/String" 15 "java/lang/String" "coder" "B") (by decide +kernel))) (fun _ h => h) dJ0_isLatin1_aae02_7 ?_
  refine lv_if_ne (tgt := 17) hx hb dJ0_isLatin1_aae02_10 (by decide) (fun h => absurd rfl h) (fun _ => ?_)
  refine lv_iconst (v := 1) hx hb dJ0_isLatin1_aae02_13 (by decide) ?_
  refine lv_goto (tgt := 18) hx hb dJ0_isLatin1_aae02_14 (by decide) ?_
  exact W.zret (ty := .boolean) hx hb hr (by decide +kernel) (fun t ht _ => ⟨rfl, ht⟩) hS.2.2 dJ0_isLatin1_aae02_18 hlocks
theorem tx_len {i : Nat} (hi : i < N) : Met l yJ0_length_8abf5 (Cond.code yJ0_length_8abf5 cJ0_length_8abf5 1 (some .int) :: tg) (tR 1) (va_Pc ([.ref (adK i)]) (pZt N len byt adK adV A)) (tQ (some (.int (nI (len.getD i 0))))) 0 0 A := by
  refine Met.ofW (cc := cJ0_length_8abf5) (maxL := 1) (ret := (some .int)) (by decide) rfl ?_
  intro p e s m args below meth c s₁ B hml hv
  obtain ⟨rfl, hz⟩ := hv
  have hts := atoms_spec (ws := Cond.code yJ0_length_8abf5 cJ0_length_8abf5 1 (some .int) :: tg) B.pre
  have hw : ∀ w ∈ tg, w.before _ s = true := fun w h => hts w (List.mem_cons_of_mem _ h)
  have hx := B.exec
  have hb := B.bytes
  have hr := B.returns
  have hown := findClass_of_methodNamed B.named
  have hlocks := B.notSynchronized
  have hl := lv_entry ([.ref (adK i)]) (n := 1) (Nat.le_of_ble_eq_true rfl)
  rw [lg_entry_eq]
  generalize (lg_sl ([.ref (adK i)]) ++ List.replicate (1 - (lg_sl ([.ref (adK i)])).length) Slot.unset).toArray = ls at hl ⊢
  have hl : lv_has ls 1 [(0, .ref (adK i))] := hl
  have hS : va_S A s.heap s.heap [] := va_S.rf
  refine lv_aload_n hx hb dJ0_length_8abf5_0 rfl (lv_at hl 0 rfl) ?_
  refine vk_getf hx hb (hz.2.2.1 i hi).2.2.1 hS hown (hw _ (hasW_in (i := 1730) (w := Cond.fieldLink "java/lang/String" 9 "java/lang/String" "value" "[B") (by decide +kernel))) (fun _ h => h) dJ0_length_8abf5_1 ?_
  refine va_tlen hx hb (hz.2.2.1 i hi).2.2.2 hS (v := nI (len.getD i 0)) rfl dJ0_length_8abf5_4 ?_
  refine lv_aload_n hx hb dJ0_length_8abf5_5 rfl (lv_at hl 0 rfl) ?_
  refine t_call (va_runV (As := []) (rest := [.int (nI (len.getD i 0))]) (b := adK i) (C := "java/lang/String") ⟨hx, hb, hml, hown, hw⟩ (tx_coder hi) (cwV 0 hw (tx_good _ (fun w hq => ?_)) rfl rfl rfl (by decide +kernel) ⟨by decide, by decide⟩) ⟨fun a U g mk q => ⟨q.1, pZt.moved (s := U) (U := U.calling g mk a) (Vm.Alike.refl U.vm) (fun _ _ _ => rfl) q.2⟩, vk_recv hz.2.2 hi hS, fun U hU hW => ⟨rfl, pZt.moved hW.alike (fun q h1 h2 => by rw [hU]) hz⟩⟩ rfl rfl hl.1 rfl (lv_room (Nat.le_of_ble_eq_true rfl)) dJ0_length_8abf5_6 ⟨Nat.le_refl _, Nat.le_refl _⟩) hS (fun locs hS => ?_)
  · unfold wsV at hq
    simp only [List.cons_append, List.nil_append, List.mem_cons] at hq
    rcases hq with rfl | rfl | rfl | rfl | rfl | h5
    · exact hasW_in (i := 532) (by decide +kernel)
    · exact hasW_in (i := 533) (by decide +kernel)
    · exact hasW_in (i := 534) (by decide +kernel)
    · exact hasW_in (i := 93) (by decide +kernel)
    · exact cd_J0_coder_7d493
    · exact h5
  refine lv_ishr hx hb dJ0_length_8abf5_9 ?_
  rw [sb_shr0]
  exact W.zret (ty := .int) hx hb hr rfl (fun t ht _ => ⟨rfl, ht⟩) hS.2.2 dJ0_length_8abf5_10 hlocks
theorem tx_pre {x n : Int32} {v : Value} (hv1 : v.category = 1) (h0 : ¬ x < 0) (h1 : x < n) : Met l yJ3_checkIndex_8e157 (Cond.code yJ3_checkIndex_8e157 cJ3_checkIndex_8e157 3 (some .int) :: tg) (tR 0) (va_Pc ([.int x, .int n, v]) (fun _ => True)) (tQ (some (.int x))) 0 0 A := by
  refine Met.ofW (cc := cJ3_checkIndex_8e157) (maxL := 3) (ret := some .int) (by decide) rfl ?_
  intro p e s m args below meth c s₁ B hml hv
  obtain ⟨rfl, hz⟩ := hv
  have hx := B.exec
  have hb := B.bytes
  have hr := B.returns
  have hlocks := B.notSynchronized
  have hsl : (lg_sl [.int x, .int n, v]).length = 3 := by
    unfold lg_sl
    simp only [List.flatMap_cons, List.flatMap_nil]
    rw [if_neg (show ¬ v.category = 2 by omega)]
    rfl
  have hl := lv_entry [.int x, .int n, v] (n := 3) (by rw [hsl]; exact Nat.le_refl _)
  rw [lg_entry_eq]
  generalize (lg_sl [.int x, .int n, v] ++ List.replicate (3 - (lg_sl [.int x, .int n, v]).length) Slot.unset).toArray = ls at hl ⊢
  have hl : lv_has ls 3 [(0, .int x), (1, .int n), (2, v)] := hl
  have hS : va_S A s.heap s.heap [] := va_S.rf
  refine lv_iload_n hx hb dJ3_checkIndex_8e157_0 rfl (lv_at hl 0 rfl) ?_
  refine lv_if_lt (tgt := 9) hx hb dJ3_checkIndex_8e157_1 (by decide) (fun h => absurd h h0) (fun _ => ?_)
  refine lv_iload_n hx hb dJ3_checkIndex_8e157_4 rfl (lv_at hl 0 rfl) ?_
  refine lv_iload_n hx hb dJ3_checkIndex_8e157_5 rfl (lv_at hl 1 rfl) ?_
  refine lv_icmp_lt (tgt := 16) hx hb dJ3_checkIndex_8e157_6 (by decide) (fun _ => ?_) (fun h => absurd h1 h)
  refine lv_iload_n hx hb dJ3_checkIndex_8e157_16 rfl (lv_at hl 0 rfl) ?_
  exact W.zret (ty := .int) hx hb hr rfl (fun t ht _ => ⟨rfl, ht⟩) hS.2.2 dJ3_checkIndex_8e157_17 hlocks
theorem tx_chk {x n : Int32} (h0 : ¬ x < 0) (h1 : x < n) : Met l yJ0_checkIndex_df160 (Cond.code yJ0_checkIndex_df160 cJ0_checkIndex_df160 2 none :: tg) (tR 1) (va_Pc ([.int x, .int n]) (pZt N len byt adK adV A)) (tQ (none)) 0 0 A := by
  refine Met.ofW (cc := cJ0_checkIndex_df160) (maxL := 2) (ret := none) (by decide) rfl ?_
  intro p e s m args below meth c s₁ B hml hv
  obtain ⟨rfl, hz⟩ := hv
  have hts := atoms_spec (ws := Cond.code yJ0_checkIndex_df160 cJ0_checkIndex_df160 2 none :: tg) B.pre
  have hw : ∀ w ∈ tg, w.before _ s = true := fun w h => hts w (List.mem_cons_of_mem _ h)
  have hx := B.exec
  have hb := B.bytes
  have hr := B.returns
  have hown := findClass_of_methodNamed B.named
  have hlocks := B.notSynchronized
  have hl := lv_entry ([.int x, .int n]) (n := 2) (Nat.le_of_ble_eq_true rfl)
  rw [lg_entry_eq]
  generalize (lg_sl ([.int x, .int n]) ++ List.replicate (2 - (lg_sl ([.int x, .int n])).length) Slot.unset).toArray = ls at hl ⊢
  have hl : lv_has ls 2 [(0, .int x), (1, .int n)] := hl
  have hS : va_S A s.heap s.heap [] := va_S.rf
  refine lv_iload_n hx hb dJ0_checkIndex_df160_0 rfl (lv_at hl 0 rfl) ?_
  refine lv_iload_n hx hb dJ0_checkIndex_df160_1 rfl (lv_at hl 1 rfl) ?_
  obtain ⟨v, hv1, hzv⟩ : ∃ v : Value, v.category = 1 ∧ va_Z "jdk/internal/util/Preconditions" "SIOOBE_FORMATTER" "Ljava/util/function/BiFunction;" v A s s.heap := by
    rcases hz.2.1 with h | ⟨t, h⟩
    · exact ⟨_, rfl, h⟩
    · exact ⟨_, rfl, h⟩
  refine va_gets hx hb hzv hS hown (hw _ (hasW_in (i := 552) (w := Cond.fieldLink "java/lang/String" 1053 "jdk/internal/util/Preconditions" "SIOOBE_FORMATTER" "Ljava/util/function/BiFunction;") (by decide +kernel))) (fun _ h => h) dJ0_checkIndex_df160_2 ?_
  refine t_call (va_runS (As := [.int x, .int n, v]) (rest := []) ⟨hx, hb, hml, hown, hw⟩ (tx_pre hv1 h0 h1) (va_cwS 3 hw (tx_good _ (fun w hq => ?_)) rfl rfl rfl (by decide +kernel) ⟨by decide, by decide⟩) ⟨fun a U g mk q => q, fun U hU hW => ⟨rfl, trivial⟩⟩ rfl rfl hl.1 rfl (lv_room (Nat.le_of_ble_eq_true rfl)) dJ0_checkIndex_df160_5 ⟨Nat.le_refl _, Nat.le_refl _⟩) hS (fun locs hS => ?_)
  · unfold va_wsS at hq
    simp only [List.cons_append, List.nil_append, List.mem_cons] at hq
    rcases hq with rfl | rfl | rfl | rfl | h5
    · exact hasW_in (i := 554) (by decide +kernel)
    · exact hasW_in (i := 555) (by decide +kernel)
    · exact hasW_in (i := 95) (by decide +kernel)
    · exact cd_J3_checkIndex_8e157
    · exact h5
  refine lv_pop hx hb dJ0_checkIndex_df160_8 rfl ?_
  exact W.vret hx hb hr (fun t ht _ => ⟨rfl, ht⟩) hS.2.2 dJ0_checkIndex_df160_9 hlocks
theorem tx_l1 {i : Nat} (hi : i < N) {x : Int32} (hin : vp_in x (len.getD i 0)) (hlen : len.getD i 0 < 2 ^ 31) : Met l yJ1_charAt_3b067 (Cond.code yJ1_charAt_3b067 cJ1_charAt_3b067 2 (some .char) :: tg) (tR 2) (va_Pc ([.ref (adV i), .int x]) (pZt N len byt adK adV A)) (tQ (some (.int ((byt.getD i []).getD x.toNatClampNeg 0 &&& 255)))) 0 0 A := by
  refine Met.ofW (cc := cJ1_charAt_3b067) (maxL := 2) (ret := (some .char)) (by decide) rfl ?_
  intro p e s m args below meth c s₁ B hml hv
  obtain ⟨rfl, hz⟩ := hv
  have hts := atoms_spec (ws := Cond.code yJ1_charAt_3b067 cJ1_charAt_3b067 2 (some .char) :: tg) B.pre
  have hw : ∀ w ∈ tg, w.before _ s = true := fun w h => hts w (List.mem_cons_of_mem _ h)
  have hx := B.exec
  have hb := B.bytes
  have hr := B.returns
  have hown := findClass_of_methodNamed B.named
  have hlocks := B.notSynchronized
  have hl := lv_entry ([.ref (adV i), .int x]) (n := 2) (Nat.le_of_ble_eq_true rfl)
  rw [lg_entry_eq]
  generalize (lg_sl ([.ref (adV i), .int x]) ++ List.replicate (2 - (lg_sl ([.ref (adV i), .int x])).length) Slot.unset).toArray = ls at hl ⊢
  have hl : lv_has ls 2 [(0, .ref (adV i)), (1, .int x)] := hl
  have hS : va_S A s.heap s.heap [] := va_S.rf
  obtain ⟨j, hj, hxj⟩ := vp_in_of hin hlen
  have h0 : ¬ x < 0 := fun h => hin (Or.inl h)
  have h1 : x < nI (len.getD i 0) := by rw [hxj]; exact nI_lt hj hlen
  refine lv_iload_n hx hb dJ1_charAt_3b067_0 rfl (lv_at hl 1 rfl) ?_
  refine lv_aload_n hx hb dJ1_charAt_3b067_1 rfl (lv_at hl 0 rfl) ?_
  refine va_tlen hx hb (hz.2.2.1 i hi).2.2.2 hS (v := nI (len.getD i 0)) rfl dJ1_charAt_3b067_2 ?_
  refine t_call (va_runS (As := [.int x, .int (nI (len.getD i 0))]) (rest := []) ⟨hx, hb, hml, hown, hw⟩ (tx_chk h0 h1) (va_cwS 2 hw (tx_good _ (fun w hq => ?_)) rfl rfl rfl (by decide +kernel) ⟨by decide, by decide⟩) ⟨fun a U g mk q => ⟨q.1, pZt.moved (s := U) (U := U.calling g mk a) (Vm.Alike.refl U.vm) (fun _ _ _ => rfl) q.2⟩, fun U hU hW => ⟨rfl, pZt.moved hW.alike (fun q h1 h2 => by rw [hU]) hz⟩⟩ rfl rfl hl.1 rfl (lv_room (Nat.le_of_ble_eq_true rfl)) dJ1_charAt_3b067_3 ⟨Nat.le_refl _, Nat.le_refl _⟩) hS (fun locs hS => ?_)
  · unfold va_wsS at hq
    simp only [List.cons_append, List.nil_append, List.mem_cons] at hq
    rcases hq with rfl | rfl | rfl | rfl | h5
    · exact hasW_in (i := 549) (by decide +kernel)
    · exact hasW_in (i := 550) (by decide +kernel)
    · exact hasW_in (i := 93) (by decide +kernel)
    · exact cd_J0_checkIndex_df160
    · exact h5
  refine lv_aload_n hx hb dJ1_charAt_3b067_6 rfl (lv_at hl 0 rfl) ?_
  refine lv_iload_n hx hb dJ1_charAt_3b067_7 rfl (lv_at hl 1 rfl) ?_
  refine va_tb hx hb (hz.2.2.1 i hi).2.2.2 hS hin rfl dJ1_charAt_3b067_8 ?_
  refine lv_sipush (v := 255) hx hb dJ1_charAt_3b067_9 (by decide +kernel) ?_
  refine lv_iand hx hb dJ1_charAt_3b067_12 ?_
  refine lv_i2c hx hb dJ1_charAt_3b067_13 (sc_c2 _) ?_
  exact W.zret (ty := .char) hx hb hr (sc_nar _) (fun t ht _ => ⟨rfl, ht⟩) hS.2.2 dJ1_charAt_3b067_14 hlocks
theorem tx_char {i : Nat} (hi : i < N) {x : Int32} (hin : vp_in x (len.getD i 0)) (hlen : len.getD i 0 < 2 ^ 31) : Met l yJ0_charAt_5068e (Cond.code yJ0_charAt_5068e cJ0_charAt_5068e 2 (some .char) :: tg) (tR 3) (va_Pc ([.ref (adK i), .int x]) (pZt N len byt adK adV A)) (tQ (some (.int ((byt.getD i []).getD x.toNatClampNeg 0 &&& 255)))) 0 0 A := by
  refine Met.ofW (cc := cJ0_charAt_5068e) (maxL := 2) (ret := (some .char)) (by decide) rfl ?_
  intro p e s m args below meth c s₁ B hml hv
  obtain ⟨rfl, hz⟩ := hv
  have hts := atoms_spec (ws := Cond.code yJ0_charAt_5068e cJ0_charAt_5068e 2 (some .char) :: tg) B.pre
  have hw : ∀ w ∈ tg, w.before _ s = true := fun w h => hts w (List.mem_cons_of_mem _ h)
  have hx := B.exec
  have hb := B.bytes
  have hr := B.returns
  have hown := findClass_of_methodNamed B.named
  have hlocks := B.notSynchronized
  have hl := lv_entry ([.ref (adK i), .int x]) (n := 2) (Nat.le_of_ble_eq_true rfl)
  rw [lg_entry_eq]
  generalize (lg_sl ([.ref (adK i), .int x]) ++ List.replicate (2 - (lg_sl ([.ref (adK i), .int x])).length) Slot.unset).toArray = ls at hl ⊢
  have hl : lv_has ls 2 [(0, .ref (adK i)), (1, .int x)] := hl
  have hS : va_S A s.heap s.heap [] := va_S.rf
  refine lv_aload_n hx hb dJ0_charAt_5068e_0 rfl (lv_at hl 0 rfl) ?_
  refine t_call (va_runV (As := []) (rest := []) (b := adK i) (C := "java/lang/String") ⟨hx, hb, hml, hown, hw⟩ (tx_lat hi) (cwV 0 hw (tx_good _ (fun w hq => ?_)) rfl rfl rfl (by decide +kernel) ⟨by decide, by decide⟩) ⟨fun a U g mk q => ⟨q.1, pZt.moved (s := U) (U := U.calling g mk a) (Vm.Alike.refl U.vm) (fun _ _ _ => rfl) q.2⟩, vk_recv hz.2.2 hi hS, fun U hU hW => ⟨rfl, pZt.moved hW.alike (fun q h1 h2 => by rw [hU]) hz⟩⟩ rfl rfl hl.1 rfl (lv_room (Nat.le_of_ble_eq_true rfl)) dJ0_charAt_5068e_1 ⟨Nat.le_refl _, Nat.le_refl _⟩) hS (fun locs hS => ?_)
  · unfold wsV at hq
    simp only [List.cons_append, List.nil_append, List.mem_cons] at hq
    rcases hq with rfl | rfl | rfl | rfl | rfl | h5
    · exact hasW_in (i := 542) (by decide +kernel)
    · exact hasW_in (i := 543) (by decide +kernel)
    · exact hasW_in (i := 544) (by decide +kernel)
    · exact hasW_in (i := 93) (by decide +kernel)
    · exact cd_J0_isLatin1_aae02
    · exact h5
  refine lv_if_eq (tgt := 16) hx hb dJ0_charAt_5068e_4 (by decide) (fun h => absurd h (by decide)) (fun _ => ?_)
  refine lv_aload_n hx hb dJ0_charAt_5068e_7 rfl (lv_at hl 0 rfl) ?_
  refine vk_getf hx hb (hz.2.2.1 i hi).2.2.1 hS hown (hw _ (hasW_in (i := 1730) (w := Cond.fieldLink "java/lang/String" 9 "java/lang/String" "value" "[B") (by decide +kernel))) (fun _ h => h) dJ0_charAt_5068e_8 ?_
  refine lv_iload_n hx hb dJ0_charAt_5068e_11 rfl (lv_at hl 1 rfl) ?_
  refine t_call (va_runS (As := [.ref (adV i), .int x]) (rest := []) ⟨hx, hb, hml, hown, hw⟩ (tx_l1 hi hin hlen) (va_cwS 2 hw (tx_good _ (fun w hq => ?_)) rfl rfl rfl (by decide +kernel) ⟨by decide, by decide⟩) ⟨fun a U g mk q => ⟨q.1, pZt.moved (s := U) (U := U.calling g mk a) (Vm.Alike.refl U.vm) (fun _ _ _ => rfl) q.2⟩, fun U hU hW => ⟨rfl, pZt.moved hW.alike (fun q h1 h2 => by rw [hU]) hz⟩⟩ rfl rfl hl.1 rfl (lv_room (Nat.le_of_ble_eq_true rfl)) dJ0_charAt_5068e_12 ⟨Nat.le_refl _, Nat.le_refl _⟩) hS (fun locs hS => ?_)
  · unfold va_wsS at hq
    simp only [List.cons_append, List.nil_append, List.mem_cons] at hq
    rcases hq with rfl | rfl | rfl | rfl | h5
    · exact hasW_in (i := 546) (by decide +kernel)
    · exact hasW_in (i := 547) (by decide +kernel)
    · exact hasW_in (i := 94) (by decide +kernel)
    · exact cd_J1_charAt_3b067
    · exact h5
  exact W.zret (ty := .char) hx hb hr (sc_nar _) (fun t ht _ => ⟨rfl, ht⟩) hS.2.2 dJ0_charAt_5068e_15 hlocks
end TX
