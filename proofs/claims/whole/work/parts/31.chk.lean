def sxN : List (Nat × Nat × Nat) := [(4, 132, 143), (4, 138, 144), (4, 140, 145), (4, 142, 146), (4, 144, 147), (4, 146, 148), (4, 148, 149), (4, 150, 150), (4, 152, 151), (4, 154, 152), (4, 156, 153), (10, 155, 154)]
def syN : List (Nat × Nat × Nat) := [(4, 158, 0), (4, 162, 1), (10, 157, 0), (10, 163, 1)]
/-- the entries that are about texts -/
def pXsS (own : String) (x : pX) : Prop := match x with
  | (ins, a, b, c, _, _, _) => match ins with
    | .ldc i => b ≠ 0 → ∃ oc, own = cn oc ∧ (oc, i, a) ∈ sxN
    | .invokevirtual i => c = 0 → ∃ oc, own = cn oc ∧ (oc, i, b) ∈ syN
    | _ => True
def flN : List (Nat × Nat × Nat × Nat) := flT.map fun q => (q.1, q.2.1, q.2.2.1, q.2.2.2.1)
def mlN : List (Nat × Nat × Nat) := mlT.map fun q => (q.1, q.2.1, q.2.2.1)
def kcN : List (Nat × Nat × Int32) := kcT.map fun q => (q.1, q.2.1, q.2.2.1)
def klN : List (Nat × Nat × Nat) := klT.map fun q => (q.1, q.2.1, q.2.2.1)
def cpN : List (Nat × Nat × Nat) := cpT.map fun q => (q.1, q.2.1, q.2.2.1)
def xchk (oc maxL : Nat) (ret : Option FieldType) (pc : Nat) (x : pX) : Bool := match x with
  | (ins, a, b, c, w, _, z) => match ins with
    | .iconst n => decide (Int32.ofInt n = z)
    | .bipush n => decide ((Int8.ofInt n).toInt32 = z)
    | .sipush n => decide ((Int16.ofInt n).toInt32 = z)
    | .ldc i => if b = 0 then decide ((oc, i, z) ∈ kcN) else decide ((oc, i, a) ∈ sxN)
    | .ldc_w i => decide ((oc, i, z) ∈ kcN)
    | .ldc2_w i => decide ((oc, i, a) ∈ klN)
    | .lconst n => decide ((n : Nat) = a)
    | .iload_n n => decide ((n : Nat) = a)
    | .aload_n n => decide ((n : Nat) = a)
    | .iload n => decide (n = a)
    | .aload n => decide (n = a)
    | .istore_n n => decide ((n : Nat) = a) && decide (a < maxL)
    | .astore_n n => decide ((n : Nat) = a) && decide (a < maxL)
    | .istore n => decide (n = a) && decide (a < maxL)
    | .astore n => decide (n = a) && decide (a < maxL)
    | .iinc n q => decide (n = a) && (decide (Int32.ofInt q = z) && decide (a < maxL))
    | .goto off => decide ((pc : Int) + off = (a : Int))
    | .ifCond _ off => decide ((pc : Int) + off = (a : Int))
    | .if_icmp _ off => decide ((pc : Int) + off = (a : Int))
    | .tableswitch d lo hi offs => decide (hi = lo + offs.toList.length - 1) && (decide (0 ≤ (pc : Int) + d) && offs.toList.all fun q => decide (0 ≤ (pc : Int) + q))
    | .lookupswitch d ps => (ps.toList.zip (ps.toList.drop 1)).all (fun (a, next) => a.1 < next.1) && (decide (0 ≤ (pc : Int) + d) && ps.toList.all fun q => decide (0 ≤ (pc : Int) + q.2))
    | .getfield i => decide ((oc, i, a, b) ∈ flN)
    | .putfield i => decide ((oc, i, a, b) ∈ flN) && (match vwCl[a]? with | some (_, T, _) => (T b).2.2.2 == false | none => false)
    | .invokevirtual i => if c = 0 then decide ((oc, i, b) ∈ syN) else decide ((oc, i, a) ∈ mlN) && (match miT[a]? with | some (st, np, w', _) => !st && decide (b = np + 1) && decide (w = w') | none => false)
    | .invokestatic i => if c = 0 then decide ((oc, i, b) ∈ cpN) else decide ((oc, i, a) ∈ mlN) && (match miT[a]? with | some (st, np, _, _) => st && decide (b = np) | none => false)
    | .ireturn => (a == 0 && decide (ret = some .int)) || (a == 1 && decide (ret = some .boolean)) || (a == 2 && decide (ret = some .char))
    | .areturn => decide (ret = some (.array .int))
    | .return_ => decide (ret = none)
    | _ => true
theorem mi_chunk (s : Nat) (h : ((List.range' s 50).zip (miT.drop s)).all miC = true) {a : Nat} {q : Bool × Nat × Nat × Nat × Nat × Nat} (ha : miT[a]? = some q) (h1 : s ≤ a) (h2 : a < s + 50) : miC (a, q) = true := by
  refine List.all_eq_true.mp h (a, q) (List.mem_of_getElem? (i := a - s) ?_)
  rw [List.getElem?_zip_eq_some]
  refine ⟨?_, ?_⟩
  · rw [List.getElem?_range' (by omega)]
    congr 1
    omega
  · rw [List.getElem?_drop, show s + (a - s) = a by omega]
    exact ha
theorem mi_len : miT.length = 245 := by decide +kernel
theorem mi_all {a : Nat} {q : Bool × Nat × Nat × Nat × Nat × Nat} (ha : miT[a]? = some q) : miC (a, q) = true := by
  have hl : a < miT.length := (List.getElem?_eq_some_iff.mp ha).1
  rw [mi_len] at hl
  rcases (show a < 50 ∨ (50 ≤ a ∧ a < 100) ∨ (100 ≤ a ∧ a < 150) ∨ (150 ≤ a ∧ a < 200) ∨ (200 ≤ a ∧ a < 250) by omega) with h | h | h | h | h
  · exact mi_chunk 0 miOk0 ha (by omega) (by omega)
  · exact mi_chunk 50 miOk1 ha (by omega) (by omega)
  · exact mi_chunk 100 miOk2 ha (by omega) (by omega)
  · exact mi_chunk 150 miOk3 ha (by omega) (by omega)
  · exact mi_chunk 200 miOk4 ha (by omega) (by omega)

def InfA0 : List pInf := [(yX0_clear, cX0_clear, 1, none), (yX0_copyFrom, cX0_copyFrom, 2, none), (yX0_roomFor, cX0_roomFor, 1, (some .int)), (yX0_has, cX0_has, 3, (some .boolean)), (yX0_setting, cX0_setting, 2, (some .int)), (yX0_allPlaces, cX0_allPlaces, 1, (some .int)), (yX0_weigh, cX0_weigh, 4, none), (yX0_sumGroups, cX0_sumGroups, 5, none), (yX0_weightsOf, cX0_weightsOf, 3, (some .int)), (yX0_traitsOfNotionAt, cX0_traitsOfNotionAt, 2, (some .int)), (yX0_lacksOf, cX0_lacksOf, 3, (some .int)), (yX0_addsOf, cX0_addsOf, 3, (some .int)), (yX0_lostByTraits, cX0_lostByTraits, 4, (some .int)), (yX0_wouldClash, cX0_wouldClash, 5, (some .boolean)), (yX0_otherPlace, cX0_otherPlace, 3, (some .int)), (yX0_boundBy, cX0_boundBy, 7, (some .int))]
theorem cdA0 : ∀ q ∈ InfA0, Cond.code q.1 q.2.1 q.2.2.1 q.2.2.2 ∈ tg := List.forall_mem_cons.mpr ⟨cd0, List.forall_mem_cons.mpr ⟨cd1, List.forall_mem_cons.mpr ⟨cd2, List.forall_mem_cons.mpr ⟨cd3, List.forall_mem_cons.mpr ⟨cd4, List.forall_mem_cons.mpr ⟨cd5, List.forall_mem_cons.mpr ⟨cd6, List.forall_mem_cons.mpr ⟨cd7, List.forall_mem_cons.mpr ⟨cd8, List.forall_mem_cons.mpr ⟨cd9, List.forall_mem_cons.mpr ⟨cd10, List.forall_mem_cons.mpr ⟨cd11, List.forall_mem_cons.mpr ⟨cd12, List.forall_mem_cons.mpr ⟨cd13, List.forall_mem_cons.mpr ⟨cd14, List.forall_mem_cons.mpr ⟨cd15, fun _ h => absurd h List.not_mem_nil⟩⟩⟩⟩⟩⟩⟩⟩⟩⟩⟩⟩⟩⟩⟩⟩
def InfA1 : List pInf := [(yX0_wordForAll, cX0_wordForAll, 4, (some .int)), (yX0_toldBack, cX0_toldBack, 7, (some .int)), (yX0_traitsSaidFor, cX0_traitsSaidFor, 6, (some .int)), (yX1_clear, cX1_clear, 1, none), (yX1_indexOf, cX1_indexOf, 3, (some .int)), (yX1_put, cX1_put, 7, (some .int)), (yX1_agreed, cX1_agreed, 7, (some .int)), (yX1_costOf, cX1_costOf, 7, (some .int)), (yX2_clear, cX2_clear, 1, none), (yX2_mayTell, cX2_mayTell, 3, (some .boolean)), (yX2_isFull, cX2_isFull, 1, (some .boolean)), (yX2_isFullOfRights, cX2_isFullOfRights, 1, (some .boolean)), (yX2_append, cX2_append, 6, (some .int)), (yX2_putRight, cX2_putRight, 4, (some .int)), (yX2_gather, cX2_gather, 6, (some .int)), (yX2_fitsAll, cX2_fitsAll, 6, (some .boolean))]
theorem cdA1 : ∀ q ∈ InfA1, Cond.code q.1 q.2.1 q.2.2.1 q.2.2.2 ∈ tg := List.forall_mem_cons.mpr ⟨cd16, List.forall_mem_cons.mpr ⟨cd17, List.forall_mem_cons.mpr ⟨cd18, List.forall_mem_cons.mpr ⟨cd19, List.forall_mem_cons.mpr ⟨cd20, List.forall_mem_cons.mpr ⟨cd21, List.forall_mem_cons.mpr ⟨cd22, List.forall_mem_cons.mpr ⟨cd23, List.forall_mem_cons.mpr ⟨cd24, List.forall_mem_cons.mpr ⟨cd25, List.forall_mem_cons.mpr ⟨cd26, List.forall_mem_cons.mpr ⟨cd27, List.forall_mem_cons.mpr ⟨cd28, List.forall_mem_cons.mpr ⟨cd29, List.forall_mem_cons.mpr ⟨cd30, List.forall_mem_cons.mpr ⟨cd31, fun _ h => absurd h List.not_mem_nil⟩⟩⟩⟩⟩⟩⟩⟩⟩⟩⟩⟩⟩⟩⟩⟩
def InfA2 : List pInf := [(yX2_setsWith, cX2_setsWith, 4, (some .int)), (yX2_setsWithin, cX2_setsWithin, 4, (some .int)), (yX3_append, cX3_append, 3, none), (yX3_find, cX3_find, 5, (some .int)), (yX3_isSame, cX3_isSame, 5, (some .boolean)), (yX4_read, cX4_read, 4, (some .int)), (yX4_begin, cX4_begin, 2, none), (yX4_advance, cX4_advance, 1, none), (yX4_signOf, cX4_signOf, 1, (some .char)), (yX4_refuse, cX4_refuse, 2, (some .boolean)), (yX4_mayBegin, cX4_mayBegin, 2, (some .boolean)), (yX4_readBody, cX4_readBody, 2, (some .boolean)), (yX4_keyword, cX4_keyword, 1, (some .int)), (yX4_isWord, cX4_isWord, 3, (some .boolean)), (yX4_readSemicolon, cX4_readSemicolon, 1, (some .boolean)), (yX4_readTraits, cX4_readTraits, 4, (some .boolean))]
theorem cdA2 : ∀ q ∈ InfA2, Cond.code q.1 q.2.1 q.2.2.1 q.2.2.2 ∈ tg := List.forall_mem_cons.mpr ⟨cd32, List.forall_mem_cons.mpr ⟨cd33, List.forall_mem_cons.mpr ⟨cd34, List.forall_mem_cons.mpr ⟨cd35, List.forall_mem_cons.mpr ⟨cd36, List.forall_mem_cons.mpr ⟨cd37, List.forall_mem_cons.mpr ⟨cd38, List.forall_mem_cons.mpr ⟨cd39, List.forall_mem_cons.mpr ⟨cd40, List.forall_mem_cons.mpr ⟨cd41, List.forall_mem_cons.mpr ⟨cd42, List.forall_mem_cons.mpr ⟨cd43, List.forall_mem_cons.mpr ⟨cd44, List.forall_mem_cons.mpr ⟨cd45, List.forall_mem_cons.mpr ⟨cd46, List.forall_mem_cons.mpr ⟨cd47, fun _ h => absurd h List.not_mem_nil⟩⟩⟩⟩⟩⟩⟩⟩⟩⟩⟩⟩⟩⟩⟩⟩
def InfA3 : List pInf := [(yX4_readPlace, cX4_readPlace, 3, (some .boolean)), (yX4_readTie, cX4_readTie, 5, (some .boolean)), (yX4_readHearer, cX4_readHearer, 3, (some .boolean)), (yX4_readWeight, cX4_readWeight, 1, (some .boolean)), (yX4_readSetting, cX4_readSetting, 2, (some .boolean)), (yX4_readNewName, cX4_readNewName, 2, (some .boolean)), (yX4_readSet, cX4_readSet, 3, (some .boolean)), (yX4_readNumber, cX4_readNumber, 4, (some .boolean)), (yX5_clear, cX5_clear, 1, none), (yX5_copyFrom, cX5_copyFrom, 2, none), (yX5_put, cX5_put, 6, none), (yX5_isChosen, cX5_isChosen, 2, (some .boolean)), (yX5_isBorrowed, cX5_isBorrowed, 2, (some .boolean)), (yX5_chosen, cX5_chosen, 3, (some .int)), (yX5_noted, cX5_noted, 3, (some .int)), (yX5_traitsAt, cX5_traitsAt, 3, (some .int))]
theorem cdA3 : ∀ q ∈ InfA3, Cond.code q.1 q.2.1 q.2.2.1 q.2.2.2 ∈ tg := List.forall_mem_cons.mpr ⟨cd48, List.forall_mem_cons.mpr ⟨cd49, List.forall_mem_cons.mpr ⟨cd50, List.forall_mem_cons.mpr ⟨cd51, List.forall_mem_cons.mpr ⟨cd52, List.forall_mem_cons.mpr ⟨cd53, List.forall_mem_cons.mpr ⟨cd54, List.forall_mem_cons.mpr ⟨cd55, List.forall_mem_cons.mpr ⟨cd56, List.forall_mem_cons.mpr ⟨cd57, List.forall_mem_cons.mpr ⟨cd58, List.forall_mem_cons.mpr ⟨cd59, List.forall_mem_cons.mpr ⟨cd60, List.forall_mem_cons.mpr ⟨cd61, List.forall_mem_cons.mpr ⟨cd62, List.forall_mem_cons.mpr ⟨cd63, fun _ h => absurd h List.not_mem_nil⟩⟩⟩⟩⟩⟩⟩⟩⟩⟩⟩⟩⟩⟩⟩⟩
def InfA4 : List pInf := [(yX5_traitsOf, cX5_traitsOf, 2, (some .int)), (yX5_lostAt, cX5_lostAt, 4, (some .int)), (yX5_lostOfAll, cX5_lostOfAll, 4, (some .int)), (yX5_clashBits, cX5_clashBits, 4, (some .int)), (yX5_isClashing, cX5_isClashing, 6, (some .boolean)), (yX5_clashesAt, cX5_clashesAt, 6, (some .int)), (yX5_isBorrowedOption, cX5_isBorrowedOption, 2, (some .boolean)), (yX5_traitsOfOption, cX5_traitsOfOption, 2, (some .int)), (yX5_lostWithOption, cX5_lostWithOption, 3, (some .int)), (yX5_putOption, cX5_putOption, 3, none), (yX5_exchangeRound, cX5_exchangeRound, 3, (some .boolean)), (yX5_exchangeAt, cX5_exchangeAt, 6, (some .boolean)), (yX5_lostWithWord, cX5_lostWithWord, 5, (some .int)), (yX5_lostWithLeast, cX5_lostWithLeast, 6, (some .int)), (yX5_oneWord, cX5_oneWord, 6, (some .int)), (yX5_mendOnce, cX5_mendOnce, 7, (some .boolean))]
theorem cdA4 : ∀ q ∈ InfA4, Cond.code q.1 q.2.1 q.2.2.1 q.2.2.2 ∈ tg := List.forall_mem_cons.mpr ⟨cd64, List.forall_mem_cons.mpr ⟨cd65, List.forall_mem_cons.mpr ⟨cd66, List.forall_mem_cons.mpr ⟨cd67, List.forall_mem_cons.mpr ⟨cd68, List.forall_mem_cons.mpr ⟨cd69, List.forall_mem_cons.mpr ⟨cd70, List.forall_mem_cons.mpr ⟨cd71, List.forall_mem_cons.mpr ⟨cd72, List.forall_mem_cons.mpr ⟨cd73, List.forall_mem_cons.mpr ⟨cd74, List.forall_mem_cons.mpr ⟨cd75, List.forall_mem_cons.mpr ⟨cd76, List.forall_mem_cons.mpr ⟨cd77, List.forall_mem_cons.mpr ⟨cd78, List.forall_mem_cons.mpr ⟨cd79, fun _ h => absurd h List.not_mem_nil⟩⟩⟩⟩⟩⟩⟩⟩⟩⟩⟩⟩⟩⟩⟩⟩
def InfA5 : List pInf := [(yX5_untoldLacks, cX5_untoldLacks, 2, (some .int)), (yX5_heardAt, cX5_heardAt, 3, (some .int)), (yX5_rightOf, cX5_rightOf, 4, (some .int)), (yX6_putBest, cX6_putBest, 4, (some .boolean)), (yX6_begin, cX6_begin, 5, none), (yX6_levelOf, cX6_levelOf, 3, (some .int)), (yX6_obeyTie, cX6_obeyTie, 5, none), (yX6_obeyInside, cX6_obeyInside, 10, none), (yX6_obeyOutside, cX6_obeyOutside, 5, none), (yX6_settle, cX6_settle, 5, none), (yX6_narrow, cX6_narrow, 6, (some .int)), (yX6_leastOf, cX6_leastOf, 5, (some .int)), (yX7_hasRoom, cX7_hasRoom, 1, (some .boolean)), (yX7_append, cX7_append, 3, none), (yX8_clear, cX8_clear, 1, none), (yX8_isFull, cX8_isFull, 1, (some .boolean))]
theorem cdA5 : ∀ q ∈ InfA5, Cond.code q.1 q.2.1 q.2.2.1 q.2.2.2 ∈ tg := List.forall_mem_cons.mpr ⟨cd80, List.forall_mem_cons.mpr ⟨cd81, List.forall_mem_cons.mpr ⟨cd82, List.forall_mem_cons.mpr ⟨cd83, List.forall_mem_cons.mpr ⟨cd84, List.forall_mem_cons.mpr ⟨cd85, List.forall_mem_cons.mpr ⟨cd86, List.forall_mem_cons.mpr ⟨cd87, List.forall_mem_cons.mpr ⟨cd88, List.forall_mem_cons.mpr ⟨cd89, List.forall_mem_cons.mpr ⟨cd90, List.forall_mem_cons.mpr ⟨cd91, List.forall_mem_cons.mpr ⟨cd92, List.forall_mem_cons.mpr ⟨cd93, List.forall_mem_cons.mpr ⟨cd94, List.forall_mem_cons.mpr ⟨cd95, fun _ h => absurd h List.not_mem_nil⟩⟩⟩⟩⟩⟩⟩⟩⟩⟩⟩⟩⟩⟩⟩⟩
def InfA6 : List pInf := [(yX8_latestOf, cX8_latestOf, 4, (some .int)), (yX8_append, cX8_append, 4, (some .int)), (yX8_wordsIn, cX8_wordsIn, 3, (some (.array .int))), (yX8_turns, cX8_turns, 7, (some .int)), (yX8_firstAbove, cX8_firstAbove, 6, (some .int)), (yX9_feed, cX9_feed, 6, (some .int)), (yX9_end, cX9_end, 2, (some .int)), (yX9_book, cX9_book, 3, (some .int)), (yX9_fault, cX9_fault, 2, (some .int)), (yX9_told, cX9_told, 2, (some .int)), (yX9_traits, cX9_traits, 3, (some .int)), (yX9_notion, cX9_notion, 2, (some .int)), (yX9_choose, cX9_choose, 6, (some .int)), (yX9_wordsAreFit, cX9_wordsAreFit, 5, (some .boolean)), (yX9_leave, cX9_leave, 2, (some .int)), (yX9_choice, cX9_choice, 3, (some .int))]
theorem cdA6 : ∀ q ∈ InfA6, Cond.code q.1 q.2.1 q.2.2.1 q.2.2.2 ∈ tg := List.forall_mem_cons.mpr ⟨cd96, List.forall_mem_cons.mpr ⟨cd97, List.forall_mem_cons.mpr ⟨cd98, List.forall_mem_cons.mpr ⟨cd99, List.forall_mem_cons.mpr ⟨cd100, List.forall_mem_cons.mpr ⟨cd101, List.forall_mem_cons.mpr ⟨cd102, List.forall_mem_cons.mpr ⟨cd103, List.forall_mem_cons.mpr ⟨cd104, List.forall_mem_cons.mpr ⟨cd105, List.forall_mem_cons.mpr ⟨cd106, List.forall_mem_cons.mpr ⟨cd107, List.forall_mem_cons.mpr ⟨cd108, List.forall_mem_cons.mpr ⟨cd109, List.forall_mem_cons.mpr ⟨cd110, List.forall_mem_cons.mpr ⟨cd111, fun _ h => absurd h List.not_mem_nil⟩⟩⟩⟩⟩⟩⟩⟩⟩⟩⟩⟩⟩⟩⟩⟩
def InfA7 : List pInf := [(yX9_bears, cX9_bears, 4, (some .int)), (yX9_note, cX9_note, 4, (some .int)), (yX9_lost, cX9_lost, 1, (some .int)), (yX9_clashes, cX9_clashes, 1, (some .int)), (yX9_bound, cX9_bound, 2, (some .int)), (yX9_best, cX9_best, 3, (some .int)), (yX9_exchange, cX9_exchange, 3, (some .int)), (yX9_one, cX9_one, 2, (some .int)), (yX9_price, cX9_price, 3, (some .int)), (yX9_swap, cX9_swap, 2, (some .int)), (yX9_mend, cX9_mend, 4, (some .int)), (yX9_whyNotHeard, cX9_whyNotHeard, 3, (some .int)), (yX9_hears, cX9_hears, 4, (some .int)), (yX9_back, cX9_back, 4, (some .int)), (yX9_laughs, cX9_laughs, 5, (some .int)), (yX9_hits, cX9_hits, 2, (some .int))]
theorem cdA7 : ∀ q ∈ InfA7, Cond.code q.1 q.2.1 q.2.2.1 q.2.2.2 ∈ tg := List.forall_mem_cons.mpr ⟨cd112, List.forall_mem_cons.mpr ⟨cd113, List.forall_mem_cons.mpr ⟨cd114, List.forall_mem_cons.mpr ⟨cd115, List.forall_mem_cons.mpr ⟨cd116, List.forall_mem_cons.mpr ⟨cd117, List.forall_mem_cons.mpr ⟨cd118, List.forall_mem_cons.mpr ⟨cd119, List.forall_mem_cons.mpr ⟨cd120, List.forall_mem_cons.mpr ⟨cd121, List.forall_mem_cons.mpr ⟨cd122, List.forall_mem_cons.mpr ⟨cd123, List.forall_mem_cons.mpr ⟨cd124, List.forall_mem_cons.mpr ⟨cd125, List.forall_mem_cons.mpr ⟨cd126, List.forall_mem_cons.mpr ⟨cd127, fun _ h => absurd h List.not_mem_nil⟩⟩⟩⟩⟩⟩⟩⟩⟩⟩⟩⟩⟩⟩⟩⟩
def InfA8 : List pInf := [(yX9_on, cX9_on, 6, (some .int)), (yX9_keep, cX9_keep, 2, (some .int)), (yX9_take, cX9_take, 2, (some .int)), (yX9_nearer, cX9_nearer, 5, (some .int)), (yX9_gives, cX9_gives, 5, (some .int)), (yX9_agree, cX9_agree, 2, (some .int)), (yX9_moves, cX9_moves, 4, (some .int)), (yX9_lostIn, cX9_lostIn, 2, (some .int)), (yX9_turned, cX9_turned, 2, (some .int)), (yX9_until, cX9_until, 2, (some .int)), (yX9_isYear, cX9_isYear, 1, (some .boolean)), (yX9_heard, cX9_heard, 5, (some .int)), (yX9_right, cX9_right, 4, (some .int)), (yX9_fit, cX9_fit, 3, (some .int)), (yX9_surely, cX9_surely, 6, (some .int)), (yX9_next, cX9_next, 8, (some .int))]
theorem cdA8 : ∀ q ∈ InfA8, Cond.code q.1 q.2.1 q.2.2.1 q.2.2.2 ∈ tg := List.forall_mem_cons.mpr ⟨cd128, List.forall_mem_cons.mpr ⟨cd129, List.forall_mem_cons.mpr ⟨cd130, List.forall_mem_cons.mpr ⟨cd131, List.forall_mem_cons.mpr ⟨cd132, List.forall_mem_cons.mpr ⟨cd133, List.forall_mem_cons.mpr ⟨cd134, List.forall_mem_cons.mpr ⟨cd135, List.forall_mem_cons.mpr ⟨cd136, List.forall_mem_cons.mpr ⟨cd137, List.forall_mem_cons.mpr ⟨cd138, List.forall_mem_cons.mpr ⟨cd139, List.forall_mem_cons.mpr ⟨cd140, List.forall_mem_cons.mpr ⟨cd141, List.forall_mem_cons.mpr ⟨cd142, List.forall_mem_cons.mpr ⟨cd143, fun _ h => absurd h List.not_mem_nil⟩⟩⟩⟩⟩⟩⟩⟩⟩⟩⟩⟩⟩⟩⟩⟩
def InfA9 : List pInf := [(yX9_isStep, cX9_isStep, 1, (some .boolean)), (yX9_count, cX9_count, 2, (some .int)), (yX10_in, cX10_in, 3, (some .boolean)), (yX10_feed, cX10_feed, 9, (some .int)), (yX10_end, cX10_end, 2, (some .int)), (yX10_see, cX10_see, 2, (some .int)), (yX10_isSmall, cX10_isSmall, 1, (some .boolean)), (yX10_isDigit, cX10_isDigit, 1, (some .boolean)), (yX10_keyAt, cX10_keyAt, 8, (some .int)), (yX10_scan, cX10_scan, 4, none), (yX10_fails, cX10_fails, 2, (some .boolean)), (yX10_readNumber, cX10_readNumber, 3, (some .boolean)), (yX10_setHere, cX10_setHere, 3, (some .int)), (yX10_readSet, cX10_readSet, 2, (some .boolean)), (yX10_fault, cX10_fault, 2, (some .int)), (yX10_begin, cX10_begin, 2, none)]
theorem cdA9 : ∀ q ∈ InfA9, Cond.code q.1 q.2.1 q.2.2.1 q.2.2.2 ∈ tg := List.forall_mem_cons.mpr ⟨cd144, List.forall_mem_cons.mpr ⟨cd145, List.forall_mem_cons.mpr ⟨cd146, List.forall_mem_cons.mpr ⟨cd147, List.forall_mem_cons.mpr ⟨cd148, List.forall_mem_cons.mpr ⟨cd149, List.forall_mem_cons.mpr ⟨cd150, List.forall_mem_cons.mpr ⟨cd151, List.forall_mem_cons.mpr ⟨cd152, List.forall_mem_cons.mpr ⟨cd153, List.forall_mem_cons.mpr ⟨cd154, List.forall_mem_cons.mpr ⟨cd155, List.forall_mem_cons.mpr ⟨cd156, List.forall_mem_cons.mpr ⟨cd157, List.forall_mem_cons.mpr ⟨cd158, List.forall_mem_cons.mpr ⟨cd159, fun _ h => absurd h List.not_mem_nil⟩⟩⟩⟩⟩⟩⟩⟩⟩⟩⟩⟩⟩⟩⟩⟩
def InfA10 : List pInf := [(yX10_comes, cX10_comes, 3, none), (yX10_settle, cX10_settle, 2, none), (yX10_named, cX10_named, 4, (some .int)), (yX10_readName, cX10_readName, 5, (some .boolean)), (yX10_readPlace, cX10_readPlace, 4, (some .boolean)), (yX10_readTie, cX10_readTie, 3, (some .boolean)), (yX10_readHearer, cX10_readHearer, 2, (some .boolean)), (yX10_readWeight, cX10_readWeight, 3, (some .boolean)), (yX10_readTold, cX10_readTold, 3, (some .boolean)), (yX10_readClause, cX10_readClause, 3, (some .boolean)), (yX10_book, cX10_book, 2, (some .int)), (yX10_told, cX10_told, 2, (some .int)), (yX10_isNotion, cX10_isNotion, 2, (some .boolean)), (yX10_isWord, cX10_isWord, 2, (some .boolean)), (yX10_isPlace, cX10_isPlace, 2, (some .boolean)), (yX10_isTie, cX10_isTie, 2, (some .boolean))]
theorem cdA10 : ∀ q ∈ InfA10, Cond.code q.1 q.2.1 q.2.2.1 q.2.2.2 ∈ tg := List.forall_mem_cons.mpr ⟨cd160, List.forall_mem_cons.mpr ⟨cd161, List.forall_mem_cons.mpr ⟨cd162, List.forall_mem_cons.mpr ⟨cd163, List.forall_mem_cons.mpr ⟨cd164, List.forall_mem_cons.mpr ⟨cd165, List.forall_mem_cons.mpr ⟨cd166, List.forall_mem_cons.mpr ⟨cd167, List.forall_mem_cons.mpr ⟨cd168, List.forall_mem_cons.mpr ⟨cd169, List.forall_mem_cons.mpr ⟨cd170, List.forall_mem_cons.mpr ⟨cd171, List.forall_mem_cons.mpr ⟨cd172, List.forall_mem_cons.mpr ⟨cd173, List.forall_mem_cons.mpr ⟨cd174, List.forall_mem_cons.mpr ⟨cd175, fun _ h => absurd h List.not_mem_nil⟩⟩⟩⟩⟩⟩⟩⟩⟩⟩⟩⟩⟩⟩⟩⟩
def InfA11 : List pInf := [(yX10_isHearer, cX10_isHearer, 2, (some .boolean)), (yX10_traits, cX10_traits, 3, (some .int)), (yX10_notion, cX10_notion, 2, (some .int)), (yX10_weigh, cX10_weigh, 4, (some .int)), (yX10_traitsOf, cX10_traitsOf, 5, (some .int)), (yX10_had, cX10_had, 4, (some .int)), (yX10_lackAt, cX10_lackAt, 3, (some .int)), (yX10_addAt, cX10_addAt, 3, (some .int)), (yX10_lostAt, cX10_lostAt, 4, (some .int)), (yX10_lostAll, cX10_lostAll, 4, (some .int)), (yX10_put, cX10_put, 6, none), (yX10_choose, cX10_choose, 6, (some .int)), (yX10_leave, cX10_leave, 3, (some .int)), (yX10_choice, cX10_choice, 3, (some .int)), (yX10_bears, cX10_bears, 3, (some .int)), (yX10_bits, cX10_bits, 3, (some .int))]
theorem cdA11 : ∀ q ∈ InfA11, Cond.code q.1 q.2.1 q.2.2.1 q.2.2.2 ∈ tg := List.forall_mem_cons.mpr ⟨cd176, List.forall_mem_cons.mpr ⟨cd177, List.forall_mem_cons.mpr ⟨cd178, List.forall_mem_cons.mpr ⟨cd179, List.forall_mem_cons.mpr ⟨cd180, List.forall_mem_cons.mpr ⟨cd181, List.forall_mem_cons.mpr ⟨cd182, List.forall_mem_cons.mpr ⟨cd183, List.forall_mem_cons.mpr ⟨cd184, List.forall_mem_cons.mpr ⟨cd185, List.forall_mem_cons.mpr ⟨cd186, List.forall_mem_cons.mpr ⟨cd187, List.forall_mem_cons.mpr ⟨cd188, List.forall_mem_cons.mpr ⟨cd189, List.forall_mem_cons.mpr ⟨cd190, List.forall_mem_cons.mpr ⟨cd191, fun _ h => absurd h List.not_mem_nil⟩⟩⟩⟩⟩⟩⟩⟩⟩⟩⟩⟩⟩⟩⟩⟩
def InfA12 : List pInf := [(yX10_notedAll, cX10_notedAll, 3, (some .int)), (yX10_note, cX10_note, 4, (some .int)), (yX10_lost, cX10_lost, 1, (some .int)), (yX10_isClash, cX10_isClash, 4, (some .boolean)), (yX10_clashes, cX10_clashes, 3, (some .int)), (yX10_bound, cX10_bound, 5, (some .int)), (yX10_putBy, cX10_putBy, 3, none), (yX10_isFree, cX10_isFree, 3, (some .boolean)), (yX10_best, cX10_best, 8, (some .int)), (yX10_layRow, cX10_layRow, 6, (some .int)), (yX10_costs, cX10_costs, 1, (some .int)), (yX10_exchange, cX10_exchange, 12, (some .int)), (yX10_plainAt, cX10_plainAt, 3, (some .int)), (yX10_plainSum, cX10_plainSum, 5, (some .int)), (yX10_oneOf, cX10_oneOf, 4, (some .int)), (yX10_one, cX10_one, 2, (some .int))]
theorem cdA12 : ∀ q ∈ InfA12, Cond.code q.1 q.2.1 q.2.2.1 q.2.2.2 ∈ tg := List.forall_mem_cons.mpr ⟨cd192, List.forall_mem_cons.mpr ⟨cd193, List.forall_mem_cons.mpr ⟨cd194, List.forall_mem_cons.mpr ⟨cd195, List.forall_mem_cons.mpr ⟨cd196, List.forall_mem_cons.mpr ⟨cd197, List.forall_mem_cons.mpr ⟨cd198, List.forall_mem_cons.mpr ⟨cd199, List.forall_mem_cons.mpr ⟨cd200, List.forall_mem_cons.mpr ⟨cd201, List.forall_mem_cons.mpr ⟨cd202, List.forall_mem_cons.mpr ⟨cd203, List.forall_mem_cons.mpr ⟨cd204, List.forall_mem_cons.mpr ⟨cd205, List.forall_mem_cons.mpr ⟨cd206, List.forall_mem_cons.mpr ⟨cd207, fun _ h => absurd h List.not_mem_nil⟩⟩⟩⟩⟩⟩⟩⟩⟩⟩⟩⟩⟩⟩⟩⟩
def InfA13 : List pInf := [(yX10_price, cX10_price, 7, (some .int)), (yX10_swap, cX10_swap, 4, (some .int)), (yX10_mend, cX10_mend, 8, (some .int)), (yX10_heardBy, cX10_heardBy, 3, (some .int)), (yX10_backOf, cX10_backOf, 6, (some .int)), (yX10_isLaugh, cX10_isLaugh, 3, (some .boolean)), (yX10_isAsked, cX10_isAsked, 3, (some .boolean)), (yX10_hears, cX10_hears, 3, (some .int)), (yX10_back, cX10_back, 3, (some .int)), (yX10_laughs, cX10_laughs, 3, (some .int)), (yX10_hitsOf, cX10_hitsOf, 4, (some .int)), (yX10_hits, cX10_hits, 2, (some .int)), (yX10_on, cX10_on, 9, (some .int)), (yX10_store, cX10_store, 4, none), (yX10_load, cX10_load, 4, none), (yX10_isSlot, cX10_isSlot, 1, (some .boolean))]
theorem cdA13 : ∀ q ∈ InfA13, Cond.code q.1 q.2.1 q.2.2.1 q.2.2.2 ∈ tg := List.forall_mem_cons.mpr ⟨cd208, List.forall_mem_cons.mpr ⟨cd209, List.forall_mem_cons.mpr ⟨cd210, List.forall_mem_cons.mpr ⟨cd211, List.forall_mem_cons.mpr ⟨cd212, List.forall_mem_cons.mpr ⟨cd213, List.forall_mem_cons.mpr ⟨cd214, List.forall_mem_cons.mpr ⟨cd215, List.forall_mem_cons.mpr ⟨cd216, List.forall_mem_cons.mpr ⟨cd217, List.forall_mem_cons.mpr ⟨cd218, List.forall_mem_cons.mpr ⟨cd219, List.forall_mem_cons.mpr ⟨cd220, List.forall_mem_cons.mpr ⟨cd221, List.forall_mem_cons.mpr ⟨cd222, List.forall_mem_cons.mpr ⟨cd223, fun _ h => absurd h List.not_mem_nil⟩⟩⟩⟩⟩⟩⟩⟩⟩⟩⟩⟩⟩⟩⟩⟩
def InfA14 : List pInf := [(yX10_keep, cX10_keep, 2, (some .int)), (yX10_take, cX10_take, 2, (some .int)), (yX10_nearer, cX10_nearer, 8, (some .int)), (yX10_cellOf, cX10_cellOf, 3, (some .int)), (yX10_gives, cX10_gives, 6, (some .int)), (yX10_agree, cX10_agree, 9, (some .int)), (yX10_moves, cX10_moves, 5, (some .int)), (yX10_lostIn, cX10_lostIn, 2, (some .int)), (yX10_turned, cX10_turned, 4, (some .int)), (yX10_until, cX10_until, 4, (some .int)), (yX10_heard, cX10_heard, 5, (some .int)), (yX10_right, cX10_right, 6, (some .int)), (yX10_setOf, cX10_setOf, 3, (some .int)), (yX10_makeFits, cX10_makeFits, 9, (some .int)), (yX10_fit, cX10_fit, 3, (some .int)), (yX10_surely, cX10_surely, 7, (some .int))]
theorem cdA14 : ∀ q ∈ InfA14, Cond.code q.1 q.2.1 q.2.2.1 q.2.2.2 ∈ tg := List.forall_mem_cons.mpr ⟨cd224, List.forall_mem_cons.mpr ⟨cd225, List.forall_mem_cons.mpr ⟨cd226, List.forall_mem_cons.mpr ⟨cd227, List.forall_mem_cons.mpr ⟨cd228, List.forall_mem_cons.mpr ⟨cd229, List.forall_mem_cons.mpr ⟨cd230, List.forall_mem_cons.mpr ⟨cd231, List.forall_mem_cons.mpr ⟨cd232, List.forall_mem_cons.mpr ⟨cd233, List.forall_mem_cons.mpr ⟨cd234, List.forall_mem_cons.mpr ⟨cd235, List.forall_mem_cons.mpr ⟨cd236, List.forall_mem_cons.mpr ⟨cd237, List.forall_mem_cons.mpr ⟨cd238, List.forall_mem_cons.mpr ⟨cd239, fun _ h => absurd h List.not_mem_nil⟩⟩⟩⟩⟩⟩⟩⟩⟩⟩⟩⟩⟩⟩⟩⟩
def InfA15 : List pInf := [(yX10_next, cX10_next, 8, (some .int)), (yX10_count, cX10_count, 4, (some .int)), (yJ6_bitCount_0f7a4, cJ6_bitCount_0f7a4, 1, (some .int)), (yJ7_fill_53178, cJ7_fill_53178, 4, none), (yJ7_fill_031fb, cJ7_fill_031fb, 4, none)]
theorem cdA15 : ∀ q ∈ InfA15, Cond.code q.1 q.2.1 q.2.2.1 q.2.2.2 ∈ tg := List.forall_mem_cons.mpr ⟨cd240, List.forall_mem_cons.mpr ⟨cd241, List.forall_mem_cons.mpr ⟨cd242, List.forall_mem_cons.mpr ⟨cd243, List.forall_mem_cons.mpr ⟨cd244, fun _ h => absurd h List.not_mem_nil⟩⟩⟩⟩⟩
set_option maxRecDepth 100000 in
theorem Inf_eq : Inf = (InfA0 ++ (InfA1 ++ (InfA2 ++ (InfA3 ++ (InfA4 ++ (InfA5 ++ (InfA6 ++ (InfA7 ++ (InfA8 ++ (InfA9 ++ (InfA10 ++ (InfA11 ++ (InfA12 ++ (InfA13 ++ (InfA14 ++ InfA15))))))))))))))) := rfl
theorem cd_all : ∀ q ∈ Inf, Cond.code q.1 q.2.1 q.2.2.1 q.2.2.2 ∈ tg := by
  rw [Inf_eq]
  exact (fun q h => (List.mem_append.mp h).elim (cdA0 q) ((fun q h => (List.mem_append.mp h).elim (cdA1 q) ((fun q h => (List.mem_append.mp h).elim (cdA2 q) ((fun q h => (List.mem_append.mp h).elim (cdA3 q) ((fun q h => (List.mem_append.mp h).elim (cdA4 q) ((fun q h => (List.mem_append.mp h).elim (cdA5 q) ((fun q h => (List.mem_append.mp h).elim (cdA6 q) ((fun q h => (List.mem_append.mp h).elim (cdA7 q) ((fun q h => (List.mem_append.mp h).elim (cdA8 q) ((fun q h => (List.mem_append.mp h).elim (cdA9 q) ((fun q h => (List.mem_append.mp h).elim (cdA10 q) ((fun q h => (List.mem_append.mp h).elim (cdA11 q) ((fun q h => (List.mem_append.mp h).elim (cdA12 q) ((fun q h => (List.mem_append.mp h).elim (cdA13 q) ((fun q h => (List.mem_append.mp h).elim (cdA14 q) (cdA15 q)) q)) q)) q)) q)) q)) q)) q)) q)) q)) q)) q)) q)) q)) q))
theorem ml_in {oc i a : Nat} (h : (oc, i, a) ∈ mlN) {y : MethodName} {r : ByteArray × Nat × Option FieldType} (hI : Inf[a]? = some (y, r)) : Cond.methodLink (cn oc) i y ∈ tg := by
  obtain ⟨q, h1, h2⟩ := List.mem_map.mp h
  have h3 := List.all_eq_true.mp mlOk q h1
  obtain ⟨q1, q2, q3, q4⟩ := q
  simp only [Prod.mk.injEq] at h2
  obtain ⟨rfl, rfl, rfl⟩ := h2
  unfold mlC at h3
  dsimp only at h3
  rw [hI] at h3
  exact hasW_in h3
theorem fl_in {oc i a b : Nat} (h : (oc, i, a, b) ∈ flN) : ∃ (C : String) (T : u_T) (N : Nat), vwCl[a]? = some (C, T, N) ∧ b < N ∧ Cond.fieldLink (cn oc) i (T b).1 (T b).2.1 (T b).2.2.1 ∈ tg := by
  obtain ⟨q, h1, h2⟩ := List.mem_map.mp h
  have h3 := List.all_eq_true.mp flOk q h1
  obtain ⟨q1, q2, q3, q4, q5⟩ := q
  simp only [Prod.mk.injEq] at h2
  obtain ⟨rfl, rfl, rfl, rfl⟩ := h2
  unfold flC at h3
  dsimp only at h3
  split at h3
  · next C T N hv =>
    rw [Bool.and_eq_true] at h3
    exact ⟨C, T, N, hv, of_decide_eq_true h3.1, hasW_in h3.2⟩
  · cases h3
theorem kc_in {oc i : Nat} {z : Int32} (h : (oc, i, z) ∈ kcN) : Cond.constant (cn oc) i z ∈ tg := by
  obtain ⟨q, h1, h2⟩ := List.mem_map.mp h
  have h3 := List.all_eq_true.mp kcOk q h1
  obtain ⟨q1, q2, q3, q4⟩ := q
  simp only [Prod.mk.injEq] at h2
  obtain ⟨rfl, rfl, rfl⟩ := h2
  exact hasW_in h3
theorem kl_in {oc i a : Nat} (h : (oc, i, a) ∈ klN) : Cond.constantLong (cn oc) i (lN a) ∈ tg := by
  obtain ⟨q, h1, h2⟩ := List.mem_map.mp h
  have h3 := List.all_eq_true.mp klOk q h1
  obtain ⟨q1, q2, q3, q4⟩ := q
  simp only [Prod.mk.injEq] at h2
  obtain ⟨rfl, rfl, rfl⟩ := h2
  exact hasW_in h3
theorem cp_in {oc i b : Nat} (h : (oc, i, b) ∈ cpN) : Cond.methodLink (cn oc) i (pPn b) ∈ tg := by
  obtain ⟨q, h1, h2⟩ := List.mem_map.mp h
  have h3 := List.all_eq_true.mp cpOk q h1
  obtain ⟨q1, q2, q3, q4⟩ := q
  simp only [Prod.mk.injEq] at h2
  obtain ⟨rfl, rfl, rfl⟩ := h2
  exact hasW_in h3
theorem mi_inf {a : Nat} {q : Bool × Nat × Nat × Nat × Nat × Nat} (ha : miT[a]? = some q) : ∃ (y : MethodName) (bytes : ByteArray) (maxL : Nat) (ret : Option FieldType), Inf[a]? = some (y, bytes, maxL, ret) ∧ (y.cls ≠ "java/lang/invoke/MethodHandle" ∧ y.cls ≠ "java/lang/invoke/VarHandle") ∧ (parseMethodDescriptor y.desc).map (fun d => d.parameters.length) = some q.2.1 ∧ Cond.initialized y.cls ∈ tg ∧ plainName y.cls = true ∧ maxL ≤ 40 ∧ Cond.code y bytes maxL ret ∈ tg ∧
    (q.1 = true → Cond.static y ∈ tg ∧ q.2.1 ≤ maxL) ∧ (q.1 = false → Cond.instanceMethod y ∈ tg ∧ Cond.selects y.cls y y ∈ tg ∧ q.2.1 + 1 ≤ maxL ∧ q.2.2.1 ≠ 0 ∧ ∃ c, vwCl[q.2.2.1 - 1]? = some c ∧ c.1 = y.cls) := by
  have h := mi_all ha
  unfold miC at h
  dsimp only at h
  split at h
  · next y bytes maxL ret hI =>
    simp only [Bool.and_eq_true, decide_eq_true_eq] at h
    obtain ⟨⟨⟨⟨⟨⟨h1, h2⟩, h3⟩, h4⟩, h5⟩, h6⟩, h7⟩ := h
    refine ⟨y, bytes, maxL, ret, hI, ⟨h1, h2⟩, h3, hasW_in h4, h5, h6, cd_all _ (List.mem_of_getElem? hI), fun hs => ?_, fun hs => ?_⟩
    · rw [hs] at h7
      simp only [if_true, Bool.and_eq_true, decide_eq_true_eq] at h7
      exact ⟨hasW_in h7.1, h7.2⟩
    · rw [hs] at h7
      simp only [Bool.false_eq_true, if_false, Bool.and_eq_true, decide_eq_true_eq] at h7
      obtain ⟨⟨⟨⟨g1, g2⟩, g3⟩, g4⟩, g5⟩ := h7
      refine ⟨hasW_in g1, hasW_in g2, g3, g4, ?_⟩
      split at g5
      · next c hc => exact ⟨c, hc, of_decide_eq_true g5⟩
      · cases g5
  · cases h
set_option maxHeartbeats 4000000 in
theorem xchk_ok {oc maxL : Nat} {ret : Option FieldType} {pc : Nat} {x : pX} (h : xchk oc maxL ret pc x = true) : pXex (cn oc) tg maxL pc x ∧ pXcall Inf tg (cn oc) x ∧ pXret ret x ∧ pXsS (cn oc) x := by
  obtain ⟨ins, a, b, c, w, g, z⟩ := x
  cases ins with
  | ldc i =>
    unfold xchk at h
    dsimp only at h
    split at h
    · next hb => exact ⟨fun _ => kc_in (of_decide_eq_true h), trivial, trivial, fun q => absurd hb q⟩
    · next hb => exact ⟨fun q => absurd q hb, trivial, trivial, fun _ => ⟨oc, rfl, of_decide_eq_true h⟩⟩
  | ldc_w i => exact ⟨kc_in (of_decide_eq_true h), trivial, trivial, trivial⟩
  | ldc2_w i => exact ⟨kl_in (of_decide_eq_true h), trivial, trivial, trivial⟩
  | getfield i => exact ⟨fl_in (of_decide_eq_true h), trivial, trivial, trivial⟩
  | putfield i =>
    unfold xchk at h
    dsimp only at h
    rw [Bool.and_eq_true] at h
    obtain ⟨C, T, N, h1, h2, h3⟩ := fl_in (of_decide_eq_true h.1)
    have h4 := h.2
    rw [h1] at h4
    exact ⟨⟨C, T, N, h1, h2, h3, by simpa using h4⟩, trivial, trivial, trivial⟩
  | invokevirtual i =>
    unfold xchk at h
    dsimp only at h
    split at h
    · next hc => exact ⟨trivial, Or.inl hc, trivial, fun _ => ⟨oc, rfl, of_decide_eq_true h⟩⟩
    · next hc =>
      rw [Bool.and_eq_true] at h
      obtain ⟨h1, h2⟩ := h
      split at h2
      · next st np w' rest hm =>
        simp only [Bool.and_eq_true, decide_eq_true_eq, Bool.not_eq_true'] at h2
        obtain ⟨⟨hs, hb⟩, hw⟩ := h2
        obtain ⟨y, bytes, maxL', ret', hI, g1, g2, g3, g4, g5, g6, -, g8⟩ := mi_inf hm
        obtain ⟨k1, k2, k3, k4, k5⟩ := g8 hs
        subst hb
        subst hw
        exact ⟨trivial, Or.inr ⟨y, bytes, maxL', ret', np, hI, ml_in (of_decide_eq_true h1) hI, k1, k2, g3, g6, g1, g2, rfl, k4, k5, k3, g5⟩, trivial, fun q => absurd q hc⟩
      · cases h2
  | invokestatic i =>
    unfold xchk at h
    dsimp only at h
    split at h
    · next hc => exact ⟨fun _ => cp_in (of_decide_eq_true h), Or.inl hc, trivial, trivial⟩
    · next hc =>
      rw [Bool.and_eq_true] at h
      obtain ⟨h1, h2⟩ := h
      split at h2
      · next st np w' rest hm =>
        simp only [Bool.and_eq_true, decide_eq_true_eq] at h2
        obtain ⟨hs, hb⟩ := h2
        obtain ⟨y, bytes, maxL', ret', hI, g1, g2, g3, g4, g5, g6, g7, -⟩ := mi_inf hm
        obtain ⟨k1, k3⟩ := g7 hs
        subst hb
        exact ⟨fun q => absurd q hc, Or.inr ⟨y, bytes, maxL', ret', hI, ml_in (of_decide_eq_true h1) hI, k1, g3, g6, g1, g2, k3, g5⟩, trivial, trivial⟩
      · cases h2
  | ireturn =>
    unfold xchk at h
    dsimp only at h
    simp only [Bool.or_eq_true, Bool.and_eq_true, decide_eq_true_eq, beq_iff_eq] at h
    refine ⟨trivial, trivial, ⟨fun e => ?_, fun e => ?_, fun e => ?_⟩, trivial⟩ <;> (dsimp only at e; subst e; simpa using h)
  | areturn => exact ⟨trivial, trivial, ⟨_, of_decide_eq_true h, Or.inr ⟨_, rfl⟩⟩, trivial⟩
  | return_ =>
    unfold xchk at h
    simp only [decide_eq_true_eq] at h
    exact ⟨trivial, trivial, h, trivial⟩
  | tableswitch d lo hi offs =>
    unfold xchk at h
    simp only [Bool.and_eq_true, decide_eq_true_eq, List.all_eq_true] at h
    exact ⟨h, trivial, trivial, trivial⟩
  | lookupswitch d ps =>
    unfold xchk at h
    dsimp only at h
    rw [Bool.and_eq_true, Bool.and_eq_true] at h
    exact ⟨⟨h.1, of_decide_eq_true h.2.1, fun q hq => of_decide_eq_true (List.all_eq_true.mp h.2.2 q hq)⟩, trivial, trivial, trivial⟩
  | iinc n q =>
    unfold xchk at h
    simp only [Bool.and_eq_true, decide_eq_true_eq] at h
    exact ⟨h, trivial, trivial, trivial⟩
  | istore_n n =>
    unfold xchk at h
    simp only [Bool.and_eq_true, decide_eq_true_eq] at h
    exact ⟨h, trivial, trivial, trivial⟩
  | astore_n n =>
    unfold xchk at h
    simp only [Bool.and_eq_true, decide_eq_true_eq] at h
    exact ⟨h, trivial, trivial, trivial⟩
  | istore n =>
    unfold xchk at h
    simp only [Bool.and_eq_true, decide_eq_true_eq] at h
    exact ⟨h, trivial, trivial, trivial⟩
  | astore n =>
    unfold xchk at h
    simp only [Bool.and_eq_true, decide_eq_true_eq] at h
    exact ⟨h, trivial, trivial, trivial⟩
  | _ => first | exact ⟨trivial, trivial, trivial, trivial⟩ | (unfold xchk at h; simp only [decide_eq_true_eq] at h; exact ⟨h, trivial, trivial, trivial⟩)
