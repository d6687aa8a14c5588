section PEV
variable (S : List pSh) (P : List pM) (T : pTx)
theorem pB0_le {ρ : Type} {E E' : Option pRes} {F F' : pD → pDL → Option ρ} {r : ρ} (hE : ∀ r, E = some r → E' = some r) (hF : ∀ D DL r, F D DL = some r → F' D DL = some r) (h : pB0 E F = some r) : pB0 E' F' = some r := by
  unfold pB0 at h
  split at h
  · rw [hE _ rfl]; exact hF _ _ _ h
  · cases h
theorem pB1_le {ρ : Type} {E E' : Option pRes} {F F' : Int32 → pD → pDL → Option ρ} {r : ρ} (hE : ∀ r, E = some r → E' = some r) (hF : ∀ x D DL r, F x D DL = some r → F' x D DL = some r) (h : pB1 E F = some r) : pB1 E' F' = some r := by
  unfold pB1 at h
  split at h
  · rw [hE _ rfl]; exact hF _ _ _ _ h
  · cases h
theorem pB2_le {ρ : Type} {E E' : Option pRes} {k : Nat} {F F' : pD → pDL → Option ρ} {r : ρ} (hE : ∀ r, E = some r → E' = some r) (hF : ∀ D DL r, F D DL = some r → F' D DL = some r) (h : pB2 E k F = some r) : pB2 E' k F' = some r := by
  unfold pB2 at h
  split at h
  · split at h
    · rw [hE _ rfl]; exact (if_pos (by assumption)).trans (hF _ _ _ h)
    · cases h
  · cases h
theorem pBk_le {ρ : Type} {E E' : Option pRes} {g : Nat} {F F' : List pV → pSt → Option ρ} {r : ρ} (hE : ∀ r, E = some r → E' = some r) (hF : ∀ v σ r, F v σ = some r → F' v σ = some r) (h : pBk E g F = some r) : pBk E' g F' = some r := by
  unfold pBk at h ⊢
  split
  · exact pB0_le hE (fun _ _ _ => hF _ _ _) h
  · exact pB1_le hE (fun _ _ _ _ => hF _ _ _) h
  · exact pB2_le hE (fun _ _ _ => hF _ _ _) h
theorem pr_mono : ∀ (n me d pc : Nat) (L : pL) (st : List pV) (σ : pSt) (r : pRes), pr S P T n me d pc L st σ = some r → pr S P T (n + 1) me d pc L st σ = some r
  | 0, _, _, _, _, _, _, _, h => by cases h
  | n + 1, me, d, pc, L, st, σ, r, h => by
    unfold pr at h ⊢
    cases hM : P[me]? with
    | none => rw [hM] at h; cases h
    | some M =>
      rw [hM] at h
      dsimp only at h ⊢
      unfold pSt1 at h ⊢
      cases hx : pFind pc M.1 with
      | none => rw [hx] at h; cases h
      | some x =>
        rw [hx] at h
        dsimp only at h ⊢
        rw [sI_sO] at h ⊢
        cases ho : sO S T d pc x L st σ with
        | none => rw [ho] at h; cases h
        | some o =>
          rw [ho] at h
          rw [Option.bind_some] at h ⊢
          rcases o with q | q | v
          · exact pr_mono n _ _ _ _ _ _ _ h
          · dsimp only at h ⊢
            exact pBk_le (fun r hr => pr_mono n _ _ _ _ _ _ _ hr) (fun v s r hr => pr_mono n _ _ _ _ _ _ _ hr) h
          · exact h
theorem pr_le {n k me d pc : Nat} {L : pL} {st : List pV} {σ : pSt} {r : pRes} (hk : n ≤ k) (h : pr S P T n me d pc L st σ = some r) : pr S P T k me d pc L st σ = some r := by
  induction hk with
  | refl => exact h
  | step _ ih => exact pr_mono S P T _ _ _ _ _ _ _ _ ih
/-- what the run comes to, if it ends -/
noncomputable def ev : pK pRes := fun me d pc L st σ => @dite _ (∃ (r : pRes) (n : Nat), pr S P T n me d pc L st σ = some r) (Classical.propDecidable _) (fun h => some (Classical.choose h)) (fun _ => none)
theorem ev_iff {me d pc : Nat} {L : pL} {st : List pV} {σ : pSt} {r : pRes} : ev S P T me d pc L st σ = some r ↔ ∃ n, pr S P T n me d pc L st σ = some r := by
  unfold ev
  constructor
  · intro h
    split at h
    · next hh =>
      obtain ⟨n, hn⟩ := Classical.choose_spec hh
      exact ⟨n, by rw [hn, ← Option.some.inj h]⟩
    · cases h
  · intro ⟨n, hn⟩
    have hh : ∃ (r : pRes) (n : Nat), pr S P T n me d pc L st σ = some r := ⟨r, n, hn⟩
    rw [dif_pos hh]
    obtain ⟨k, hk⟩ := Classical.choose_spec hh
    have h1 := pr_le S P T (Nat.le_max_left n k) hn
    have h2 := pr_le S P T (Nat.le_max_right n k) hk
    rw [h1] at h2
    exact h2.symm
theorem ev_eq (me d pc : Nat) (L : pL) (st : List pV) (σ : pSt) : ev S P T me d pc L st σ = match P[me]? with
    | none => none
    | some M => pSt1 S T (ev S P T) M me d pc L st σ fun pc' L' st' σ' => ev S P T me d pc' (pCut M pc' L') st' σ' := by
  apply Option.ext
  intro r
  constructor
  · intro h
    obtain ⟨n, hn⟩ := (ev_iff S P T).mp h
    cases n with
    | zero => cases hn
    | succ n =>
      unfold pr at hn
      cases hM : P[me]? with
      | none => rw [hM] at hn; cases hn
      | some M =>
        rw [hM] at hn
        dsimp only at hn ⊢
        unfold pSt1 at hn ⊢
        cases hx : pFind pc M.1 with
        | none => rw [hx] at hn; cases hn
        | some x =>
          rw [hx] at hn
          dsimp only at hn ⊢
          rw [sI_sO] at hn ⊢
          cases ho : sO S T d pc x L st σ with
          | none => rw [ho] at hn; cases hn
          | some o =>
            rw [ho] at hn
            rw [Option.bind_some] at hn ⊢
            rcases o with q | q | v
            · exact (ev_iff S P T).mpr ⟨n, hn⟩
            · dsimp only at hn ⊢
              exact pBk_le (fun r hr => (ev_iff S P T).mpr ⟨n, hr⟩) (fun v s r hr => (ev_iff S P T).mpr ⟨n, hr⟩) hn
            · exact hn
  · intro h
    cases hM : P[me]? with
    | none => rw [hM] at h; cases h
    | some M =>
      rw [hM] at h
      dsimp only at h
      unfold pSt1 at h
      cases hx : pFind pc M.1 with
      | none => rw [hx] at h; cases h
      | some x =>
        rw [hx] at h
        dsimp only at h
        rw [sI_sO] at h
        cases ho : sO S T d pc x L st σ with
        | none => rw [ho] at h; cases h
        | some o =>
          have goal : ∀ n, (match o with
              | .inl q => pr S P T n me d q.1 (pCut M q.1 q.2.1) q.2.2.1 q.2.2.2
              | .inr (.inl q) => pBk (pr S P T n q.1 q.2.1 0 (pL0 q.2.2.1) [] σ) q.2.2.2.1 fun v σ' => pr S P T n me d q.2.2.2.2.1 (pCut M q.2.2.2.2.1 q.2.2.2.2.2.1) (v ++ q.2.2.2.2.2.2) σ'
              | .inr (.inr v) => some (v, σ)) = some r → ev S P T me d pc L st σ = some r := by
            intro n hn
            refine (ev_iff S P T).mpr ⟨n + 1, ?_⟩
            unfold pr
            rw [hM]
            dsimp only
            unfold pSt1
            rw [hx]
            dsimp only
            rw [sI_sO, ho, Option.bind_some]
            rcases o with q | q | v <;> exact hn
          rw [ho] at h
          rw [Option.bind_some] at h
          rcases o with q | q | v
          · obtain ⟨n, hn⟩ := (ev_iff S P T).mp h
            exact goal n hn
          · dsimp only at h goal
            have key : ∃ (n : Nat) (w : pRes), pr S P T n q.1 q.2.1 0 (pL0 q.2.2.1) [] σ = some w ∧ pBk (some w) q.2.2.2.1 (fun v σ' => pr S P T n me d q.2.2.2.2.1 (pCut M q.2.2.2.2.1 q.2.2.2.2.2.1) (v ++ q.2.2.2.2.2.2) σ') = some r := by
              unfold pBk at h ⊢
              split at h
              · unfold pB0 at h ⊢
                split at h
                · next w hw =>
                  obtain ⟨n, hn⟩ := (ev_iff S P T).mp hw
                  obtain ⟨k, hk⟩ := (ev_iff S P T).mp h
                  exact ⟨max n k, _, pr_le S P T (Nat.le_max_left n k) hn, pr_le S P T (Nat.le_max_right n k) hk⟩
                · cases h
              · unfold pB1 at h ⊢
                split at h
                · next w hw =>
                  obtain ⟨n, hn⟩ := (ev_iff S P T).mp hw
                  obtain ⟨k, hk⟩ := (ev_iff S P T).mp h
                  exact ⟨max n k, _, pr_le S P T (Nat.le_max_left n k) hn, pr_le S P T (Nat.le_max_right n k) hk⟩
                · cases h
              · unfold pB2 at h ⊢
                split at h
                · next w hw =>
                  split at h
                  · next hc =>
                    obtain ⟨n, hn⟩ := (ev_iff S P T).mp hw
                    obtain ⟨k, hk⟩ := (ev_iff S P T).mp h
                    exact ⟨max n k, _, pr_le S P T (Nat.le_max_left n k) hn, (if_pos hc).trans (pr_le S P T (Nat.le_max_right n k) hk)⟩
                  · cases h
                · cases h
            obtain ⟨n, w, h1, h2⟩ := key
            refine goal n ?_
            rw [h1]
            exact h2
          · exact goal 0 h
/-- k steps within the method, up to its cuts -/
noncomputable def go (E : pK pRes) (M : pM) (me d : Nat) : Nat → Nat → pL → List pV → pSt → Option pRes
  | 0, pc, L, st, σ => E me d pc L st σ
  | k + 1, pc, L, st, σ => pSt1 S T E M me d pc L st σ fun pc' L' st' σ' => (match pFind pc' M.2 with
    | some keep => E me d pc' (pMask keep L') st' σ'
    | none => go E M me d k pc' L' st' σ')
theorem ev_go {M : pM} {me : Nat} (hM : P[me]? = some M) (d : Nat) : ∀ (k pc : Nat) (L : pL) (st : List pV) (σ : pSt), ev S P T me d pc L st σ = go S T (ev S P T) M me d k pc L st σ
  | 0, _, _, _, _ => rfl
  | k + 1, pc, L, st, σ => by
    rw [ev_eq, hM]
    dsimp only
    unfold go
    congr 1
    funext pc' L' st' σ'
    unfold pCut
    cases hc : pFind pc' M.2 with
    | none => exact ev_go hM d k pc' L' st' σ'
    | some keep => rfl
end PEV
