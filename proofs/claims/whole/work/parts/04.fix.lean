/-! What runs long enough runs as its own equation says: db_eq. -/
def jU (F : (Nat → jL → List Value → jS → jR) → (jL → List Value → jS → jR) → jR) : Prop := ∀ K k r, F K k = some r →
  (∃ lv st σ, k lv st σ = some r ∧ ∀ K' k', k' lv st σ = some r → F K' k' = some r) ∨ (∃ j lv st σ, K j lv st σ = some r ∧ ∀ K' k', K' j lv st σ = some r → F K' k' = some r) ∨ (∀ K' k', F K' k' = some r)
theorem jU_c (r0 : jR) : jU (fun _ _ => r0) := fun _ _ _ h => Or.inr (Or.inr (fun _ _ => h))
theorem jU_k (lv : jL) (st : List Value) (σ : jS) : jU (fun _ k => k lv st σ) := fun _ _ _ h => Or.inl ⟨lv, st, σ, h, fun _ _ h => h⟩
theorem jU_K (j : Nat) (lv : jL) (st : List Value) (σ : jS) : jU (fun K _ => K j lv st σ) := fun _ _ _ h => Or.inr (Or.inl ⟨j, lv, st, σ, h, fun _ _ h => h⟩)
theorem jU_bind {α : Type} (o : Option α) (F : α → (Nat → jL → List Value → jS → jR) → (jL → List Value → jS → jR) → jR) (h : ∀ x, jU (F x)) : jU (fun K k => o.bind fun x => F x K k) := by
  cases o with
  | none => exact jU_c none
  | some x => exact h x
theorem jU_q {α : Type} (o : Option α) (F : α → (Nat → jL → List Value → jS → jR) → (jL → List Value → jS → jR) → jR) (h : ∀ x, jU (F x)) : jU (fun K k => jq o fun x => F x K k) := by
  cases o with
  | none => exact jU_c none
  | some x => exact h x
theorem jU_jc (c : Bool) (F : (Nat → jL → List Value → jS → jR) → (jL → List Value → jS → jR) → jR) (hF : jU F) : jU (fun K k => jc c (F K k)) := by
  cases c with
  | true => exact hF
  | false => exact jU_c none
theorem jU_ite (c : Prop) (dc : Decidable c) (F G : (Nat → jL → List Value → jS → jR) → (jL → List Value → jS → jR) → jR) (hF : jU F) (hG : jU G) : jU (fun K k => @ite _ c dc (F K k) (G K k)) := by
  cases dc with
  | isTrue h => exact hF
  | isFalse h => exact hG
theorem jU_jif (c : Prop) (F G : (Nat → jL → List Value → jS → jR) → (jL → List Value → jS → jR) → jR) (hF : jU F) (hG : jU G) : jU (fun K k => jif c (F K k) (G K k)) := jU_ite c (Classical.propDecidable c) F G hF hG
theorem jU_cond (c : Bool) (F G : (Nat → jL → List Value → jS → jR) → (jL → List Value → jS → jR) → jR) (hF : jU F) (hG : jU G) : jU (fun K k => cond c (F K k) (G K k)) := by
  cases c with
  | true => exact hF
  | false => exact hG
theorem jU_ret (rk : Nat) (r : jR) (lv : jL) (st : List Value) : jU (fun _ k => j_ret rk r lv st k) := by
  unfold j_ret
  split
  · exact jU_bind _ _ fun q => jU_k _ _ _
  · exact jU_bind _ _ fun q => jU_k _ _ _
  · exact jU_bind _ _ fun q => jU_k _ _ _
  · exact jU_c none
theorem jU_sw (x : Int32) (d : Nat) (lv : jL) (st : List Value) (σ : jS) : ∀ l : List (Int × Nat), jU (fun K _ => j_sw x (K d lv st σ) (fun b => K b lv st σ) l) := by
  intro l
  induction l with
  | nil => exact jU_K d lv st σ
  | cons q r ih => exact jU_jif _ _ _ (jU_K q.2 lv st σ) ih
set_option maxHeartbeats 4000000 in
theorem js_use (C : Nat → List Value → jS → jR) (rt : Nat) (i : Instr) (ex : List Nat) (lv : jL) (st : List Value) (σ : jS) : jU (fun K k => js C rt K i ex lv st σ k) := by
  cases i
  case iconst | bipush | sipush | lconst => exact jU_k _ _ _
  case ldc =>
    unfold js
    rcases ex with _ | ⟨a, _ | ⟨b, _ | ⟨c, _⟩⟩⟩
    · exact jU_c none
    · exact jU_k _ _ _
    · exact jU_k _ _ _
    · exact jU_c none
  case ldc2_w | ldc_w =>
    rcases ex with _ | ⟨a, _ | ⟨b, _⟩⟩
    · exact jU_c none
    · exact jU_k _ _ _
    · exact jU_c none
  case iload_n | iload | lload_n | lload | aload_n | aload | istore_n | istore | lstore_n | lstore | astore_n | astore | iinc | iadd | isub | imul | iand | ior | ishl | ishr | iushr | ladd | lsub | lmul | land | lor | lneg | lcmp | lshl | lshr | lushr | i2l | l2i | i2c | dup | pop | dup2 => exact jU_q _ _ fun q => jU_k _ _ _
  case idiv | irem | ldiv | lrem => exact jU_q _ _ fun q => jU_ite _ _ _ _ (jU_c none) (jU_k _ _ _)
  case baload | laload | iastore | bastore | lastore => exact jU_q _ _ fun q => jU_bind _ _ fun x => jU_k _ _ _
  case iaload =>
    unfold js
    dsimp only
    split
    · exact jU_q _ _ fun q => jU_bind _ _ fun x => jU_k _ _ _
    · exact jU_q _ _ fun q => jU_jc _ _ (jU_bind _ _ fun x => jU_k _ _ _)
    · exact jU_c none
  case arraylength =>
    unfold js
    dsimp only
    split
    · exact jU_q _ _ fun q => jU_bind _ _ fun x => jU_k _ _ _
    · exact jU_q _ _ fun q => jU_jc _ _ (jU_bind _ _ fun x => jU_k _ _ _)
    · exact jU_c none
  case getfield =>
    show jU (fun K k => js C rt K (.getfield _) ex lv st σ k)
    unfold js
    dsimp only
    split
    · exact jU_q _ _ fun q => jU_jc _ _ (jU_k _ _ _)
    · exact jU_q _ _ fun q => jU_jc _ _ (jU_k _ _ _)
    · exact jU_q _ _ fun q => jU_jc _ _ (jU_k _ _ _)
    · exact jU_q _ _ fun q => jU_jc _ _ (jU_k _ _ _)
    · exact jU_q _ _ fun q => jU_jc _ _ (jU_k _ _ _)
    · exact jU_c none
  case putfield =>
    unfold js
    dsimp only
    split
    · exact jU_q _ _ fun q => jU_jc _ _ (jU_k _ _ _)
    · exact jU_q _ _ fun q => jU_jc _ _ (jU_ite _ _ _ _ (jU_k _ _ _) (jU_c none))
    · exact jU_q _ _ fun q => jU_jc _ _ (jU_k _ _ _)
    · exact jU_q _ _ fun q => jU_jc _ _ (jU_k _ _ _)
    · exact jU_c none
  case goto =>
    unfold js
    dsimp only
    split
    · exact jU_K _ _ _ _
    · exact jU_c none
  case ifCond c _ =>
    unfold js
    dsimp only
    split
    · refine jU_q _ _ fun q => ?_
      cases c <;> first | exact jU_jif _ _ _ (jU_K _ _ _ _) (jU_k _ _ _) | exact jU_jif _ _ _ (jU_k _ _ _) (jU_K _ _ _ _)
    · exact jU_c none
  case if_icmp c _ =>
    unfold js
    dsimp only
    split
    · refine jU_q _ _ fun q => ?_
      cases c <;> first | exact jU_jif _ _ _ (jU_K _ _ _ _) (jU_k _ _ _) | exact jU_jif _ _ _ (jU_k _ _ _) (jU_K _ _ _ _)
    · exact jU_c none
  case tableswitch =>
    unfold js
    dsimp only
    split
    · exact jU_q _ _ fun q => jU_sw _ _ _ _ _ _
    · exact jU_c none
  case lookupswitch =>
    unfold js
    dsimp only
    split
    · exact jU_q _ _ fun q => jU_sw _ _ _ _ _ _
    · exact jU_c none
  case invokevirtual =>
    unfold js
    dsimp only
    split
    · exact jU_q _ _ fun q => jU_bind _ _ fun z => jU_jc _ _ (jU_k _ _ _)
    · exact jU_q _ _ fun q => jU_bind _ _ fun z => jU_ite _ _ _ _ (jU_c none) (jU_jc _ _ (jU_k _ _ _))
    · exact jU_q _ _ fun q => jU_bind _ _ fun z => jU_jc _ _ (jU_k _ _ _)
    · exact jU_q _ _ fun q => jU_q _ _ fun z => jU_jc _ _ (jU_jc _ _ (jU_ret _ _ _ _))
    · exact jU_c none
  case invokestatic =>
    unfold js
    dsimp only
    split
    · exact jU_q _ _ fun q => jU_jc _ _ (jU_bind _ _ fun z => jU_k _ _ _)
    · exact jU_q _ _ fun q => jU_jc _ _ (jU_k _ _ _)
    · exact jU_q _ _ fun q => jU_jc _ _ (jU_k _ _ _)
    · exact jU_q _ _ fun q => jU_jc _ _ (jU_k _ _ _)
    · exact jU_q _ _ fun q => jU_jc _ _ (jU_k _ _ _)
    · exact jU_q _ _ fun q => jU_jc _ _ (jU_ret _ _ _ _)
    · exact jU_c none
  case ireturn =>
    unfold js
    dsimp only
    exact jU_c _
  case lreturn => exact jU_c _
  case return_ => exact jU_c _
  all_goals exact jU_c none
theorem jb_use (C : Nat → List Value → jS → jR) (rt : Nat) (nx : Nat) : ∀ (is : List jN) (lv : jL) (st : List Value) (σ : jS) (K : Nat → jL → List Value → jS → jR) (r : Option Value × jS), jb C rt K nx is lv st σ = some r →
    (∃ j l s t, K j l s t = some r ∧ ∀ K', K' j l s t = some r → jb C rt K' nx is lv st σ = some r) ∨ (∀ K', jb C rt K' nx is lv st σ = some r) := by
  intro is
  induction is with
  | nil =>
    intro lv st σ K r h
    exact Or.inl ⟨nx, lv, st, σ, h, fun _ h => h⟩
  | cons i is ih =>
    intro lv st σ K r h
    obtain ⟨i, ex⟩ := i
    rcases js_use C rt i ex lv st σ K (fun lv st σ => jb C rt K nx is lv st σ) r h with ⟨l, s, t, h1, h2⟩ | ⟨j, l, s, t, h1, h2⟩ | h2
    · rcases ih l s t K r h1 with ⟨j, l', s', t', h3, h4⟩ | h3
      · exact Or.inl ⟨j, l', s', t', h3, fun K' hK' => h2 K' (fun lv st σ => jb C rt K' nx is lv st σ) (h4 K' hK')⟩
      · exact Or.inr fun K' => h2 K' (fun lv st σ => jb C rt K' nx is lv st σ) (h3 K')
    · exact Or.inl ⟨j, l, s, t, h1, fun K' hK' => h2 K' (fun lv st σ => jb C rt K' nx is lv st σ) hK'⟩
    · exact Or.inr fun K' => h2 K' (fun lv st σ => jb C rt K' nx is lv st σ)
theorem jstep_use (C : Nat → List Value → jS → jR) (rt : Nat) (B : List jB) (j : Nat) (lv : jL) (st : List Value) (σ : jS) (K : Nat → jL → List Value → jS → jR) (r : Option Value × jS) (h : jstep C rt B K j lv st σ = some r) :
    (∃ j' l s t, K j' l s t = some r ∧ ∀ K', K' j' l s t = some r → jstep C rt B K' j lv st σ = some r) ∨ (∀ K', jstep C rt B K' j lv st σ = some r) := by
  unfold jstep at h ⊢
  cases hb : B[j]? with
  | none => rw [hb] at h; cases h
  | some b =>
    rw [hb] at h
    rcases jb_use C rt b.2.2.2 b.2.2.1 lv st σ (j_go B K) r h with ⟨j', l, s, t, h1, h2⟩ | h2
    · unfold j_go at h1
      cases hb' : B[j']? with
      | none => rw [hb'] at h1; cases h1
      | some b' =>
        rw [hb'] at h1
        simp only [Option.bind_some] at h1
        cases hp : j_pick b'.2.1 l with
        | none => rw [hp] at h1; cases h1
        | some l' =>
          rw [hp] at h1
          refine Or.inl ⟨j', l', s, t, h1, fun K' hK' => h2 (j_go B K') ?_⟩
          unfold j_go
          rw [hb']
          simp only [Option.bind_some, hp]
          exact hK'
    · exact Or.inr fun K' => h2 (j_go B K')
theorem jrun_mono (C : Nat → List Value → jS → jR) (rt : Nat) (B : List jB) : ∀ (n : Nat) (j : Nat) (lv : jL) (st : List Value) (σ : jS) (r : Option Value × jS), jrun C rt B n j lv st σ = some r → jrun C rt B (n + 1) j lv st σ = some r := by
  intro n
  induction n with
  | zero => intro j lv st σ r h; cases h
  | succ n ih =>
    intro j lv st σ r h
    rcases jstep_use C rt B j lv st σ (jrun C rt B n) r h with ⟨j', l, s, t, h1, h2⟩ | h2
    · exact h2 _ (ih j' l s t r h1)
    · exact h2 _
theorem jrun_le (C : Nat → List Value → jS → jR) (rt : Nat) (B : List jB) {n n' : Nat} (hn : n ≤ n') {j : Nat} {lv : jL} {st : List Value} {σ : jS} {r : Option Value × jS} (h : jrun C rt B n j lv st σ = some r) : jrun C rt B n' j lv st σ = some r := by
  induction hn with
  | refl => exact h
  | step _ ih => exact jrun_mono C rt B _ j lv st σ r ih
theorem db_iff (C : Nat → List Value → jS → jR) (rt : Nat) (B : List jB) (j : Nat) (lv : jL) (st : List Value) (σ : jS) (r : Option Value × jS) : db C rt B j lv st σ = some r ↔ ∃ n, jrun C rt B n j lv st σ = some r := by
  constructor
  · intro h
    unfold db at h
    by_cases he : ∃ r, ∃ n, jrun C rt B n j lv st σ = some r
    · rw [dif_pos he] at h
      cases h
      exact Classical.choose_spec he
    · rw [dif_neg he] at h
      cases h
  · intro ⟨n, h⟩
    have he : ∃ r, ∃ n, jrun C rt B n j lv st σ = some r := ⟨r, n, h⟩
    unfold db
    rw [dif_pos he]
    obtain ⟨n', h'⟩ := Classical.choose_spec he
    have h1 := jrun_le C rt B (Nat.le_max_left n n') h
    have h2 := jrun_le C rt B (Nat.le_max_right n n') h'
    rw [h1] at h2
    exact h2.symm
theorem db_eq (C : Nat → List Value → jS → jR) (rt : Nat) (B : List jB) (j : Nat) (lv : jL) (st : List Value) (σ : jS) : db C rt B j lv st σ = jstep C rt B (db C rt B) j lv st σ := by
  cases h : jstep C rt B (db C rt B) j lv st σ with
  | some r =>
    rw [db_iff]
    rcases jstep_use C rt B j lv st σ _ r h with ⟨j', l, s, t, h1, h2⟩ | h2
    · obtain ⟨n, hn⟩ := (db_iff C rt B j' l s t r).mp h1
      exact ⟨n + 1, h2 _ hn⟩
    · exact ⟨1, h2 _⟩
  | none =>
    cases h' : db C rt B j lv st σ with
    | none => rfl
    | some r =>
      exfalso
      obtain ⟨n, hn⟩ := (db_iff C rt B j lv st σ r).mp h'
      cases n with
      | zero => cases hn
      | succ n =>
        rcases jstep_use C rt B j lv st σ _ r hn with ⟨j', l, s, t, h1, h2⟩ | h2
        · have := h2 (db C rt B) ((db_iff C rt B j' l s t r).mpr ⟨n, h1⟩)
          rw [h] at this
          cases this
        · have := h2 (db C rt B)
          rw [h] at this
          cases this
