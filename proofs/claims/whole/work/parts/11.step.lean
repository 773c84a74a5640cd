section JS
variable {p : Program} {l : Launch} {e : Env} {R : Room} {s : State} {m : MethodId} {args : Array Value} {below : List Frame} {meth : Method} {c : Code} {cells slots : Nat} {Q : State → Prop}
variable {cc : ByteArray} {nL own rt : Nat} {D : va_G} {G : jG} {α : Nat → Nat} {Z : State → Prop} {dd : Nat} {B : List jB} {C : Nat → List Value → jS → jR} {r : Option Value × jS} {scr : Bool}
theorem j_ret_s {rk : Nat} {x : jR} {lv : jL} {st : List Value} {k : jL → List Value → jS → jR} {r : Option Value × jS} (h : j_ret rk x lv st k = some r) : ∃ (v : Option Value) (σ' : jS), x = some (v, σ') ∧ k lv (v.toList ++ st) σ' = some r ∧ (∀ α, (v.map (tv α)).toList = v.toList) := by
  unfold j_ret at h
  split at h
  · obtain ⟨q, hq, h⟩ := Option.bind_eq_some_iff.mp h
    unfold r_V at hq
    split at hq
    · cases hq; exact ⟨none, _, rfl, h, fun _ => rfl⟩
    · cases hq
  · obtain ⟨q, hq, h⟩ := Option.bind_eq_some_iff.mp h
    unfold r_I at hq
    split at hq
    · cases hq; exact ⟨some (.int _), _, rfl, h, fun _ => rfl⟩
    · cases hq
  · obtain ⟨q, hq, h⟩ := Option.bind_eq_some_iff.mp h
    unfold r_L at hq
    split at hq
    · cases hq; exact ⟨some (.long _), _, rfl, h, fun _ => rfl⟩
    · cases hq
  · cases h
theorem cond_s {α : Type} {b : Bool} {x : Option α} {y : α} (h : cond b x none = some y) : b = true ∧ x = some y := by
  cases b with
  | true => exact ⟨rfl, h⟩
  | false => cases h
theorem jq_s {α : Type} {o : Option α} {f : α → jR} {r : Option Value × jS} (h : jq o f = some r) : ∃ x, o = some x ∧ f x = some r := by
  cases o with
  | none => cases h
  | some x => exact ⟨x, rfl, h⟩
theorem jc_s {b : Bool} {x : jR} {y : Option Value × jS} (h : jc b x = some y) : b = true ∧ x = some y := by
  cases b with
  | true => exact ⟨rfl, h⟩
  | false => cases h
theorem ble_s {a b : Nat} (h : Nat.ble a b = true) : a ≤ b := Nat.le_of_ble_eq_true h
theorem jP_put {α : Nat → Nat} {G : jG} {σ σ' : jS} {a ci f k : Nat} {v : Value} (hsh : jSH[a]? = some (.inr ci)) (hfk : (j_fk ci)[f]? = some k) (h1 : ∀ b, b ≠ a → σ'.1 b = σ.1 b) (h2 : ∀ b, b ≠ a → σ'.2.1 b = σ.2.1 b) (h3 : ∀ b, b ≠ a → σ'.2.2 b = σ.2.2 b) (g1 : ∀ j, j ≠ f → σ'.1 a j = σ.1 a j) (g2 : ∀ j, j ≠ f → σ'.2.1 a j = σ.2.1 a j) (g3 : ∀ j, j ≠ f → σ'.2.2 a j = σ.2.2 a j) (hv : v = jfv α σ' a f k) :
    (jP α G σ).set a (α a, .inr (ci, (j_fs α σ a ci).set f v)) = jP α G σ' := by
  refine jP_set hsh h1 h2 h3 ?_
  show Sum.inr (ci, _) = Sum.inr (ci, _)
  rw [j_fs_set hfk hv g1 g2 g3]
theorem jP_putI {α : Nat → Nat} {G : jG} {σ : jS} {a ci f k : Nat} {x : Int32} (hsh : jSH[a]? = some (.inr ci)) (hfk : (j_fk ci)[f]? = some k) (hk : k = 0 ∨ k = 1) : (jP α G σ).set a (α a, .inr (ci, (j_fs α σ a ci).set f (.int x))) = jP α G (j_setI σ a f x) := by
  refine jP_put hsh hfk (fun b hb => j_setI_ne hb) (fun _ _ => rfl) (fun _ _ => rfl) (fun j hj => ?_) (fun _ _ => rfl) (fun _ _ => rfl) ?_
  · show (if a = a ∧ j = f then x else σ.1 a j) = _
    rw [if_neg (fun q => hj q.2)]
  · have e : (j_setI σ a f x).1 a f = x := by
      show (if a = a ∧ f = f then x else σ.1 a f) = x
      rw [if_pos ⟨rfl, rfl⟩]
    rcases hk with rfl | rfl
    · show _ = Value.int ((j_setI σ a f x).1 a f)
      rw [e]
    · show _ = Value.int ((j_setI σ a f x).1 a f)
      rw [e]
theorem jP_putL {α : Nat → Nat} {G : jG} {σ : jS} {a ci f : Nat} {x : Int64} (hsh : jSH[a]? = some (.inr ci)) (hfk : (j_fk ci)[f]? = some 2) : (jP α G σ).set a (α a, .inr (ci, (j_fs α σ a ci).set f (.long x))) = jP α G (j_setL σ a f x) := by
  refine jP_put hsh hfk (fun _ _ => rfl) (fun b hb => j_setL_ne hb) (fun _ _ => rfl) (fun _ _ => rfl) (fun j hj => ?_) (fun _ _ => rfl) ?_
  · show (if a = a ∧ j = f then x else σ.2.1 a j) = _
    rw [if_neg (fun q => hj q.2)]
  · have e : (j_setL σ a f x).2.1 a f = x := by
      show (if a = a ∧ f = f then x else σ.2.1 a f) = x
      rw [if_pos ⟨rfl, rfl⟩]
    show _ = Value.long ((j_setL σ a f x).2.1 a f)
    rw [e]
theorem jP_putR {α : Nat → Nat} {G : jG} {σ : jS} {a ci f x : Nat} (hsh : jSH[a]? = some (.inr ci)) (hfk : (j_fk ci)[f]? = some 3) : (jP α G σ).set a (α a, .inr (ci, (j_fs α σ a ci).set f (.ref (α x)))) = jP α G (j_setR σ a f x) := by
  refine jP_put hsh hfk (fun _ _ => rfl) (fun _ _ => rfl) (fun b hb => j_setR_ne hb) (fun _ _ => rfl) (fun _ _ => rfl) (fun j hj => ?_) ?_
  · show (if a = a ∧ j = f then x else σ.2.2 a j) = _
    rw [if_neg (fun q => hj q.2)]
  · have e : (j_setR σ a f x).2.2 a f = x := by
      show (if a = a ∧ f = f then x else σ.2.2 a f) = x
      rw [if_pos ⟨rfl, rfl⟩]
    show _ = Value.ref (α ((j_setR σ a f x).2.2 a f))
    rw [e]
theorem jP_cpy {α : Nat → Nat} {G : jG} {σ : jS} {a0 sp a1 dp n n1 : Nat} (h : jSH[a1]? = some (.inl (0, n1))) : (jP α G σ).set a1 (α a1, .inl (j_ac G 0, n1, .inl (va_cpy (σ.1 a0) (σ.1 a1) sp dp n))) = jP α G (j_cpy σ a0 sp a1 dp n) := by
  refine jP_set h (fun b hb => ?_) (fun _ _ => rfl) (fun _ _ => rfl) ?_
  · funext j
    show (if b = a1 ∧ dp ≤ j ∧ j < dp + n then σ.1 a0 (sp + (j - dp)) else σ.1 b j) = _
    rw [if_neg (fun q => hb q.1)]
  · show Sum.inl (_, _, Sum.inl _) = Sum.inl (_, _, Sum.inl _)
    congr 3
    congr 1
    funext j
    show (if dp ≤ j ∧ j < dp + n then _ else _) = (if a1 = a1 ∧ dp ≤ j ∧ j < dp + n then _ else _)
    simp
theorem map_toList (α : Nat → Nat) (v : Option Value) (st : List Value) : (v.toList ++ st).map (tv α) = (v.map (tv α)).toList ++ st.map (tv α) := by
  cases v <;> rfl
set_option maxHeartbeats 8000000 in
theorem js_ok (F : jFx p R s m args c cc nL own D G α Z dd cells slots) (hC : jHC l α G D Z dd C) (hSc : jHS s α scr C) (hT : jHT p l e R s m args below meth c cells slots Q cc nL own α) (hR : jHR p l e R s m args below meth c cells slots Q cc rt D G α r)
    {K : Nat → jL → List Value → jS → jR} (hK : ∀ j lv st σ q, K j lv st σ = some r → jpc B j = some q → jWk p l e R s m args below meth c cells slots Q nL D G α q lv st σ)
    {i : Instr} {ex : List Nat} {pc : Nat} (hok : okI scr own nL B pc i ex = true) (hd0 : ∃ len, decode cc pc = .ok (i, len)) (hd : j_switch i = false → decode cc pc = .ok (i, jlen i)) {k : jL → List Value → jS → jR} {lv : jL} {st : List Value} {σ : jS} (h : js C rt K i ex lv st σ k = some r)
    (hk : j_switch i = false → j_term i = false → ∀ lv st σ, k lv st σ = some r → jWk p l e R s m args below meth c cells slots Q nL D G α (pc + jlen i) lv st σ) :
    jWk p l e R s m args below meth c cells slots Q nL D G α pc lv st σ := by
  obtain ⟨hx, hb, hml, hown, hts, hKw, hZ, hz, hα, hfr, hlo, hcell, hslot⟩ := id F
  have hDD : ∀ σ : jS, va_D (jA α) (jP α G σ) := fun σ => jP_D hα
  intro ls H locs hl hP hS
  cases i
  case iconst n => exact lv_iconst hx hb (hd rfl) rfl (hk rfl rfl _ _ _ h ls H locs hl hP hS)
  case bipush n => exact lv_bipush hx hb (hd rfl) rfl (hk rfl rfl _ _ _ h ls H locs hl hP hS)
  case sipush n => exact lv_sipush hx hb (hd rfl) rfl (hk rfl rfl _ _ _ h ls H locs hl hP hS)
  case lconst n => exact lv_lconst hx hb (hd rfl) rfl (hk rfl rfl _ _ _ h ls H locs hl hP hS)
  case ldc n =>
    rcases ex with _ | ⟨v, _ | ⟨w, _ | ⟨u, _⟩⟩⟩
    · cases h
    · have hw := hts _ (jwC_g _ (List.mem_map.mpr ⟨_, contains_s hok, rfl⟩))
      exact lv_ldc hx hb hown hw (hd rfl) (hk rfl rfl _ _ _ h ls H locs hl hP hS)
    · exact hT.1 pc n v ls H locs _ hl.1 (contains_s hok) (hd rfl) hS (hk rfl rfl _ _ _ h ls H locs hl hP hS)
    · cases h
  case ldc_w n =>
    rcases ex with _ | ⟨v, _ | ⟨w, _⟩⟩
    · cases h
    · have hw := hts _ (jwC_g _ (List.mem_map.mpr ⟨_, contains_s hok, rfl⟩))
      exact lv_ldcw hx hb hown hw (hd rfl) (hk rfl rfl _ _ _ h ls H locs hl hP hS)
    · cases h
  case ldc2_w n =>
    rcases ex with _ | ⟨v, _ | ⟨w, _⟩⟩
    · cases h
    · have hw := hts _ (jwJ_g _ (List.mem_map.mpr ⟨_, contains_s hok, rfl⟩))
      exact lv_ldc2 hx hb hown hw (hd rfl) (hk rfl rfl _ _ _ h ls H locs hl hP hS)
    · cases h
  case iload_n n =>
    obtain ⟨x, hq, hh⟩ := jq_s h; clear h; have h := hh; clear hh
    exact lv_iload_n hx hb (hd rfl) rfl (j_at_ls (j_atI_s hq) hl) (hk rfl rfl _ _ _ h ls H locs hl hP hS)
  case iload n =>
    obtain ⟨x, hq, hh⟩ := jq_s h; clear h; have h := hh; clear hh
    exact lv_iload hx hb (hd rfl) (j_at_ls (j_atI_s hq) hl) (hk rfl rfl _ _ _ h ls H locs hl hP hS)
  case lload_n n =>
    obtain ⟨x, hq, hh⟩ := jq_s h; clear h; have h := hh; clear hh
    exact lv_lload_n hx hb (hd rfl) rfl (j_at_ls (j_atL_s hq) hl) (hk rfl rfl _ _ _ h ls H locs hl hP hS)
  case lload n =>
    obtain ⟨x, hq, hh⟩ := jq_s h; clear h; have h := hh; clear hh
    exact lv_lload hx hb (hd rfl) (j_at_ls (j_atL_s hq) hl) (hk rfl rfl _ _ _ h ls H locs hl hP hS)
  case aload_n n =>
    obtain ⟨x, hq, hh⟩ := jq_s h; clear h; have h := hh; clear hh
    exact lv_aload_n hx hb (hd rfl) rfl (j_at_ls (j_atR_s hq) hl) (hk rfl rfl _ _ _ h ls H locs hl hP hS)
  case aload n =>
    obtain ⟨x, hq, hh⟩ := jq_s h; clear h; have h := hh; clear hh
    exact lv_aload hx hb (hd rfl) (j_at_ls (j_atR_s hq) hl) (hk rfl rfl _ _ _ h ls H locs hl hP hS)
  case istore_n n =>
    obtain ⟨q, hq, hh⟩ := jq_s h; clear h; have h := hh; clear hh
    have e := p_I_s hq
    subst e
    exact lv_istore_n hx hb (hd rfl) rfl hl (decide_eq_true_eq.mp hok) (tl_st1 α lv _ (.int q.1)) (fun ls' hl' => hk rfl rfl _ _ _ h ls' H locs hl' hP hS)
  case istore n =>
    obtain ⟨q, hq, hh⟩ := jq_s h; clear h; have h := hh; clear hh
    have e := p_I_s hq
    subst e
    exact lv_istore hx hb (hd rfl) hl (decide_eq_true_eq.mp hok) (tl_st1 α lv _ (.int q.1)) (fun ls' hl' => hk rfl rfl _ _ _ h ls' H locs hl' hP hS)
  case lstore_n n =>
    obtain ⟨q, hq, hh⟩ := jq_s h; clear h; have h := hh; clear hh
    have e := p_L_s hq
    subst e
    exact lv_lstore_n hx hb (hd rfl) rfl hl (decide_eq_true_eq.mp hok) (tl_st2 α lv _ (.long q.1)) (fun ls' hl' => hk rfl rfl _ _ _ h ls' H locs hl' hP hS)
  case lstore n =>
    obtain ⟨q, hq, hh⟩ := jq_s h; clear h; have h := hh; clear hh
    have e := p_L_s hq
    subst e
    exact lv_lstore hx hb (hd rfl) hl (decide_eq_true_eq.mp hok) (tl_st2 α lv _ (.long q.1)) (fun ls' hl' => hk rfl rfl _ _ _ h ls' H locs hl' hP hS)
  case astore_n n =>
    obtain ⟨q, hq, hh⟩ := jq_s h; clear h; have h := hh; clear hh
    have e := p_R_s hq
    subst e
    exact lv_astore_n hx hb (hd rfl) rfl hl (decide_eq_true_eq.mp hok) (tl_st1 α lv _ (.ref q.1)) (fun ls' hl' => hk rfl rfl _ _ _ h ls' H locs hl' hP hS)
  case astore n =>
    obtain ⟨q, hq, hh⟩ := jq_s h; clear h; have h := hh; clear hh
    have e := p_R_s hq
    subst e
    exact lv_astore hx hb (hd rfl) hl (decide_eq_true_eq.mp hok) (tl_st1 α lv _ (.ref q.1)) (fun ls' hl' => hk rfl rfl _ _ _ h ls' H locs hl' hP hS)
  case iinc n cst =>
    obtain ⟨x, hq, hh⟩ := jq_s h; clear h; have h := hh; clear hh
    have hm := j_at_mem (j_atI_s hq)
    have hm2 : (n, Value.int x) ∈ tl α lv := List.mem_map.mpr ⟨_, hm, rfl⟩
    obtain ⟨kk, hkk⟩ := List.getElem?_of_mem hm2
    exact lv_iinc hx hb (hd rfl) hl hkk rfl (decide_eq_true_eq.mp hok) (tl_st1 α lv _ (.int (x + Int32.ofInt cst))) (fun ls' hl' => hk rfl rfl _ _ _ h ls' H locs hl' hP hS)
  case iadd =>
    obtain ⟨q, hq, hh⟩ := jq_s h; clear h; have h := hh; clear hh
    have e := p_II_s hq
    subst e
    exact lv_iadd hx hb (hd rfl) (hk rfl rfl _ _ _ h ls H locs hl hP hS)
  case isub =>
    obtain ⟨q, hq, hh⟩ := jq_s h; clear h; have h := hh; clear hh
    have e := p_II_s hq
    subst e
    exact lv_isub hx hb (hd rfl) (hk rfl rfl _ _ _ h ls H locs hl hP hS)
  case imul =>
    obtain ⟨q, hq, hh⟩ := jq_s h; clear h; have h := hh; clear hh
    have e := p_II_s hq
    subst e
    exact lv_imul hx hb (hd rfl) (hk rfl rfl _ _ _ h ls H locs hl hP hS)
  case iand =>
    obtain ⟨q, hq, hh⟩ := jq_s h; clear h; have h := hh; clear hh
    have e := p_II_s hq
    subst e
    exact lv_iand hx hb (hd rfl) (hk rfl rfl _ _ _ h ls H locs hl hP hS)
  case ior =>
    obtain ⟨q, hq, hh⟩ := jq_s h; clear h; have h := hh; clear hh
    have e := p_II_s hq
    subst e
    exact lv_ior hx hb (hd rfl) (hk rfl rfl _ _ _ h ls H locs hl hP hS)
  case ishl =>
    obtain ⟨q, hq, hh⟩ := jq_s h; clear h; have h := hh; clear hh
    have e := p_II_s hq
    subst e
    exact lv_ishl hx hb (hd rfl) (hk rfl rfl _ _ _ h ls H locs hl hP hS)
  case ishr =>
    obtain ⟨q, hq, hh⟩ := jq_s h; clear h; have h := hh; clear hh
    have e := p_II_s hq
    subst e
    exact lv_ishr hx hb (hd rfl) (hk rfl rfl _ _ _ h ls H locs hl hP hS)
  case iushr =>
    obtain ⟨q, hq, hh⟩ := jq_s h; clear h; have h := hh; clear hh
    have e := p_II_s hq
    subst e
    exact lv_iushr hx hb (hd rfl) rfl (hk rfl rfl _ _ _ h ls H locs hl hP hS)
  case idiv =>
    obtain ⟨q, hq, hh⟩ := jq_s h; clear h; have h := hh; clear hh
    have e := p_II_s hq
    subst e
    by_cases h0 : q.2.1 = 0
    · rw [if_pos h0] at h; cases h
    · rw [if_neg h0] at h
      exact lv_idiv hx hb (hd rfl) h0 (hk rfl rfl _ _ _ h ls H locs hl hP hS)
  case irem =>
    obtain ⟨q, hq, hh⟩ := jq_s h; clear h; have h := hh; clear hh
    have e := p_II_s hq
    subst e
    by_cases h0 : q.2.1 = 0
    · rw [if_pos h0] at h; cases h
    · rw [if_neg h0] at h
      exact lv_irem hx hb (hd rfl) h0 (hk rfl rfl _ _ _ h ls H locs hl hP hS)
  case ladd =>
    obtain ⟨q, hq, hh⟩ := jq_s h; clear h; have h := hh; clear hh
    have e := p_LL_s hq
    subst e
    exact lv_ladd hx hb (hd rfl) (hk rfl rfl _ _ _ h ls H locs hl hP hS)
  case lsub =>
    obtain ⟨q, hq, hh⟩ := jq_s h; clear h; have h := hh; clear hh
    have e := p_LL_s hq
    subst e
    exact lv_lsub hx hb (hd rfl) (hk rfl rfl _ _ _ h ls H locs hl hP hS)
  case lmul =>
    obtain ⟨q, hq, hh⟩ := jq_s h; clear h; have h := hh; clear hh
    have e := p_LL_s hq
    subst e
    exact lv_lmul hx hb (hd rfl) (hk rfl rfl _ _ _ h ls H locs hl hP hS)
  case land =>
    obtain ⟨q, hq, hh⟩ := jq_s h; clear h; have h := hh; clear hh
    have e := p_LL_s hq
    subst e
    exact lv_land hx hb (hd rfl) (hk rfl rfl _ _ _ h ls H locs hl hP hS)
  case lor =>
    obtain ⟨q, hq, hh⟩ := jq_s h; clear h; have h := hh; clear hh
    have e := p_LL_s hq
    subst e
    exact lv_lor hx hb (hd rfl) (hk rfl rfl _ _ _ h ls H locs hl hP hS)
  case ldiv =>
    obtain ⟨q, hq, hh⟩ := jq_s h; clear h; have h := hh; clear hh
    have e := p_LL_s hq
    subst e
    by_cases h0 : q.2.1 = 0
    · rw [if_pos h0] at h; cases h
    · rw [if_neg h0] at h
      exact lv_ldiv hx hb (hd rfl) h0 (hk rfl rfl _ _ _ h ls H locs hl hP hS)
  case lrem =>
    obtain ⟨q, hq, hh⟩ := jq_s h; clear h; have h := hh; clear hh
    have e := p_LL_s hq
    subst e
    by_cases h0 : q.2.1 = 0
    · rw [if_pos h0] at h; cases h
    · rw [if_neg h0] at h
      exact lv_lrem hx hb (hd rfl) h0 (hk rfl rfl _ _ _ h ls H locs hl hP hS)
  case lneg =>
    obtain ⟨q, hq, hh⟩ := jq_s h; clear h; have h := hh; clear hh
    have e := p_L_s hq
    subst e
    exact lv_lneg hx hb (hd rfl) (hk rfl rfl _ _ _ h ls H locs hl hP hS)
  case lcmp =>
    obtain ⟨q, hq, hh⟩ := jq_s h; clear h; have h := hh; clear hh
    have e := p_LL_s hq
    subst e
    exact W.lcmp hx hb (hd rfl) (hk rfl rfl _ _ _ h ls H locs hl hP hS)
  case lshl =>
    obtain ⟨q, hq, hh⟩ := jq_s h; clear h; have h := hh; clear hh
    have e := p_LI_s hq
    subst e
    exact lv_lshl hx hb (hd rfl) rfl (hk rfl rfl _ _ _ h ls H locs hl hP hS)
  case lshr =>
    obtain ⟨q, hq, hh⟩ := jq_s h; clear h; have h := hh; clear hh
    have e := p_LI_s hq
    subst e
    exact lv_lshr hx hb (hd rfl) rfl (hk rfl rfl _ _ _ h ls H locs hl hP hS)
  case lushr =>
    obtain ⟨q, hq, hh⟩ := jq_s h; clear h; have h := hh; clear hh
    have e := p_LI_s hq
    subst e
    exact lv_lushr hx hb (hd rfl) rfl (hk rfl rfl _ _ _ h ls H locs hl hP hS)
  case i2l =>
    obtain ⟨q, hq, hh⟩ := jq_s h; clear h; have h := hh; clear hh
    have e := p_I_s hq
    subst e
    exact lv_i2l hx hb (hd rfl) rfl (hk rfl rfl _ _ _ h ls H locs hl hP hS)
  case l2i =>
    obtain ⟨q, hq, hh⟩ := jq_s h; clear h; have h := hh; clear hh
    have e := p_L_s hq
    subst e
    exact lv_l2i hx hb (hd rfl) rfl (hk rfl rfl _ _ _ h ls H locs hl hP hS)
  case i2c =>
    obtain ⟨q, hq, hh⟩ := jq_s h; clear h; have h := hh; clear hh
    have e := p_I_s hq
    subst e
    exact lv_i2c hx hb (hd rfl) rfl (hk rfl rfl _ _ _ h ls H locs hl hP hS)
  case dup =>
    obtain ⟨q, hq, hh⟩ := jq_s h; clear h; have h := hh; clear hh
    obtain ⟨e, hc1⟩ := p_1_s hq
    subst e
    exact lv_dup hx hb (hd rfl) (by rw [tv_cat]; exact hc1) (hk rfl rfl _ _ _ h ls H locs hl hP hS)
  case pop =>
    obtain ⟨q, hq, hh⟩ := jq_s h; clear h; have h := hh; clear hh
    obtain ⟨e, hc1⟩ := p_1_s hq
    subst e
    exact lv_pop hx hb (hd rfl) (by rw [tv_cat]; exact hc1) (hk rfl rfl _ _ _ h ls H locs hl hP hS)
  case dup2 =>
    obtain ⟨q, hq, hh⟩ := jq_s h; clear h; have h := hh; clear hh
    obtain ⟨e, hc1, hc2⟩ := p_11_s hq
    subst e
    exact lv_dup2_11 hx hb (hd rfl) (by rw [tv_cat]; exact hc2) (by rw [tv_cat]; exact hc1) (hk rfl rfl _ _ _ h ls H locs hl hP hS)
  case iaload =>
    rcases ex with _ | ⟨y, _ | ⟨w, _⟩⟩
    · obtain ⟨q, hq, hh⟩ := jq_s h; clear h; have h := hh; clear hh
      obtain ⟨x, hr, hh⟩ := Option.bind_eq_some_iff.mp h; clear h; have h := hh; clear hh
      have e := p_RI_s hq
      subst e
      obtain ⟨n, hn, hin, e⟩ := j_rdI_s hr
      subst e
      exact va_iald hx hb hKw hP q.1 0 (jP_get hn) rfl hin (hd rfl) (hk rfl rfl _ _ _ h ls H locs hl hP hS)
    · obtain ⟨q, hq, hh⟩ := jq_s h; clear h; have h := hh; clear hh
      obtain ⟨h20, hh⟩ := jc_s h; clear h; have h := hh; clear hh
      obtain ⟨w, hw, hh⟩ := Option.bind_eq_some_iff.mp h; clear h; have h := hh; clear hh
      have e := p_RI_s hq
      subst e
      have hok : (scr && decide (y = 9998)) = true := hok
      rw [Bool.and_eq_true, decide_eq_true_eq] at hok
      obtain ⟨hs1, hs2⟩ := hok
      subst hs2
      obtain ⟨L, xs, hX, hbl, hbA, hrd, -⟩ := hSc hs1
      obtain ⟨hin, e⟩ := hrd _ _ _ hw
      subst e
      have e2 : q.1 = 2000 := beq_iff_eq.mp h20
      show W p l e R s m args below meth c H locs cells slots Q (F0 m pc ls (.int q.2.1 :: .ref (α q.1) :: q.2.2.map (tv α)))
      rw [e2]
      exact va_sld hx hb hX hbl hbA hS hin (hd rfl) (hk rfl rfl _ _ _ h ls H locs hl hP hS)
    · cases h
  case baload =>
    obtain ⟨q, hq, hh⟩ := jq_s h; clear h; have h := hh; clear hh
    obtain ⟨x, hr, hh⟩ := Option.bind_eq_some_iff.mp h; clear h; have h := hh; clear hh
    have e := p_RI_s hq
    subst e
    obtain ⟨n, hn, hin, e⟩ := j_rdI_s hr
    subst e
    exact va_zald hx hb hKw hP q.1 1 (jP_get hn) rfl hin (hd rfl) (hk rfl rfl _ _ _ h ls H locs hl hP hS)
  case laload =>
    obtain ⟨q, hq, hh⟩ := jq_s h; clear h; have h := hh; clear hh
    obtain ⟨x, hr, hh⟩ := Option.bind_eq_some_iff.mp h; clear h; have h := hh; clear hh
    have e := p_RI_s hq
    subst e
    obtain ⟨n, hn, hin, e⟩ := j_rdL_s hr
    subst e
    exact va_lald hx hb hKw hP q.1 2 (jP_get hn) rfl hin (hd rfl) (hk rfl rfl _ _ _ h ls H locs hl hP hS)
  case iastore =>
    obtain ⟨q, hq, hh⟩ := jq_s h; clear h; have h := hh; clear hh
    obtain ⟨x, hr, hh⟩ := Option.bind_eq_some_iff.mp h; clear h; have h := hh; clear hh
    have e := p_RII_s hq
    subst e
    obtain ⟨n, hn, hin, e⟩ := j_wrI_s hr
    subst e
    exact va_iast hx hb hKw hP (hDD σ) hS q.1 0 (jP_get hn) rfl hin (hd rfl) (fun H1 locs1 hP1 _ hS1 => hk rfl rfl _ _ _ h ls H1 locs1 hl (by rw [← jP_setI 0 (Or.inl rfl) hn]; exact hP1) hS1)
  case bastore =>
    obtain ⟨q, hq, hh⟩ := jq_s h; clear h; have h := hh; clear hh
    obtain ⟨x, hr, hh⟩ := Option.bind_eq_some_iff.mp h; clear h; have h := hh; clear hh
    have e := p_RII_s hq
    subst e
    obtain ⟨n, hn, hin, hz01, e⟩ := j_wrZ_s hr
    subst e
    refine va_zast hx hb hKw hP (hDD σ) hS q.1 1 (jP_get hn) rfl hin (hd rfl) (fun H1 locs1 hP1 _ hS1 => hk rfl rfl _ _ _ h ls H1 locs1 hl ?_ hS1)
    rw [(vp_nar_b hz01).1] at hP1
    rw [← jP_setI 1 (Or.inr rfl) hn]
    exact hP1
  case lastore =>
    obtain ⟨q, hq, hh⟩ := jq_s h; clear h; have h := hh; clear hh
    obtain ⟨x, hr, hh⟩ := Option.bind_eq_some_iff.mp h; clear h; have h := hh; clear hh
    have e := p_RIL_s hq
    subst e
    obtain ⟨n, hn, hin, e⟩ := j_wrL_s hr
    subst e
    exact va_last hx hb hKw hP (hDD σ) hS q.1 2 (jP_get hn) rfl hin (hd rfl) (fun H1 locs1 hP1 _ hS1 => hk rfl rfl _ _ _ h ls H1 locs1 hl (by rw [← jP_setL hn]; exact hP1) hS1)
  case arraylength =>
    rcases ex with _ | ⟨y, _ | ⟨w, _⟩⟩
    · obtain ⟨q, hq, hh⟩ := jq_s h; clear h; have h := hh; clear hh
      obtain ⟨n, hn, hh⟩ := Option.bind_eq_some_iff.mp h; clear h; have h := hh; clear hh
      have e := p_R_s hq
      subst e
      exact va_alen hx hb hKw hP q.1 0 (jP_get (j_len_sh hn)) rfl rfl (hd rfl) (hk rfl rfl _ _ _ h ls H locs hl hP hS)
    · obtain ⟨q, hq, hh⟩ := jq_s h; clear h; have h := hh; clear hh
      obtain ⟨h20, hh⟩ := jc_s h; clear h; have h := hh; clear hh
      obtain ⟨w, hw, hh⟩ := Option.bind_eq_some_iff.mp h; clear h; have h := hh; clear hh
      have e := p_R_s hq
      subst e
      have hok : (scr && decide (y = 9999)) = true := hok
      rw [Bool.and_eq_true, decide_eq_true_eq] at hok
      obtain ⟨hs1, hs2⟩ := hok
      subst hs2
      obtain ⟨L, xs, hX, hbl, hbA, -, hrd⟩ := hSc hs1
      have e := hrd _ _ hw
      subst e
      have e2 : q.1 = 2000 := beq_iff_eq.mp h20
      show W p l e R s m args below meth c H locs cells slots Q (F0 m pc ls (.ref (α q.1) :: q.2.map (tv α)))
      rw [e2]
      exact va_slen hx hb hX hbl hbA hS (hd rfl) (hk rfl rfl _ _ _ h ls H locs hl hP hS)
    · cases h
  case goto off =>
    rcases ex with _ | ⟨t, _ | ⟨w, _⟩⟩
    · cases h
    · obtain ⟨q, hq, ht⟩ := j_tgt_s hok
      exact lv_goto hx hb (hd rfl) ht (hK _ _ _ _ _ h hq ls H locs hl hP hS)
    · cases h
  case ifCond cnd off =>
    rcases ex with _ | ⟨t, _ | ⟨w, _⟩⟩
    · cases h
    · obtain ⟨tq, htq, ht⟩ := j_tgt_s hok
      obtain ⟨q, hq, hh⟩ := jq_s h; clear h; have h := hh; clear hh
      have e := p_I_s hq
      subst e
      cases cnd
      case eq => exact lv_if_eq hx hb (hd rfl) ht (fun hc => hK _ _ _ _ _ (by dsimp only [jif] at h; rw [if_pos hc] at h; exact h) htq ls H locs hl hP hS) (fun hc => hk rfl rfl _ _ _ (by dsimp only [jif] at h; rw [if_neg hc] at h; exact h) ls H locs hl hP hS)
      case ne => exact lv_if_ne hx hb (hd rfl) ht (fun hc => hK _ _ _ _ _ (by dsimp only [jif] at h; rw [if_neg hc] at h; exact h) htq ls H locs hl hP hS) (fun hc => hk rfl rfl _ _ _ (by dsimp only [jif] at h; rw [if_pos hc] at h; exact h) ls H locs hl hP hS)
      case lt => exact lv_if_lt hx hb (hd rfl) ht (fun hc => hK _ _ _ _ _ (by dsimp only [jif] at h; rw [if_pos hc] at h; exact h) htq ls H locs hl hP hS) (fun hc => hk rfl rfl _ _ _ (by dsimp only [jif] at h; rw [if_neg hc] at h; exact h) ls H locs hl hP hS)
      case ge => exact lv_if_ge hx hb (hd rfl) ht (fun hc => hK _ _ _ _ _ (by dsimp only [jif] at h; rw [if_pos hc] at h; exact h) htq ls H locs hl hP hS) (fun hc => hk rfl rfl _ _ _ (by dsimp only [jif] at h; rw [if_neg hc] at h; exact h) ls H locs hl hP hS)
      case gt => exact lv_if_gt hx hb (hd rfl) ht (fun hc => hK _ _ _ _ _ (by dsimp only [jif] at h; rw [if_pos hc] at h; exact h) htq ls H locs hl hP hS) (fun hc => hk rfl rfl _ _ _ (by dsimp only [jif] at h; rw [if_neg hc] at h; exact h) ls H locs hl hP hS)
      case le => exact lv_if_le hx hb (hd rfl) ht (fun hc => hK _ _ _ _ _ (by dsimp only [jif] at h; rw [if_pos hc] at h; exact h) htq ls H locs hl hP hS) (fun hc => hk rfl rfl _ _ _ (by dsimp only [jif] at h; rw [if_neg hc] at h; exact h) ls H locs hl hP hS)
    · cases h
  case if_icmp cnd off =>
    rcases ex with _ | ⟨t, _ | ⟨w, _⟩⟩
    · cases h
    · obtain ⟨tq, htq, ht⟩ := j_tgt_s hok
      obtain ⟨q, hq, hh⟩ := jq_s h; clear h; have h := hh; clear hh
      have e := p_II_s hq
      subst e
      cases cnd
      case eq => exact lv_icmp_eq hx hb (hd rfl) ht (fun hc => hK _ _ _ _ _ (by dsimp only [jif] at h; rw [if_pos hc] at h; exact h) htq ls H locs hl hP hS) (fun hc => hk rfl rfl _ _ _ (by dsimp only [jif] at h; rw [if_neg hc] at h; exact h) ls H locs hl hP hS)
      case ne => exact lv_icmp_ne hx hb (hd rfl) ht (fun hc => hK _ _ _ _ _ (by dsimp only [jif] at h; rw [if_neg hc] at h; exact h) htq ls H locs hl hP hS) (fun hc => hk rfl rfl _ _ _ (by dsimp only [jif] at h; rw [if_pos hc] at h; exact h) ls H locs hl hP hS)
      case lt => exact lv_icmp_lt hx hb (hd rfl) ht (fun hc => hK _ _ _ _ _ (by dsimp only [jif] at h; rw [if_pos hc] at h; exact h) htq ls H locs hl hP hS) (fun hc => hk rfl rfl _ _ _ (by dsimp only [jif] at h; rw [if_neg hc] at h; exact h) ls H locs hl hP hS)
      case ge => exact lv_icmp_ge hx hb (hd rfl) ht (fun hc => hK _ _ _ _ _ (by dsimp only [jif] at h; rw [if_pos hc] at h; exact h) htq ls H locs hl hP hS) (fun hc => hk rfl rfl _ _ _ (by dsimp only [jif] at h; rw [if_neg hc] at h; exact h) ls H locs hl hP hS)
      case gt => exact lv_icmp_gt hx hb (hd rfl) ht (fun hc => hK _ _ _ _ _ (by dsimp only [jif] at h; rw [if_pos hc] at h; exact h) htq ls H locs hl hP hS) (fun hc => hk rfl rfl _ _ _ (by dsimp only [jif] at h; rw [if_neg hc] at h; exact h) ls H locs hl hP hS)
      case le => exact lv_icmp_le hx hb (hd rfl) ht (fun hc => hK _ _ _ _ _ (by dsimp only [jif] at h; rw [if_pos hc] at h; exact h) htq ls H locs hl hP hS) (fun hc => hk rfl rfl _ _ _ (by dsimp only [jif] at h; rw [if_neg hc] at h; exact h) ls H locs hl hP hS)
    · cases h
  case tableswitch d lo hi offs =>
    rcases ex with _ | ⟨t, ts⟩
    · cases h
    · have hok : (j_tgt B t pc d && j_tgts B pc ts offs.toList && decide (hi + 1 = lo + ts.length) && decide (-2147483648 ≤ lo) && decide (hi < 2147483648)) = true := hok
      simp only [Bool.and_eq_true, decide_eq_true_eq] at hok
      obtain ⟨⟨⟨⟨o1, o2⟩, o3⟩, o4⟩, o5⟩ := hok
      obtain ⟨q, hq, hh⟩ := jq_s h; clear h; have h := hh; clear hh
      have e := p_I_s hq
      subst e
      obtain ⟨len, hdl⟩ := hd0
      obtain ⟨l1, l2⟩ := j_tgts_s _ _ o2
      rcases sw_table ts lo o4 (by omega) h with ⟨kq, b, hb1, hx1, hf⟩ | ⟨hx1, hf⟩
      · obtain ⟨off, hoff, htg⟩ := l2 kq b hb1
        obtain ⟨tq, htq, ht⟩ := j_tgt_s htg
        have hkl : kq < ts.length := (List.getElem?_eq_some_iff.mp hb1).1
        refine lv_tableIn hx hb hdl (by omega) (by omega) (off := off) ?_ ht (hK _ _ _ _ _ hf htq ls H locs hl hP hS)
        have e3 : (q.1.toInt - lo).toNat = kq := by omega
        rw [e3, ← Array.getElem?_toList]
        exact hoff
      · obtain ⟨tq, htq, ht⟩ := j_tgt_s o1
        exact lv_tableOut hx hb hdl (by omega) ht (hK _ _ _ _ _ hf htq ls H locs hl hP hS)
  case lookupswitch d ps =>
    rcases ex with _ | ⟨t, ts⟩
    · cases h
    · have hok : (j_tgt B t pc d && j_tgts B pc ts (ps.toList.map fun q => q.2) && ((ps.toList.zip (ps.toList.drop 1)).all (fun (a, next) => a.1 < next.1)) && ps.toList.all (fun q => decide (-2147483648 ≤ q.1) && decide (q.1 < 2147483648))) = true := hok
      rw [Bool.and_eq_true, Bool.and_eq_true, Bool.and_eq_true] at hok
      obtain ⟨⟨⟨o1, o2⟩, o3⟩, o4⟩ := hok
      obtain ⟨q, hq, hh⟩ := jq_s h; clear h; have h := hh; clear hh
      have e := p_I_s hq
      subst e
      obtain ⟨len, hdl⟩ := hd0
      obtain ⟨l1, l2⟩ := j_tgts_s _ _ o2
      rcases sw_look (dflt := d) ps.toList ts (by rw [l1, List.length_map]) o4 h with ⟨kq, b, off, hb1, ho1, ho2, hf⟩ | ⟨ho2, hf⟩
      · obtain ⟨off', hoff, htg⟩ := l2 kq b hb1
        have e4 : off' = off := Option.some.inj (hoff.symm.trans ho1)
        subst e4
        obtain ⟨tq, htq, ht⟩ := j_tgt_s htg
        exact lv_lookup hx hb hdl o3 ho2 ht (hK _ _ _ _ _ hf htq ls H locs hl hP hS)
      · obtain ⟨tq, htq, ht⟩ := j_tgt_s o1
        exact lv_lookup hx hb hdl o3 ho2 ht (hK _ _ _ _ _ hf htq ls H locs hl hP hS)
  case getfield idx =>
    unfold js at h
    dsimp only at h
    split at h
    · rename_i ci f
      have hok : (jLF.contains (own, idx, ci, f) && decide ((j_fk ci)[f]? = some 0)) = true := hok
      rw [Bool.and_eq_true, decide_eq_true_eq] at hok
      obtain ⟨o1, o2⟩ := hok
      obtain ⟨q, hq, hh⟩ := jq_s h; clear h; have h := hh; clear hh
      obtain ⟨hi, hh⟩ := jc_s h; clear h; have h := hh; clear hh
      have e := p_R_s hq
      subst e
      obtain ⟨hci, hf, -⟩ := jfk_s o2
      obtain ⟨c1, c2, c3, c4, c5⟩ := jc_ok ci hci
      have hw := hts _ (jwF_g _ (List.mem_map.mpr ⟨_, contains_s o1, rfl⟩))
      exact va_get hx hb hts c2 hown hKw hP q.1 (jP_get (j_is_sh hi)) c1 f hf hw (fun _ h => h) (j_fs_get o2) (hd rfl) (hk rfl rfl _ _ _ h ls H locs hl hP hS)
    · rename_i ci f
      have hok : (jLF.contains (own, idx, ci, f) && decide ((j_fk ci)[f]? = some 1)) = true := hok
      rw [Bool.and_eq_true, decide_eq_true_eq] at hok
      obtain ⟨o1, o2⟩ := hok
      obtain ⟨q, hq, hh⟩ := jq_s h; clear h; have h := hh; clear hh
      obtain ⟨hi, hh⟩ := jc_s h; clear h; have h := hh; clear hh
      have e := p_R_s hq
      subst e
      obtain ⟨hci, hf, -⟩ := jfk_s o2
      obtain ⟨c1, c2, c3, c4, c5⟩ := jc_ok ci hci
      have hw := hts _ (jwF_g _ (List.mem_map.mpr ⟨_, contains_s o1, rfl⟩))
      exact va_get hx hb hts c2 hown hKw hP q.1 (jP_get (j_is_sh hi)) c1 f hf hw (fun _ h => h) (j_fs_get o2) (hd rfl) (hk rfl rfl _ _ _ h ls H locs hl hP hS)
    · rename_i ci f
      have hok : (jLF.contains (own, idx, ci, f) && decide ((j_fk ci)[f]? = some 2)) = true := hok
      rw [Bool.and_eq_true, decide_eq_true_eq] at hok
      obtain ⟨o1, o2⟩ := hok
      obtain ⟨q, hq, hh⟩ := jq_s h; clear h; have h := hh; clear hh
      obtain ⟨hi, hh⟩ := jc_s h; clear h; have h := hh; clear hh
      have e := p_R_s hq
      subst e
      obtain ⟨hci, hf, -⟩ := jfk_s o2
      obtain ⟨c1, c2, c3, c4, c5⟩ := jc_ok ci hci
      have hw := hts _ (jwF_g _ (List.mem_map.mpr ⟨_, contains_s o1, rfl⟩))
      exact va_get hx hb hts c2 hown hKw hP q.1 (jP_get (j_is_sh hi)) c1 f hf hw (fun _ h => h) (j_fs_get o2) (hd rfl) (hk rfl rfl _ _ _ h ls H locs hl hP hS)
    · rename_i ci f
      have hok : (jLF.contains (own, idx, ci, f) && decide ((j_fk ci)[f]? = some 3)) = true := hok
      rw [Bool.and_eq_true, decide_eq_true_eq] at hok
      obtain ⟨o1, o2⟩ := hok
      obtain ⟨q, hq, hh⟩ := jq_s h; clear h; have h := hh; clear hh
      obtain ⟨hi, hh⟩ := jc_s h; clear h; have h := hh; clear hh
      have e := p_R_s hq
      subst e
      obtain ⟨hci, hf, -⟩ := jfk_s o2
      obtain ⟨c1, c2, c3, c4, c5⟩ := jc_ok ci hci
      have hw := hts _ (jwF_g _ (List.mem_map.mpr ⟨_, contains_s o1, rfl⟩))
      exact va_get hx hb hts c2 hown hKw hP q.1 (jP_get (j_is_sh hi)) c1 f hf hw (fun _ h => h) (j_fs_get o2) (hd rfl) (hk rfl rfl _ _ _ h ls H locs hl hP hS)
    · rename_i ci f
      have hok : (jLF.contains (own, idx, ci, f) && decide ((j_fk ci)[f]? = some 4)) = true := hok
      rw [Bool.and_eq_true, decide_eq_true_eq] at hok
      obtain ⟨o1, o2⟩ := hok
      obtain ⟨q, hq, hh⟩ := jq_s h; clear h; have h := hh; clear hh
      obtain ⟨hi, hh⟩ := jc_s h; clear h; have h := hh; clear hh
      have e := p_R_s hq
      subst e
      obtain ⟨hci, hf, -⟩ := jfk_s o2
      obtain ⟨c1, c2, c3, c4, c5⟩ := jc_ok ci hci
      have hw := hts _ (jwF_g _ (List.mem_map.mpr ⟨_, contains_s o1, rfl⟩))
      exact va_get hx hb hts c2 hown hKw hP q.1 (jP_get (j_is_sh hi)) c1 f hf hw (fun _ h => h) (j_fs_get o2) (hd rfl) (hk rfl rfl _ _ _ h ls H locs hl hP hS)
    · cases h
  case putfield idx =>
    unfold js at h
    dsimp only at h
    split at h
    · rename_i ci f
      have hok : (jLF.contains (own, idx, ci, f) && decide ((j_fk ci)[f]? = some 0)) = true := hok
      rw [Bool.and_eq_true, decide_eq_true_eq] at hok
      obtain ⟨o1, o2⟩ := hok
      obtain ⟨q, hq, hh⟩ := jq_s h; clear h; have h := hh; clear hh
      obtain ⟨hi, hh⟩ := jc_s h; clear h; have h := hh; clear hh
      have e := p_RI_s hq
      subst e
      obtain ⟨hci, hf, t0, t1, t2, t3⟩ := jfk_s o2
      obtain ⟨c1, c2, c3, c4, c5⟩ := jc_ok ci hci
      have hw := hts _ (jwF_g _ (List.mem_map.mpr ⟨_, contains_s o1, rfl⟩))
      have hlen : f < (j_fs α σ q.1 ci).length := (List.getElem?_eq_some_iff.mp (j_fs_get (α := α) (σ := σ) (a := q.1) o2)).1
      exact va_put (ty := .int) hx hb hts c2 (jyy ci) c4 c3 hown hKw hP (hDD σ) hS q.1 (jP_get (j_is_sh hi)) c1 f hf hw (fun _ h => h) (t0 rfl).2 (by rw [c4 f hf, (t0 rfl).1]) rfl rfl hlen (hd rfl) (fun H1 locs1 hP1 _ hS1 => hk rfl rfl _ _ _ h ls H1 locs1 hl (by rw [← (jP_putI (j_is_sh hi) o2 (Or.inl rfl))]; exact hP1) hS1)
    · rename_i ci f
      have hok : (jLF.contains (own, idx, ci, f) && decide ((j_fk ci)[f]? = some 1)) = true := hok
      rw [Bool.and_eq_true, decide_eq_true_eq] at hok
      obtain ⟨o1, o2⟩ := hok
      obtain ⟨q, hq, hh⟩ := jq_s h; clear h; have h := hh; clear hh
      obtain ⟨hi, hh⟩ := jc_s h; clear h; have h := hh; clear hh
      have e := p_RI_s hq
      subst e
      have h01 : q.2.1 = 0 ∨ q.2.1 = 1 := by
        rcases Decidable.em (q.2.1 = 0 ∨ q.2.1 = 1) with g | g
        · exact g
        · rw [if_neg g] at h; cases h
      rw [if_pos h01] at h
      obtain ⟨hci, hf, t0, t1, t2, t3⟩ := jfk_s o2
      obtain ⟨c1, c2, c3, c4, c5⟩ := jc_ok ci hci
      have hw := hts _ (jwF_g _ (List.mem_map.mpr ⟨_, contains_s o1, rfl⟩))
      have hlen : f < (j_fs α σ q.1 ci).length := (List.getElem?_eq_some_iff.mp (j_fs_get (α := α) (σ := σ) (a := q.1) o2)).1
      exact va_put (ty := .boolean) hx hb hts c2 (jyy ci) c4 c3 hown hKw hP (hDD σ) hS q.1 (jP_get (j_is_sh hi)) c1 f hf hw (fun _ h => h) (t1 rfl).2 (by rw [c4 f hf, (t1 rfl).1]) (vp_nar_b h01).2.1 (vp_nar_b h01).2.2 hlen (hd rfl) (fun H1 locs1 hP1 _ hS1 => hk rfl rfl _ _ _ h ls H1 locs1 hl (by rw [← (jP_putI (j_is_sh hi) o2 (Or.inr rfl))]; exact hP1) hS1)
    · rename_i ci f
      have hok : (jLF.contains (own, idx, ci, f) && decide ((j_fk ci)[f]? = some 2)) = true := hok
      rw [Bool.and_eq_true, decide_eq_true_eq] at hok
      obtain ⟨o1, o2⟩ := hok
      obtain ⟨q, hq, hh⟩ := jq_s h; clear h; have h := hh; clear hh
      obtain ⟨hi, hh⟩ := jc_s h; clear h; have h := hh; clear hh
      have e := p_RL_s hq
      subst e
      obtain ⟨hci, hf, t0, t1, t2, t3⟩ := jfk_s o2
      obtain ⟨c1, c2, c3, c4, c5⟩ := jc_ok ci hci
      have hw := hts _ (jwF_g _ (List.mem_map.mpr ⟨_, contains_s o1, rfl⟩))
      have hlen : f < (j_fs α σ q.1 ci).length := (List.getElem?_eq_some_iff.mp (j_fs_get (α := α) (σ := σ) (a := q.1) o2)).1
      exact va_put (ty := .long) hx hb hts c2 (jyy ci) c4 c3 hown hKw hP (hDD σ) hS q.1 (jP_get (j_is_sh hi)) c1 f hf hw (fun _ h => h) (t2 rfl).2 (by rw [c4 f hf, (t2 rfl).1]) rfl rfl hlen (hd rfl) (fun H1 locs1 hP1 _ hS1 => hk rfl rfl _ _ _ h ls H1 locs1 hl (by rw [← (jP_putL (j_is_sh hi) o2)]; exact hP1) hS1)
    · rename_i ci f
      have hok : (jLF.contains (own, idx, ci, f) && decide ((j_fk ci)[f]? = some 3)) = true := hok
      rw [Bool.and_eq_true, decide_eq_true_eq] at hok
      obtain ⟨o1, o2⟩ := hok
      obtain ⟨q, hq, hh⟩ := jq_s h; clear h; have h := hh; clear hh
      obtain ⟨hi, hh⟩ := jc_s h; clear h; have h := hh; clear hh
      have e := p_RR_s hq
      subst e
      obtain ⟨hci, hf, t0, t1, t2, t3⟩ := jfk_s o2
      obtain ⟨c1, c2, c3, c4, c5⟩ := jc_ok ci hci
      have hw := hts _ (jwF_g _ (List.mem_map.mpr ⟨_, contains_s o1, rfl⟩))
      have hlen : f < (j_fs α σ q.1 ci).length := (List.getElem?_eq_some_iff.mp (j_fs_get (α := α) (σ := σ) (a := q.1) o2)).1
      exact va_put (ty := .object (jrr 6)) hx hb hts c2 (jyy ci) c4 c3 hown hKw hP (hDD σ) hS q.1 (jP_get (j_is_sh hi)) c1 f hf hw (fun _ h => h) (t3 rfl).2 (by rw [c4 f hf, (t3 rfl).1]) rfl rfl hlen (hd rfl) (fun H1 locs1 hP1 _ hS1 => hk rfl rfl _ _ _ h ls H1 locs1 hl (by rw [← (jP_putR (j_is_sh hi) o2)]; exact hP1) hS1)
    · cases h
  case invokevirtual idx =>
    unfold js at h
    dsimp only at h
    split at h
    · obtain ⟨q, hq, hh⟩ := jq_s h; clear h; have h := hh; clear hh
      obtain ⟨z, hz1, hh⟩ := Option.bind_eq_some_iff.mp h; clear h; have h := hh; clear hh
      obtain ⟨hrm, hh⟩ := jc_s h; clear h; have h := hh; clear hh
      have e := p_R_s hq
      subst e
      have hok : (decide (901 = 901) && jLX.contains (own, idx, 901)) = true := hok
      rw [Bool.and_eq_true] at hok
      exact hT.2.1 pc idx q.1 z ls H locs _ hl.1 (contains_s hok.2) hz1 (by rw [tv_cats]; exact ble_s hrm) (hd rfl) hS (hk rfl rfl _ _ _ h ls H locs hl hP hS)
    · obtain ⟨q, hq, hh⟩ := jq_s h; clear h; have h := hh; clear hh
      obtain ⟨z, hz1, hh⟩ := Option.bind_eq_some_iff.mp h; clear h; have h := hh; clear hh
      by_cases hin : q.2.1 < 0 ∨ z.length ≤ q.2.1.toNatClampNeg
      · rw [if_pos hin] at h; cases h
      rw [if_neg hin] at h
      obtain ⟨hrm, hh⟩ := jc_s h; clear h; have h := hh; clear hh
      have e := p_RI_s hq
      subst e
      have hok : (decide (902 = 902) && jLX.contains (own, idx, 902)) = true := hok
      rw [Bool.and_eq_true] at hok
      exact hT.2.2.1 pc idx q.1 z q.2.1 ls H locs _ hl.1 (contains_s hok.2) hz1 (by rw [tv_cats]; exact ble_s hrm) hin (hd rfl) hS (hk rfl rfl _ _ _ h ls H locs hl hP hS)
    · obtain ⟨q, hq, hh⟩ := jq_s h; clear h; have h := hh; clear hh
      obtain ⟨z, hz1, hh⟩ := Option.bind_eq_some_iff.mp h; clear h; have h := hh; clear hh
      obtain ⟨hrm, hh⟩ := jc_s h; clear h; have h := hh; clear hh
      have e := p_RI_s hq
      subst e
      have hok : (decide (903 = 903) && jLX.contains (own, idx, 903)) = true := hok
      rw [Bool.and_eq_true] at hok
      exact hT.2.2.2 pc idx q.1 z q.2.1 ls H locs _ hl.1 (contains_s hok.2) hz1 (by rw [tv_cats]; exact ble_s hrm) (hd rfl) hS (hk rfl rfl _ _ _ h ls H locs hl hP hS)
    · rename_i y n ci rk
      obtain ⟨q, hq, hh⟩ := jq_s h; clear h; have h := hh; clear hh
      obtain ⟨w, hw, hh⟩ := jq_s h; clear h; have h := hh; clear hh
      obtain ⟨hi, hh⟩ := jc_s h; clear h; have h := hh; clear hh
      obtain ⟨hrm, hh⟩ := jc_s h; clear h; have h := hh; clear hh
      obtain ⟨v, σ', hx', hk', -⟩ := j_ret_s h
      obtain ⟨e1, hn⟩ := p_n_s n hq
      have e2 := p_R_s hw
      rw [e2] at e1
      subst e1
      cases hM : jMM[y]? with
      | none =>
        exfalso
        have hok : (match jMM[y]? with
          | some M => (jLM.contains (own, idx, y) || jLN.contains (own, idx, y)) && decide (M.2.2.2.2.2.2 = 0) && decide (M.2.2.2.2.2.1 = n) && decide (M.2.2.2.2.1 = ci) && decide (j_rk M.2.2.2.1 = rk) && decide (ci < 10)
          | none => false) = true := hok
        rw [hM] at hok
        cases hok
      | some M =>
        have hok : (match jMM[y]? with
          | some M => (jLM.contains (own, idx, y) || jLN.contains (own, idx, y)) && decide (M.2.2.2.2.2.2 = 0) && decide (M.2.2.2.2.2.1 = n) && decide (M.2.2.2.2.1 = ci) && decide (j_rk M.2.2.2.1 = rk) && decide (ci < 10)
          | none => false) = true := hok
        rw [hM] at hok
        simp only [Bool.and_eq_true, Bool.or_eq_true, decide_eq_true_eq] at hok
        obtain ⟨⟨⟨⟨⟨o1, o2⟩, o3⟩, o4⟩, o5⟩, o6⟩ := hok
        have hlk : (own, idx, y) ∈ jLM ∨ (own, idx, y) ∈ jLN := o1.imp contains_s contains_s
        rw [List.map_append, List.map_reverse, List.map_cons]
        exact j_callV F hM o2 hlk (by rw [o3, hn]) o4 o6 hi (hC y M _ σ v σ' hM hx') (ble_s hrm) hl.1 (hd rfl) hP hS (fun H1 locs1 hP1 hS1 => by
          have g := hk rfl rfl _ _ _ hk' ls H1 locs1 hl hP1 hS1
          rw [map_toList] at g
          exact g)
    · cases h
  case invokestatic idx =>
    unfold js at h
    dsimp only at h
    split at h
    · obtain ⟨q, hq, hh⟩ := jq_s h; clear h; have h := hh; clear hh
      obtain ⟨hrm, hh⟩ := jc_s h; clear h; have h := hh; clear hh
      obtain ⟨t, ht, hh⟩ := Option.bind_eq_some_iff.mp h; clear h; have h := hh; clear hh
      have e := p_cpy_s hq
      subst e
      have hw := hts _ (jwA_g _ (List.mem_map.mpr ⟨_, contains_s hok, rfl⟩))
      unfold j_copy at ht
      obtain ⟨n0, hn0, hh⟩ := Option.bind_eq_some_iff.mp ht; clear ht; have ht := hh; clear hh
      obtain ⟨n1, hn1, hh⟩ := Option.bind_eq_some_iff.mp ht; clear ht; have ht := hh; clear hh
      rcases Decidable.em (q.2.1 < 0 ∨ q.2.2.2.1 < 0 ∨ q.2.2.2.2.1 < 0 ∨ n0 < q.2.1.toNatClampNeg + q.2.2.2.2.1.toNatClampNeg ∨ n1 < q.2.2.2.1.toNatClampNeg + q.2.2.2.2.1.toNatClampNeg) with g | g
      · rw [if_pos g] at ht; cases ht
      rw [if_neg g] at ht
      cases ht
      have hnat : nativeFrameWords "java/lang/System" "arraycopy" 5 = 7 := by decide
      have hcat : ((q.2.2.2.2.2.map (tv α)).map fun v => v.category).sum ≤ 8 := by rw [tv_cats]; exact ble_s hrm
      exact va_copyi (ty := .int) hx hb (by rw [hml, hl.1]) hown hw (hts _ (jwX_g _ (by simp [jwX]))) (hts _ (jwX_g _ (by simp [jwX]))) (hts _ (jwX_g _ (by simp [jwX]))) hKw hP (hDD σ) hS q.1 q.2.2.1 0 0 (jP_get (j_len_sh hn0)) (jP_get (j_len_sh hn1)) rfl rfl rfl (fun a => g (Or.inl a)) (fun a => g (Or.inr (Or.inl a))) (fun a => g (Or.inr (Or.inr (Or.inl a)))) (Nat.not_lt.mp fun a => g (Or.inr (Or.inr (Or.inr (Or.inl a))))) (Nat.not_lt.mp fun a => g (Or.inr (Or.inr (Or.inr (Or.inr a))))) (fun _ _ => rfl) (by omega) (by rw [hnat]; omega) (hd rfl) (fun H1 locs1 hP1 _ hS1 => hk rfl rfl _ _ _ h ls H1 locs1 hl (by rw [← jP_cpy (j_len_sh hn1)]; exact hP1) hS1)
    · obtain ⟨q, hq, hh⟩ := jq_s h; clear h; have h := hh; clear hh
      obtain ⟨hrm, hh⟩ := jc_s h; clear h; have h := hh; clear hh
      have e := p_II_s hq
      subst e
      have hw := hts _ (jwH_g _ (List.mem_map.mpr ⟨_, contains_s hok, rfl⟩))
      have hcat : ((q.2.2.map (tv α)).map fun v => v.category).sum ≤ 8 := by rw [tv_cats]; exact ble_s hrm
      exact va_mmax hx hb (by rw [hml, hl.1]) hown hw (hts _ (jwX_g _ (by simp [jwX, jmh]))) (hts _ (jwX_g _ (by simp [jwX]))) (hts _ (jwX_g _ (by simp [jwX, jmh]))) (by omega) (by omega) hcell hslot (hd rfl) (hk rfl rfl _ _ _ h ls H locs hl hP hS)
    · obtain ⟨q, hq, hh⟩ := jq_s h; clear h; have h := hh; clear hh
      obtain ⟨hrm, hh⟩ := jc_s h; clear h; have h := hh; clear hh
      have e := p_II_s hq
      subst e
      have hw := hts _ (jwH_g _ (List.mem_map.mpr ⟨_, contains_s hok, rfl⟩))
      have hcat : ((q.2.2.map (tv α)).map fun v => v.category).sum ≤ 8 := by rw [tv_cats]; exact ble_s hrm
      exact va_mmin hx hb (by rw [hml, hl.1]) hown hw (hts _ (jwX_g _ (by simp [jwX, jmh]))) (hts _ (jwX_g _ (by simp [jwX]))) (hts _ (jwX_g _ (by simp [jwX, jmh]))) (by omega) (by omega) hcell hslot (hd rfl) (hk rfl rfl _ _ _ h ls H locs hl hP hS)
    · obtain ⟨q, hq, hh⟩ := jq_s h; clear h; have h := hh; clear hh
      obtain ⟨hrm, hh⟩ := jc_s h; clear h; have h := hh; clear hh
      have e := p_LL_s hq
      subst e
      have hw := hts _ (jwH_g _ (List.mem_map.mpr ⟨_, contains_s hok, rfl⟩))
      have hcat : ((q.2.2.map (tv α)).map fun v => v.category).sum ≤ 8 := by rw [tv_cats]; exact ble_s hrm
      exact va_mmin_long hx hb (by rw [hml, hl.1]) hown hw (hts _ (jwX_g _ (by simp [jwX, jmh]))) (hts _ (jwX_g _ (by simp [jwX]))) (hts _ (jwX_g _ (by simp [jwX, jmh]))) (by omega) (by omega) hcell hslot (hd rfl) (hk rfl rfl _ _ _ h ls H locs hl hP hS)
    · obtain ⟨q, hq, hh⟩ := jq_s h; clear h; have h := hh; clear hh
      obtain ⟨hrm, hh⟩ := jc_s h; clear h; have h := hh; clear hh
      have e := p_L_s hq
      subst e
      have hw := hts _ (jwH_g _ (List.mem_map.mpr ⟨_, contains_s hok, rfl⟩))
      have hcat : ((q.2.map (tv α)).map fun v => v.category).sum ≤ 8 := by rw [tv_cats]; exact ble_s hrm
      exact va_mabs_long hx hb (by rw [hml, hl.1]) hown hw (hts _ (jwX_g _ (by simp [jwX, jmh]))) (hts _ (jwX_g _ (by simp [jwX]))) (hts _ (jwX_g _ (by simp [jwX, jmh]))) (by omega) (by omega) hcell hslot (hd rfl) (hk rfl rfl _ _ _ h ls H locs hl hP hS)
    · rename_i y n rk
      obtain ⟨q, hq, hh⟩ := jq_s h; clear h; have h := hh; clear hh
      obtain ⟨hrm, hh⟩ := jc_s h; clear h; have h := hh; clear hh
      obtain ⟨v, σ', hx', hk', -⟩ := j_ret_s h
      obtain ⟨e1, hn⟩ := p_n_s n hq
      subst e1
      cases hM : jMM[y]? with
      | none =>
        exfalso
        have hok : (match jMM[y]? with
          | some M => (jLM.contains (own, idx, y) || jLN.contains (own, idx, y)) && decide (M.2.2.2.2.2.2 = 1) && decide (M.2.2.2.2.2.1 = n) && decide (j_rk M.2.2.2.1 = rk)
          | none => false) = true := hok
        rw [hM] at hok
        cases hok
      | some M =>
        have hok : (match jMM[y]? with
          | some M => (jLM.contains (own, idx, y) || jLN.contains (own, idx, y)) && decide (M.2.2.2.2.2.2 = 1) && decide (M.2.2.2.2.2.1 = n) && decide (j_rk M.2.2.2.1 = rk)
          | none => false) = true := hok
        rw [hM] at hok
        simp only [Bool.and_eq_true, Bool.or_eq_true, decide_eq_true_eq] at hok
        obtain ⟨⟨⟨o1, o2⟩, o3⟩, o4⟩ := hok
        have hlk : (own, idx, y) ∈ jLM ∨ (own, idx, y) ∈ jLN := o1.imp contains_s contains_s
        rw [List.map_append, List.map_reverse]
        exact j_callS F hM o2 hlk (by rw [o3, hn]) (hC y M _ σ v σ' hM hx') (ble_s hrm) hl.1 (hd rfl) hP hS (fun H1 locs1 hP1 hS1 => by
          have g := hk rfl rfl _ _ _ hk' ls H1 locs1 hl hP1 hS1
          rw [map_toList] at g
          exact g)
    · cases h
  case ireturn =>
    unfold js at h
    dsimp only at h
    split at h
    · obtain ⟨q, hq, hh⟩ := jq_s h; clear h; have h := hh; clear hh
      obtain ⟨he, hh⟩ := jc_s h; clear h; have h := hh; clear hh
      have e := p_I_s hq
      have e2 := List.isEmpty_iff.mp he
      rw [e2] at e
      subst e
      cases h
      exact (hR pc ls H locs hP hS).1 q.1 rfl (Or.inl rfl) (hd rfl)
    · obtain ⟨q, hq, hh⟩ := jq_s h; clear h; have h := hh; clear hh
      obtain ⟨he, hh⟩ := jc_s h; clear h; have h := hh; clear hh
      have e := p_I_s hq
      have e2 := List.isEmpty_iff.mp he
      rw [e2] at e
      subst e
      rcases Decidable.em (q.1 = 0 ∨ q.1 = 1) with g | g
      · rw [if_pos g] at h
        cases h
        exact (hR pc ls H locs hP hS).1 q.1 rfl (Or.inr ⟨rfl, g⟩) (hd rfl)
      · rw [if_neg g] at h; cases h
    · cases h
  case lreturn =>
    unfold js at h
    dsimp only at h
    split at h
    · obtain ⟨q, hq, hh⟩ := jq_s h; clear h; have h := hh; clear hh
      obtain ⟨he, hh⟩ := jc_s h; clear h; have h := hh; clear hh
      have e := p_L_s hq
      have e2 := List.isEmpty_iff.mp he
      rw [e2] at e
      subst e
      cases h
      exact (hR pc ls H locs hP hS).2.1 q.1 rfl rfl (hd rfl)
    · cases h
  case return_ =>
    unfold js at h
    dsimp only at h
    split at h
    · obtain ⟨he, hh⟩ := jc_s h; clear h; have h := hh; clear hh
      have e2 := List.isEmpty_iff.mp he
      subst e2
      cases h
      exact (hR pc ls H locs hP hS).2.2 rfl rfl (hd rfl)
    · cases h
  all_goals (exfalso; revert h; intro h; cases h)
end JS
