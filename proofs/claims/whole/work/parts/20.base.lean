/-! Pure rows: branches, arrays, cells of a telling and of a journey. -/
theorem jif_t {c : Prop} {a b : jR} (h : c) : jif c a b = a := @if_pos _ (Classical.propDecidable c) h _ a b
theorem jif_f {c : Prop} {a b : jR} (h : ¬ c) : jif c a b = b := @if_neg _ (Classical.propDecidable c) h _ a b
theorem jif_eq (c : Prop) (a b : jR) (dc : Decidable c) : jif c a b = @ite _ c dc a b := by
  by_cases h : c
  · rw [jif_t h, if_pos h]
  · rw [jif_f h, if_neg h]
theorem jc_t {x : jR} : jc true x = x := rfl
theorem rI_s (x : Int32) (σ : jS) : r_I (some (some (.int x), σ)) = some (x, σ) := rfl
theorem rL_s (x : Int64) (σ : jS) : r_L (some (some (.long x), σ)) = some (x, σ) := rfl
theorem rV_s (σ : jS) : r_V (some (none, σ)) = some σ := rfl
theorem rdI_ok {z : Nat} {σ : jS} {a n k : Nat} {i : Int32} (hl : j_len z a = some n) (hi : i = nI k) (hk : k < n) (hn : n < 2 ^ 31) : j_rdI z σ a i = some (σ.1 a k) := by
  subst hi
  unfold j_rdI
  rw [hl]
  show @ite _ _ (Classical.propDecidable _) _ _ = _
  rw [if_neg (nI_in hk hn), nI_clamp (by omega)]
theorem rdL_ok {σ : jS} {a n k : Nat} {i : Int32} (hl : j_len 2 a = some n) (hi : i = nI k) (hk : k < n) (hn : n < 2 ^ 31) : j_rdL σ a i = some (σ.2.1 a k) := by
  subst hi
  unfold j_rdL
  rw [hl]
  show @ite _ _ (Classical.propDecidable _) _ _ = _
  rw [if_neg (nI_in hk hn), nI_clamp (by omega)]
theorem wrI_ok {σ : jS} {a n k : Nat} {i x : Int32} (hl : j_len 0 a = some n) (hi : i = nI k) (hk : k < n) (hn : n < 2 ^ 31) : j_wrI σ a i x = some (j_setI σ a k x) := by
  subst hi
  unfold j_wrI
  rw [hl]
  show @ite _ _ (Classical.propDecidable _) _ _ = _
  rw [if_neg (nI_in hk hn), nI_clamp (by omega)]
theorem wrZ_ok {σ : jS} {a n k : Nat} {i x : Int32} (hl : j_len 1 a = some n) (hi : i = nI k) (hk : k < n) (hn : n < 2 ^ 31) (hx : x = 0 ∨ x = 1) : j_wrZ σ a i x = some (j_setI σ a k x) := by
  subst hi
  unfold j_wrZ
  rw [hl]
  show @ite _ _ (Classical.propDecidable _) _ _ = _
  rw [if_neg (nI_in hk hn), if_pos hx, nI_clamp (by omega)]
theorem wrL_ok {σ : jS} {a n k : Nat} {i : Int32} {x : Int64} (hl : j_len 2 a = some n) (hi : i = nI k) (hk : k < n) (hn : n < 2 ^ 31) : j_wrL σ a i x = some (j_setL σ a k x) := by
  subst hi
  unfold j_wrL
  rw [hl]
  show @ite _ _ (Classical.propDecidable _) _ _ = _
  rw [if_neg (nI_in hk hn), nI_clamp (by omega)]
theorem cpy_ok {σ : jS} {a0 a1 n0 n1 s0 d0 n : Nat} {sp dp m : Int32} (h0 : j_len 0 a0 = some n0) (h1 : j_len 0 a1 = some n1) (hs : sp = nI s0) (hd : dp = nI d0) (hm : m = nI n) (e0 : s0 + n ≤ n0) (e1 : d0 + n ≤ n1) (l0 : n0 < 2 ^ 31) (l1 : n1 < 2 ^ 31) : j_copy σ a0 sp a1 dp m = some (j_cpy σ a0 s0 a1 d0 n) := by
  subst hs; subst hd; subst hm
  unfold j_copy
  rw [h0, h1]
  show @ite _ _ (Classical.propDecidable _) _ _ = _
  rw [nI_clamp (by omega), nI_clamp (by omega), nI_clamp (by omega), if_neg]
  intro h
  rcases h with h | h | h | h | h
  · exact nI_pos (by omega) h
  · exact nI_pos (by omega) h
  · exact nI_pos (by omega) h
  · omega
  · omega
/-- what a cell's places hold behind a store -/
theorem setI_get (σ : jS) (a k b j : Nat) (v : Int32) : (j_setI σ a k v).1 b j = if b = a ∧ j = k then v else σ.1 b j := rfl
theorem setI_same (σ : jS) (a k : Nat) (v : Int32) : (j_setI σ a k v).1 a k = v := by rw [setI_get, if_pos ⟨rfl, rfl⟩]
theorem setI_ne {σ : jS} {a k b j : Nat} {v : Int32} (h : b ≠ a) : (j_setI σ a k v).1 b j = σ.1 b j := by rw [setI_get, if_neg (fun q => h q.1)]
theorem setI_nk {σ : jS} {a k b j : Nat} {v : Int32} (h : j ≠ k) : (j_setI σ a k v).1 b j = σ.1 b j := by rw [setI_get, if_neg (fun q => h q.2)]
theorem setI_L (σ : jS) (a k : Nat) (v : Int32) : (j_setI σ a k v).2 = σ.2 := rfl
theorem setL_get (σ : jS) (a k b j : Nat) (v : Int64) : (j_setL σ a k v).2.1 b j = if b = a ∧ j = k then v else σ.2.1 b j := rfl
theorem setL_I (σ : jS) (a k : Nat) (v : Int64) : (j_setL σ a k v).1 = σ.1 := rfl
theorem setL_R (σ : jS) (a k : Nat) (v : Int64) : (j_setL σ a k v).2.2 = σ.2.2 := rfl
theorem setR_get (σ : jS) (a k b j v : Nat) : (j_setR σ a k v).2.2 b j = if b = a ∧ j = k then v else σ.2.2 b j := rfl
theorem setR_I (σ : jS) (a k v : Nat) : (j_setR σ a k v).1 = σ.1 := rfl
theorem setR_L (σ : jS) (a k v : Nat) : (j_setR σ a k v).2.1 = σ.2.1 := rfl
/-- outside the cells of S all is as it was -/
def jeq (S : Nat → Prop) (σ σ' : jS) : Prop := ∀ b, ¬ S b → σ'.1 b = σ.1 b ∧ σ'.2.1 b = σ.2.1 b ∧ σ'.2.2 b = σ.2.2 b
theorem jeq.rf {S : Nat → Prop} {σ : jS} : jeq S σ σ := fun _ _ => ⟨rfl, rfl, rfl⟩
theorem jeq.tr {S : Nat → Prop} {σ σ' σ'' : jS} (h1 : jeq S σ σ') (h2 : jeq S σ' σ'') : jeq S σ σ'' := fun b hb => ⟨(h2 b hb).1.trans (h1 b hb).1, (h2 b hb).2.1.trans (h1 b hb).2.1, (h2 b hb).2.2.trans (h1 b hb).2.2⟩
theorem jeq.mono {S T : Nat → Prop} {σ σ' : jS} (h : jeq S σ σ') (hst : ∀ b, S b → T b) : jeq T σ σ' := fun b hb => h b (fun q => hb (hst b q))
theorem jeq.setI {S : Nat → Prop} {σ : jS} {a k : Nat} {v : Int32} (ha : S a) : jeq S σ (j_setI σ a k v) := fun b hb => ⟨j_setI_ne (fun e => hb (e ▸ ha)), rfl, rfl⟩
theorem jeq.setL {S : Nat → Prop} {σ : jS} {a k : Nat} {v : Int64} (ha : S a) : jeq S σ (j_setL σ a k v) := fun b hb => ⟨rfl, j_setL_ne (fun e => hb (e ▸ ha)), rfl⟩
theorem jeq.setR {S : Nat → Prop} {σ : jS} {a k v : Nat} (ha : S a) : jeq S σ (j_setR σ a k v) := fun b hb => ⟨rfl, rfl, j_setR_ne (fun e => hb (e ▸ ha))⟩
theorem jeq.cpy {S : Nat → Prop} {σ : jS} {a0 s0 a1 d0 n : Nat} (ha : S a1) : jeq S σ (j_cpy σ a0 s0 a1 d0 n) := fun b hb => ⟨by
  funext j
  show (if b = a1 ∧ d0 ≤ j ∧ j < d0 + n then _ else σ.1 b j) = _
  exact if_neg (fun q => hb (by rw [q.1]; exact ha)), rfl, rfl⟩
/-- a telling's cells: 2 and on, or 19 and on -/
def jTe (t : Nat) : Prop := t = 2 ∨ t = 19
theorem te_is {t : Nat} (h : jTe t) : j_is 6 t = true ∧ j_is 1 (t + 10) = true := by rcases h with rfl | rfl <;> exact ⟨rfl, rfl⟩
theorem te_cr {t : Nat} (h : jTe t) : j_cr t 1 = t + 1 ∧ j_cr t 2 = t + 2 ∧ j_cr t 3 = t + 3 ∧ j_cr t 4 = t + 4 ∧ j_cr t 5 = t + 5 ∧ j_cr t 7 = t + 6 ∧ j_cr t 8 = t + 7 ∧ j_cr t 9 = t + 8 ∧ j_cr t 11 = t + 9 ∧ j_cr t 12 = t + 10 := by rcases h with rfl | rfl <;> exact ⟨rfl, rfl, rfl, rfl, rfl, rfl, rfl, rfl, rfl, rfl⟩
theorem te_len {t : Nat} (h : jTe t) : j_len 0 (t + 1) = some 10 ∧ j_len 0 (t + 2) = some 10 ∧ j_len 0 (t + 3) = some 10 ∧ j_len 0 (t + 4) = some 10 ∧ j_len 0 (t + 5) = some 30 ∧ j_len 0 (t + 6) = some 12 ∧ j_len 0 (t + 7) = some 12 ∧ j_len 0 (t + 8) = some 12 ∧ j_len 0 (t + 9) = some 4 := by rcases h with rfl | rfl <;> exact ⟨rfl, rfl, rfl, rfl, rfl, rfl, rfl, rfl, rfl⟩
theorem la_cr {t : Nat} (h : jTe t) : j_cr (t + 10) 3 = t + 11 ∧ j_cr (t + 10) 4 = t + 12 ∧ j_cr (t + 10) 5 = t + 13 ∧ j_cr (t + 10) 6 = t + 14 ∧ j_cr (t + 10) 7 = t + 15 ∧ j_cr (t + 10) 8 = t + 16 := by rcases h with rfl | rfl <;> exact ⟨rfl, rfl, rfl, rfl, rfl, rfl⟩
theorem la_len {t : Nat} (h : jTe t) : j_len 0 (t + 11) = some 64 ∧ j_len 0 (t + 12) = some 64 ∧ j_len 0 (t + 13) = some 5 ∧ j_len 0 (t + 14) = some 5 ∧ j_len 0 (t + 15) = some 6 ∧ j_len 2 (t + 16) = some 64 := by rcases h with rfl | rfl <;> exact ⟨rfl, rfl, rfl, rfl, rfl, rfl⟩
/-- a journey's cells -/
def jJo (j : Nat) : Prop := j = 39 ∨ j = 49 ∨ j = 59
theorem jo_is {j : Nat} (h : jJo j) : j_is 0 j = true := by rcases h with rfl | rfl | rfl <;> rfl
theorem jo_cr {j : Nat} (h : jJo j) : j_cr j 1 = j + 1 ∧ j_cr j 2 = j + 2 ∧ j_cr j 4 = j + 3 ∧ j_cr j 5 = j + 4 ∧ j_cr j 6 = j + 5 ∧ j_cr j 7 = j + 6 ∧ j_cr j 8 = j + 7 ∧ j_cr j 9 = j + 8 ∧ j_cr j 10 = j + 9 := by rcases h with rfl | rfl | rfl <;> exact ⟨rfl, rfl, rfl, rfl, rfl, rfl, rfl, rfl, rfl⟩
theorem jo_len {j : Nat} (h : jJo j) : j_len 0 (j + 1) = some 10 ∧ j_len 0 (j + 2) = some 10 ∧ j_len 0 (j + 3) = some 30 ∧ j_len 0 (j + 4) = some 30 ∧ j_len 0 (j + 5) = some 30 ∧ j_len 0 (j + 6) = some 30 ∧ j_len 0 (j + 7) = some 30 ∧ j_len 0 (j + 8) = some 30 ∧ j_len 0 (j + 9) = some 30 := by rcases h with rfl | rfl | rfl <;> exact ⟨rfl, rfl, rfl, rfl, rfl, rfl, rfl, rfl, rfl⟩
theorem g_lt {y : Nat} {MT : List (Nat × Nat × List jB)} : True := trivial
/-- first place of x among n, from i on; -1 -/
def fnd (f : Nat → Int32) (x : Int32) : Nat → Nat → Int32
  | 0, _ => -1
  | n + 1, i => if f i = x then nI i else fnd f x n (i + 1)
theorem fnd_congr {f g : Nat → Int32} {x : Int32} : ∀ (n i : Nat), (∀ k, i ≤ k → k < i + n → f k = g k) → fnd f x n i = fnd g x n i
  | 0, _, _ => rfl
  | n + 1, i, h => by
    unfold fnd
    rw [h i (Nat.le_refl i) (by omega), fnd_congr n (i + 1) (fun k h1 h2 => h k (by omega) (by omega))]
/-- HalfHands.within -/
theorem c_within (d : Nat) (x lo hi : Int32) (σ : jS) : g_HH_within (d + 1) x lo hi σ = some (some (.int (if lo ≤ x ∧ x ≤ hi then 1 else 0)), σ) := by
  rw [e_HH_within, q_HH_within_0, q_HH_within_1, q_HH_within_2, q_HH_within_2]
  by_cases h1 : x < lo
  · rw [jif_t h1, if_pos (Or.inl rfl), if_neg (fun q => Int32.not_le.mpr h1 q.1)]
  · rw [jif_f h1]
    by_cases h2 : hi < x
    · rw [jif_t h2, if_pos (Or.inl rfl), if_neg (fun q => Int32.not_le.mpr h2 q.2)]
    · rw [jif_f h2, if_pos (Or.inr rfl), if_pos ⟨Int32.not_lt.mp h1, Int32.not_lt.mp h2⟩]
theorem c_placeOf_l (d : Nat) (x : Int32) (a len N : Nat) (hl : j_len 0 a = some len) (hlen : len < 2 ^ 31) (hN : N ≤ len) (σ : jS) : ∀ (n i : Nat), i + n = N → b_Te_placeOf_1 d x a (nI N) (nI i) σ = some (some (.int (fnd (σ.1 a) x n i)), σ)
  | 0, i, h => by
    rw [q_Te_placeOf_1, jif_t (nI_le (by omega) (by omega)), q_Te_placeOf_3]; rfl
  | n + 1, i, h => by
    rw [q_Te_placeOf_1, jif_f (nI_ge (by omega) (by omega)), hl]
    show jif (nI len ≤ nI i) _ _ = _
    rw [jif_f (show ¬ nI len ≤ nI i from nI_ge (by omega) (by omega)), rdI_ok hl rfl (by omega) hlen]
    show jif (σ.1 a i = x) _ _ = _
    unfold fnd
    by_cases hx : σ.1 a i = x
    · rw [jif_t hx, if_pos hx]
    · rw [jif_f hx, if_neg hx, q_Te_placeOf_2, nI_1, c_placeOf_l d x a len N hl hlen hN σ n (i + 1) (by omega)]
theorem c_placeOf (d : Nat) (x : Int32) (a len N : Nat) (hl : j_len 0 a = some len) (hlen : len < 2 ^ 31) (hN : N ≤ len) (σ : jS) : g_Te_placeOf (d + 1) x a (nI N) σ = some (some (.int (fnd (σ.1 a) x N 0)), σ) := by
  rw [e_Te_placeOf, q_Te_placeOf_0]
  exact c_placeOf_l d x a len N hl hlen hN σ N 0 (by omega)
theorem m_found_l (d : Nat) (x : Int32) (a len F N : Nat) (hl : j_len 0 a = some len) (hlen : len < 2 ^ 31) (hN : F + N ≤ len) (σ : jS) : ∀ (n i : Nat), i + n = N → b_M_found_1 d a (nI F) (nI N) x (nI i) σ = some (some (.int (fnd (fun k => σ.1 a (F + k)) x n i)), σ)
  | 0, i, h => by
    rw [q_M_found_1, jif_t (nI_le (by omega) (by omega)), q_M_found_3]; rfl
  | n + 1, i, h => by
    rw [q_M_found_1, jif_f (nI_ge (by omega) (by omega)), nI_add, rdI_ok hl rfl (by omega) hlen]
    show jif (σ.1 a (F + i) = x) _ _ = _
    unfold fnd
    by_cases hx : σ.1 a (F + i) = x
    · rw [jif_t hx, if_pos hx]
    · rw [jif_f hx, if_neg hx, q_M_found_2, nI_1, m_found_l d x a len F N hl hlen hN σ n (i + 1) (by omega)]
theorem m_found (d : Nat) (x : Int32) (a len F N : Nat) (hl : j_len 0 a = some len) (hlen : len < 2 ^ 31) (hN : F + N ≤ len) (σ : jS) : g_M_found (d + 1) a (nI F) (nI N) x σ = some (some (.int (fnd (fun k => σ.1 a (F + k)) x N 0)), σ) := by
  rw [e_M_found, q_M_found_0]
  exact m_found_l d x a len F N hl hlen hN σ N 0 (by omega)
