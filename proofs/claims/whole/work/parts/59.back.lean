/-! What arrives, in plain numbers; what must be sent: 12: back; 13: span. -/
noncomputable def hf (od : Nat → Nat → Prop) (p c : Nat) : Nat := @ite _ (c % 2 = 1 ∧ ¬ od p c) (Classical.propDecidable _) (c / 2 + 1) (c / 2)
theorem hf_r (od : Nat → Nat → Prop) (p c : Nat) : c / 2 ≤ hf od p c ∧ hf od p c ≤ (c + 1) / 2 := by
  unfold hf
  by_cases h : c % 2 = 1 ∧ ¬ od p c
  · rw [if_pos h]; have := h.1; omega
  · rw [if_neg h]; omega
theorem hf_even (od : Nat → Nat → Prop) (p v : Nat) : hf od p (2 * v) = v := by have := hf_r od p (2 * v); omega
theorem hf_mono {od : Nat → Nat → Prop} {p c c' : Nat} (h : c ≤ c') : hf od p c ≤ hf od p c' := by
  have h1 := hf_r od p c
  have h2 := hf_r od p c'
  by_cases e : c = c'
  · rw [e]; exact Nat.le_refl _
  · omega
noncomputable def arN (od : Nat → Nat → Prop) : Nat → Nat → Nat → Nat
  | 0, _, c => c
  | m + 1, p, c => arN od m (p + 1) (hf od p c)
theorem arN_pow (od : Nat → Nat → Prop) : ∀ (m p t : Nat), arN od m p (t * 2 ^ m) = t
  | 0, p, t => by show t * 1 = t; omega
  | m + 1, p, t => by
    show arN od m (p + 1) (hf od p (t * 2 ^ (m + 1))) = t
    rw [Nat.pow_succ, ← Nat.mul_assoc, Nat.mul_comm _ 2, hf_even, arN_pow od m (p + 1) t]
noncomputable def loN (od : Nat → Nat → Prop) (p a : Nat) : Nat := @ite _ (0 < a ∧ hf od p (2 * a - 1) = a) (Classical.propDecidable _) (2 * a - 1) (2 * a)
noncomputable def upN (od : Nat → Nat → Prop) (p b : Nat) : Nat := @ite _ (hf od p (2 * b + 1) = b) (Classical.propDecidable _) (2 * b + 1) (2 * b)
theorem loN_r (od : Nat → Nat → Prop) (p a : Nat) : a ≤ loN od p a ∧ loN od p a ≤ 2 * a := by
  unfold loN
  by_cases h : 0 < a ∧ hf od p (2 * a - 1) = a
  · rw [if_pos h]; have := h.1; omega
  · rw [if_neg h]; omega
theorem upN_r (od : Nat → Nat → Prop) (p a : Nat) : 2 * a ≤ upN od p a ∧ upN od p a ≤ 2 * a + 1 := by
  unfold upN
  by_cases h : hf od p (2 * a + 1) = a
  · rw [if_pos h]; omega
  · rw [if_neg h]; omega
theorem lo_iff {od : Nat → Nat → Prop} {p a c : Nat} : a ≤ hf od p c ↔ loN od p a ≤ c := by
  unfold loN
  by_cases h : 0 < a ∧ hf od p (2 * a - 1) = a
  · rw [if_pos h]
    obtain ⟨h1, h2⟩ := h
    refine ⟨fun q => ?_, fun q => ?_⟩
    · by_cases z : 2 * a - 1 ≤ c
      · exact z
      · have : hf od p c ≤ hf od p (2 * (a - 1)) := hf_mono (by omega)
        rw [hf_even] at this
        omega
    · have := hf_mono (od := od) (p := p) q
      omega
  · rw [if_neg h]
    refine ⟨fun q => ?_, fun q => ?_⟩
    · by_cases z : 2 * a ≤ c
      · exact z
      · have h0 : 0 < a := by omega
        have h1 : hf od p c ≤ hf od p (2 * a - 1) := hf_mono (by omega)
        have h2 := (hf_r od p (2 * a - 1)).2
        have h3 : hf od p (2 * a - 1) ≠ a := fun e => h ⟨h0, e⟩
        omega
    · have := hf_mono (od := od) (p := p) q
      rw [hf_even] at this
      exact this
theorem up_iff {od : Nat → Nat → Prop} {p b c : Nat} : hf od p c ≤ b ↔ c ≤ upN od p b := by
  unfold upN
  by_cases h : hf od p (2 * b + 1) = b
  · rw [if_pos h]
    refine ⟨fun q => ?_, fun q => ?_⟩
    · by_cases z : c ≤ 2 * b + 1
      · exact z
      · have : hf od p (2 * (b + 1)) ≤ hf od p c := hf_mono (by omega)
        rw [hf_even] at this
        omega
    · have := hf_mono (od := od) (p := p) q
      omega
  · rw [if_neg h]
    refine ⟨fun q => ?_, fun q => ?_⟩
    · by_cases z : c ≤ 2 * b
      · exact z
      · have h1 : hf od p (2 * b + 1) ≤ hf od p c := hf_mono (by omega)
        have h2 := (hf_r od p (2 * b + 1)).1
        omega
    · have := hf_mono (od := od) (p := p) q
      rw [hf_even] at this
      exact this
noncomputable def LON (od : Nat → Nat → Prop) : Nat → Nat → Nat → Nat
  | 0, _, t => t
  | m + 1, p, t => loN od p (LON od m (p + 1) t)
noncomputable def UPN (od : Nat → Nat → Prop) : Nat → Nat → Nat → Nat
  | 0, _, t => t
  | m + 1, p, t => upN od p (UPN od m (p + 1) t)
theorem LO_iff {od : Nat → Nat → Prop} {t : Nat} : ∀ (m p c : Nat), t ≤ arN od m p c ↔ LON od m p t ≤ c
  | 0, _, _ => Iff.rfl
  | m + 1, p, c => (LO_iff m (p + 1) (hf od p c)).trans lo_iff
theorem UP_iff {od : Nat → Nat → Prop} {t : Nat} : ∀ (m p c : Nat), arN od m p c ≤ t ↔ c ≤ UPN od m p t
  | 0, _, _ => Iff.rfl
  | m + 1, p, c => (UP_iff m (p + 1) (hf od p c)).trans up_iff
theorem UP_LO (od : Nat → Nat → Prop) (m p t : Nat) : UPN od m p t + 1 = LON od m p (t + 1) := by
  have h1 := (UP_iff (od := od) (t := t) m p (UPN od m p t)).mpr (Nat.le_refl _)
  have h2 : ¬ LON od m p (t + 1) ≤ UPN od m p t := fun q => by
    have := (LO_iff (od := od) (t := t + 1) m p _).mpr q
    omega
  have h3 : ¬ arN od m p (UPN od m p t + 1) ≤ t := fun q => by
    have := (UP_iff m p _).mp q
    omega
  have h4 := (LO_iff (od := od) (t := t + 1) m p (UPN od m p t + 1)).mp (by omega)
  omega
theorem LO_UP (od : Nat → Nat → Prop) (m p t : Nat) : LON od m p t ≤ t * 2 ^ m ∧ t * 2 ^ m ≤ UPN od m p t := by
  have h := arN_pow od m p t
  exact ⟨(LO_iff m p _).mp (by omega), (UP_iff m p _).mp (by omega)⟩
theorem LO_low (od : Nat → Nat → Prop) (m p t : Nat) : t * 2 ^ m + 1 ≤ LON od m p (t + 1) := by
  have h := arN_pow od m p t
  by_cases z : LON od m p (t + 1) ≤ t * 2 ^ m
  · have := (LO_iff (od := od) (t := t + 1) m p (t * 2 ^ m)).mpr z
    omega
  · omega
theorem LO_ge (od : Nat → Nat → Prop) (t j : Nat) : ∀ (i q : Nat), LON od j (q + i) t ≤ LON od (i + j) q t
  | 0, q => by rw [Nat.add_zero, Nat.zero_add]; exact Nat.le_refl _
  | i + 1, q => by
    have h := LO_ge od t j i (q + 1)
    rw [show i + 1 + j = (i + j) + 1 by omega]
    show _ ≤ loN od q (LON od (i + j) (q + 1) t)
    have := (loN_r od q (LON od (i + j) (q + 1) t)).1
    rw [show q + (i + 1) = q + 1 + i by omega]
    omega
/-- by the class's law and ages -/
def odP (σ : jS) (t L : Nat) (r : Nat → Nat) : Nat → Nat → Prop := fun p c => lw_odd σ t L (nI c) (σ.1 (t + 2) (r p)) (σ.1 (t + 2) (r (p + 1))) (nI p) 0
theorem cSh_N {σ : jS} {t L : Nat} {r : Nat → Nat} {c p : Nat} (hc : c < 2 ^ 31) : nI c - cSh σ t L r (nI c) p = nI (hf (odP σ t L r) p c) := by
  unfold cSh lw_sh hf
  have h0 := nI_odd hc
  rw [nI_half hc] at h0 ⊢
  by_cases a : c % 2 = 0
  · rw [if_pos (Or.inl (h0.mpr a)), if_neg (fun z => by have := z.1; omega), pk_sub (by omega)]
    congr 1; omega
  · by_cases b : odP σ t L r p c
    · rw [if_neg (fun z => z.elim (fun y => a (h0.mp y)) (fun y => y b)), if_neg (fun z => z.2 b), nI_1, pk_sub (by omega)]
      congr 1; omega
    · rw [if_pos (Or.inr (show ¬ lw_odd σ t L (nI c) (σ.1 (t + 2) (r p)) (σ.1 (t + 2) (r (p + 1))) (nI p) 0 from b)), if_pos ⟨by omega, b⟩, pk_sub (by omega)]
      congr 1; omega
theorem arr_N {σ : jS} {t L : Nat} {r : Nat → Nat} : ∀ (m p c : Nat), c < 2 ^ 31 → arr (cSh σ t L r) m p (nI c) = nI (arN (odP σ t L r) m p c)
  | 0, _, _, _ => rfl
  | m + 1, p, c, hc => by
    show arr (cSh σ t L r) m (p + 1) (nI c - cSh σ t L r (nI c) p) = nI (arN (odP σ t L r) m (p + 1) (hf (odP σ t L r) p c))
    have := (hf_r (odP σ t L r) p c).2
    rw [cSh_N hc, arr_N m (p + 1) _ (by omega)]
theorem arN_le (od : Nat → Nat → Prop) : ∀ (m p c : Nat), arN od m p c ≤ c
  | 0, _, c => Nat.le_refl _
  | m + 1, p, c => by
    have h1 := arN_le od m (p + 1) (hf od p c)
    have h2 := (hf_r od p c).2
    show arN od m (p + 1) (hf od p c) ≤ c
    by_cases e : c = 0
    · subst e; omega
    · omega
theorem c_carr (d : Nat) {k : Nat} {r : Nat → Nat} {σ : jS} (hR : cRow σ k r) : g_Rw_carriers (d + 1) σ = some (some (.int (nI (k - 2))), σ) := by
  have e : nI k - 2 = nI (k - 2) := pk_sub (a := k) (b := 2) hR.1
  rw [e_Rw_carriers, q_Rw_carriers_0, hR.2.2.1, e]
theorem c_least_l (d : Nat) {σ0 : jS} {t k T : Nat} {r : Nat → Nat} (ht : jTe t) (hT : T ≤ 100000) (hR : cRow σ0 k r) (hla : laW σ0 t 4) : ∀ (c st lo hi : Nat) (σ : jS), st + c = k - 2 → lo ≤ LON (odP σ0 t 4 r) (k - 2) 1 T → LON (odP σ0 t 4 r) (k - 2) 1 T ≤ hi → hi - lo < 2 ^ c → hi ≤ 30000000 → jeq (la_S t) σ0 σ →
    ∃ σ', b_Rw_leastBringing_1 (d + 5) t (nI T) (nI lo) (nI hi) (nI st) σ = some (some (.int (nI (LON (odP σ0 t 4 r) (k - 2) 1 T))), σ') ∧ jeq (la_S t) σ0 σ'
  | 0, st, lo, hi, σ, hst, h1, h2, h3, h4, hS => by
    have h3' : hi - lo < 1 := h3
    have hk := hR.2.1
    rw [q_Rw_leastBringing_1, c_carr (d + 4) (hR.la ht hS), rI_s]
    simp only [Option.bind_some]
    rw [jif_f (nI_nlt (by omega) (by omega)), jif_t (nI_le (by omega) (by omega)), q_Rw_leastBringing_4, show hi = LON (odP σ0 t 4 r) (k - 2) 1 T by omega]
    exact ⟨σ, rfl, hS⟩
  | c + 1, st, lo, hi, σ, hst, h1, h2, h3, h4, hS => by
    have hk := hR.2.1
    have h3' : hi - lo < 2 * 2 ^ c := by rw [Nat.pow_succ, Nat.mul_comm] at h3; exact h3
    rw [q_Rw_leastBringing_1, c_carr (d + 4) (hR.la ht hS), rI_s]
    simp only [Option.bind_some]
    rw [jif_f (nI_nlt (by omega) (by omega))]
    by_cases e : hi ≤ lo
    · rw [jif_t (nI_le e (by omega)), q_Rw_leastBringing_4, show hi = LON (odP σ0 t 4 r) (k - 2) 1 T by omega]
      exact ⟨σ, rfl, hS⟩
    · rw [jif_f (nI_ge (by omega) (by omega)), nI_add, nI_half (by omega)]
      obtain ⟨z1, z2, z3, z4⟩ := la_E hS
      obtain ⟨σ1, p1, p2⟩ := c_arv d (σ0 := σ0) ht 4 (by omega) k r (nI ((lo + hi) / 2)) σ (hR.la ht hS) (z1.W hla) z1 z2
      have p1' : g_Rw_arriving (d + 5) t 4 (nI ((lo + hi) / 2)) σ = some (some (.int (nI (arN (odP σ0 t 4 r) (k - 2) 1 ((lo + hi) / 2)))), σ1) := by
        rw [← arr_N _ _ _ (by omega)]; exact p1
      rw [p1', rI_s]
      simp only [Option.bind_some]
      have hle := arN_le (odP σ0 t 4 r) (k - 2) 1 ((lo + hi) / 2)
      by_cases q : LON (odP σ0 t 4 r) (k - 2) 1 T ≤ (lo + hi) / 2
      · have hq := (LO_iff (od := odP σ0 t 4 r) (t := T) (k - 2) 1 _).mpr q
        rw [jif_f (nI_nlt hq (by omega)), q_Rw_leastBringing_3, nI_1]
        exact c_least_l d ht hT hR hla c (st + 1) lo ((lo + hi) / 2) σ1 (by omega) h1 q (by omega) (by omega) (hS.tr p2)
      · have hq : ¬ T ≤ arN (odP σ0 t 4 r) (k - 2) 1 ((lo + hi) / 2) := fun z => q ((LO_iff (k - 2) 1 _).mp z)
        rw [jif_t (nI_lt (by omega) (by omega)), q_Rw_leastBringing_2, nI_1, q_Rw_leastBringing_3, nI_1]
        exact c_least_l d ht hT hR hla c (st + 1) ((lo + hi) / 2 + 1) hi σ1 (by omega) (by omega) h2 (by omega) h4 (hS.tr p2)
theorem c_least (d : Nat) {σ0 : jS} {t k T : Nat} {r : Nat → Nat} (ht : jTe t) (hT : T ≤ 100000) (hR : cRow σ0 k r) (hla : laW σ0 t 4) (σ : jS) (hS : jeq (la_S t) σ0 σ) :
    ∃ σ', g_Rw_leastBringing (d + 6) t (nI T) σ = some (some (.int (nI (LON (odP σ0 t 4 r) (k - 2) 1 T))), σ') ∧ jeq (la_S t) σ0 σ' := by
  have hk := hR.2.1
  have hm := pow8 (n := k - 2) (by omega)
  have hlu := LO_UP (odP σ0 t 4 r) (k - 2) 1 T
  rw [e_Rw_leastBringing, q_Rw_leastBringing_0, c_carr (d + 4) (hR.la ht hS), rI_s]
  simp only [Option.bind_some]
  rw [nI_shl1 (by omega), pk_mul]
  have hmul : T * 2 ^ (k - 2) ≤ 100000 * 256 := Nat.mul_le_mul hT hm.2
  by_cases e : T = 0
  · subst e
    have hlow : (if (0 : Int32) < (nI 0 - 1) * nI (2 ^ (k - 2)) + 1 then (nI 0 - 1) * nI (2 ^ (k - 2)) + 1 else 0) = nI 0 := by
      have : k - 2 = 0 ∨ k - 2 = 1 ∨ k - 2 = 2 ∨ k - 2 = 3 ∨ k - 2 = 4 ∨ k - 2 = 5 ∨ k - 2 = 6 ∨ k - 2 = 7 ∨ k - 2 = 8 := by omega
      rcases this with h | h | h | h | h | h | h | h | h <;> rw [h] <;> decide
    rw [hlow]
    exact c_least_l d ht hT hR hla (k - 2) 0 0 (0 * 2 ^ (k - 2)) σ (by omega) (by omega) hlu.1 (by omega) (by omega) hS
  · obtain ⟨T', rfl⟩ : ∃ T', T = T' + 1 := ⟨T - 1, by omega⟩
    have hll := LO_low (odP σ0 t 4 r) (k - 2) 1 T'
    have hm1 : (T' + 1) * 2 ^ (k - 2) = T' * 2 ^ (k - 2) + 2 ^ (k - 2) := Nat.succ_mul _ _
    have hlow : (if (0 : Int32) < (nI (T' + 1) - 1) * nI (2 ^ (k - 2)) + 1 then (nI (T' + 1) - 1) * nI (2 ^ (k - 2)) + 1 else 0) = nI (T' * 2 ^ (k - 2) + 1) := by
      rw [nI_pred, pk_mul, nI_1, if_pos (show (0 : Int32) < nI (T' * 2 ^ (k - 2) + 1) from nI_lt (a := 0) (by omega) (by omega))]
    rw [hlow]
    exact c_least_l d ht hT hR hla (k - 2) 0 (T' * 2 ^ (k - 2) + 1) ((T' + 1) * 2 ^ (k - 2)) σ (by omega) hll hlu.1 (by omega) (by omega) hS
noncomputable def eB (od : Nat → Nat → Prop) (m T w : Nat) : Int32 := if LON od m 1 T ≤ 999999 then (if w = 0 then nI (LON od m 1 T) else nI (min (UPN od m 1 T) 999999)) else -1
theorem c_endOfBack (d : Nat) {σ0 : jS} {t k T w : Nat} {r : Nat → Nat} (ht : jTe t) (hT : T ≤ 99999) (hw : w ≤ 1) (hR : cRow σ0 k r) (hla : laW σ0 t 4) (r2 : σ0.2.2 0 2 = t) (σ : jS) (hS : jeq (la_S t) σ0 σ) :
    ∃ σ', g_HH_endOfBack (d + 7) (nI T) (nI w) σ = some (some (.int (eB (odP σ0 t 4 r) (k - 2) T w)), σ') ∧ jeq (la_S t) σ0 σ' := by
  have s2 : σ.2.2 0 2 = t := by rw [(la_E hS).2.2.2]; exact r2
  have hk := hR.2.1
  have hm := pow8 (n := k - 2) (by omega)
  have hlu := LO_UP (odP σ0 t 4 r) (k - 2) 1 T
  have hmul : T * 2 ^ (k - 2) ≤ 99999 * 256 := Nat.mul_le_mul hT hm.2
  obtain ⟨σ1, p1, p2⟩ := c_least d ht (show T ≤ 100000 by omega) hR hla σ hS
  rw [e_HH_endOfBack, q_HH_endOfBack_0, s2, p1, rI_s]
  simp only [Option.bind_some]
  unfold eB
  by_cases h : LON (odP σ0 t 4 r) (k - 2) 1 T ≤ 999999
  · rw [jif_t (show nI (LON (odP σ0 t 4 r) (k - 2) 1 T) ≤ (999999 : Int32) from nI_le (b := 999999) h (by omega)), if_pos h, q_HH_endOfBack_1]
    by_cases e : w = 0
    · subst e
      rw [jif_t nI_0, if_pos rfl, q_HH_endOfBack_3]
      exact ⟨σ1, rfl, p2⟩
    · rw [jif_f (nI_ne0 (by omega) (by omega)), if_neg e, q_HH_endOfBack_2]
      have t2 : σ1.2.2 0 2 = t := by rw [(la_E p2).2.2.2]; exact r2
      obtain ⟨σ2, q1, q2⟩ := c_least d ht (show T + 1 ≤ 100000 by omega) hR hla σ1 p2
      have hlu2 := LO_UP (odP σ0 t 4 r) (k - 2) 1 (T + 1)
      have hul := UP_LO (odP σ0 t 4 r) (k - 2) 1 T
      have hmul2 : (T + 1) * 2 ^ (k - 2) ≤ 100000 * 256 := Nat.mul_le_mul (by omega) hm.2
      rw [t2, nI_1, q1, rI_s]
      simp only [Option.bind_some]
      rw [← hul, nI_pred, q_HH_endOfBack_3]
      refine ⟨σ2, ?_, q2⟩
      by_cases z : 999999 < UPN (odP σ0 t 4 r) (k - 2) 1 T
      · rw [if_pos (show (999999 : Int32) < nI (UPN (odP σ0 t 4 r) (k - 2) 1 T) from nI_lt (a := 999999) z (by omega)), Nat.min_eq_right (by omega)]; rfl
      · rw [if_neg (show ¬ (999999 : Int32) < nI (UPN (odP σ0 t 4 r) (k - 2) 1 T) from nI_nlt (a := 999999) (by omega) (by omega)), Nat.min_eq_left (by omega)]
  · rw [jif_f (show ¬ nI (LON (odP σ0 t 4 r) (k - 2) 1 T) ≤ (999999 : Int32) from nI_ge (a := 999999) (by omega) (by omega)), if_neg h]
    exact ⟨σ1, rfl, p2⟩
theorem m_goesOn (d : Nat) {σ0 : jS} {t k A c p : Nat} {r : Nat → Nat} (ht : jTe t) (σ : jS) (hR : mRow σ k r) (hrA : ∀ j, j < k → r j < A) (hl : lawR σ t 4 0) (hby : σ.1 86 32 = nI 0) (hB : mB σ0 σ t A) (hc : c < 2 ^ 31) (hp : p + 1 < k) :
    ∃ σ', g_M_goesOn (d + 5) (lN c) (nI p) σ = some (some (.int (nI (hf (odP σ0 t 4 r) p c))), σ') ∧ jep ml_S σ σ' := by
  obtain ⟨b1, b2, b3, b4⟩ := id hR
  obtain ⟨x1, x2⟩ := b4 p (by omega)
  obtain ⟨y1, y2⟩ := b4 (p + 1) hp
  rw [e_M_goesOn, q_M_goesOn_0, rdI_ok (a := 114) (n := 10) rfl rfl (by omega) (by omega)]
  simp only [Option.bind_some]
  rw [nI_1, rdI_ok (a := 114) (n := 10) rfl rfl (by omega) (by omega)]
  simp only [Option.bind_some]
  obtain ⟨σ', g1, g2⟩ := m_kept d ht (nI c) (r p) (r (p + 1)) (by omega) (by omega) (nI p) 0 σ hl hby
  obtain ⟨c1, c2, c3, c4⟩ := hB
  have key : mk_sh σ t 4 (nI c) (r p) (mk_age σ (r p)) (mk_age σ (r (p + 1))) (nI p) 0 = cSh σ0 t 4 r (nI c) p := by
    have := mSh_cSh (t := t) (L := 4) (r := r) (c := nI c) (j := p) c3 (A := A) (fun q hq => by rw [c4 q hq, c2]) (hrA p (by omega)) (hrA (p + 1) hp)
    rw [cSh_same c1 c2] at this
    exact this
  rw [key] at g1
  rw [lN_i, x1, y1, g1, rI_s]
  simp only [Option.bind_some]
  rw [cSh_N hc]
  exact ⟨σ', rfl, g2⟩
def bk_S : Nat → Nat → Prop := fun b j => ml_S b j ∨ (b = 86 ∧ (j = 52 ∨ j = 53))
theorem bk_no {t : Nat} (ht : jTe t) : ∀ b j, (t ≤ b ∧ b ≤ t + 14) ∨ (88 ≤ b ∧ b ≤ 101) ∨ (104 ≤ b ∧ b ≤ 114) ∨ (b = 86 ∧ (j = 30 ∨ j = 32 ∨ j = 50)) → ¬ bk_S b j := fun b j h q => by
  unfold bk_S ml_S at q
  rcases ht with rfl | rfl <;> omega
theorem lN_le63 {a b : Nat} (ha : a < 2 ^ 63) (hb : b < 2 ^ 63) : lN a ≤ lN b ↔ a ≤ b := pk_lLE ha hb
theorem m_backs_l (d : Nat) {σ0 σm : jS} {t k A T : Nat} {r : Nat → Nat} (ht : jTe t) (hk : k ≤ 10) (hR : mRow σm k r) (hrA : ∀ j, j < k → r j < A) (hl : lawR σm t 4 0) (hby : σm.1 86 32 = nI 0) (hB : mB σ0 σm t A) : ∀ (p : Nat) (σ : jS) (a b : Nat), p ≤ k - 2 → a = LON (odP σ0 t 4 r) (k - 2 - p) (p + 1) T → b = min (UPN (odP σ0 t 4 r) (k - 2 - p) (p + 1) T) 1999998 → a ≤ 1999998 → jep bk_S σm σ → σ.2.1 86 52 = lN a → σ.2.1 86 53 = lN b →
    ∃ σ' Z V, b_M_backs_1 (d + 5) (nI p) σ = some (none, σ') ∧ jep bk_S σm σ' ∧ σ'.2.1 86 52 = lN Z ∧ σ'.2.1 86 53 = lN V ∧ Z < 2 ^ 40 ∧ V < 2 ^ 40 ∧ (LON (odP σ0 t 4 r) (k - 2) 1 T ≤ 999999 → Z = LON (odP σ0 t 4 r) (k - 2) 1 T ∧ V = min (UPN (odP σ0 t 4 r) (k - 2) 1 T) 1999998) ∧ (999999 < LON (odP σ0 t 4 r) (k - 2) 1 T → 999999 < Z)
  | 0, σ, a, b, hp, ea, eb, ha, hS, h52, h53 => by
    rw [q_M_backs_1, jif_t (show nI 0 ≤ 0 by decide), q_M_backs_7]
    rw [Nat.sub_zero] at ea eb
    refine ⟨σ, a, b, rfl, hS, h52, h53, by omega, by omega, fun _ => ⟨ea, eb⟩, fun q => ?_⟩
    have ea' : a = LON (odP σ0 t 4 r) (k - 2) 1 T := ea
    omega
  | p + 1, σ, a, b, hp, ea, eb, ha, hS, h52, h53 => by
    have nS := bk_no ht
    have hb : b ≤ 1999998 := by omega
    have e2 : ∀ x, (2 : Int64) * lN x = lN (2 * x) := fun x => lN_mul 2 x
    rw [q_M_backs_1, jif_f (show ¬ nI (p + 1) ≤ 0 from nI_nle (by omega) (by omega)), h52, h53, e2, e2]
    simp only [lg_cmp_le]
    by_cases q : 2 * a ≤ 1999998
    · rw [jif_t (show lN (2 * a) ≤ (1999998 : Int64) from (lN_le63 (b := 1999998) (by omega) (by omega)).mpr q), q_M_backs_2]
      simp only [lg_cmp_le]
      -- the lower end
      have low : ∃ σ1, jif (lN (2 * a) ≤ 0) (b_M_backs_3 (d + 5) (nI (p + 1)) (lN (2 * a)) (lN (2 * b)) σ) ((r_I (g_M_goesOn (d + 5) (lN (2 * a) - 1) (nI (p + 1)) σ)).bind fun q1 => jif (q1.1 = Int64.toInt32 (lN (2 * a) / 2)) (b_M_backs_4 (d + 5) (nI (p + 1)) (lN (2 * b)) (lN (2 * a) - 1) q1.2) (b_M_backs_3 (d + 5) (nI (p + 1)) (lN (2 * a)) (lN (2 * b)) q1.2)) = b_M_backs_4 (d + 5) (nI (p + 1)) (lN (2 * b)) (lN (loN (odP σ0 t 4 r) (p + 1) a)) σ1 ∧ jep bk_S σm σ1 ∧ σ1.2.1 86 53 = lN b := by
        unfold loN
        by_cases e0 : a = 0
        · subst e0
          rw [jif_t (show lN (2 * 0) ≤ 0 by decide), q_M_backs_3, if_neg (fun z => absurd z.1 (by omega))]
          exact ⟨σ, rfl, hS, h53⟩
        · rw [jif_f (show ¬ lN (2 * a) ≤ 0 from fun z => by have := (lN_le63 (b := 0) (by omega) (by omega)).mp z; omega)]
          have es : lN (2 * a) - 1 = lN (2 * a - 1) := lN_sub (a := 2 * a) (b := 1) (by omega)
          have ed : lN (2 * a) / 2 = lN a := by
            have := pk_lDiv (a := 2 * a) (b := 2) (by omega) (by omega) (by omega)
            rw [show 2 * a / 2 = a by omega] at this
            exact this
          obtain ⟨σ1, g1, g2⟩ := m_goesOn d (σ0 := σ0) (A := A) (c := 2 * a - 1) (p := p + 1) ht σ (hR.fr hS (fun b j h => nS b j (by omega))) hrA (hl.fr hS (fun b j h => nS b j (by unfold lawP at h; omega))) (by rw [(hS 86 32 (nS _ _ (by omega))).1]; exact hby) (hB.fr hS (fun b j h => nS b j (by omega))) (by omega) (by omega)
          have S1 : jep bk_S σm σ1 := hS.tr (g2.mono (fun b j h => Or.inl h))
          have f53 : σ1.2.1 86 53 = lN b := by rw [(g2 86 53 (fun q => by rcases q with q | q | q <;> omega)).2.1]; exact h53
          have hh := (hf_r (odP σ0 t 4 r) (p + 1) (2 * a - 1)).2
          rw [es, ed, g1, rI_s, lN_i]
          simp only [Option.bind_some]
          by_cases z : hf (odP σ0 t 4 r) (p + 1) (2 * a - 1) = a
          · rw [jif_t (congrArg nI z), if_pos ⟨by omega, z⟩]
            exact ⟨σ1, rfl, S1, f53⟩
          · rw [jif_f (fun y => z (nI_inj (by omega) (by omega) y)), if_neg (fun y => z y.2), q_M_backs_3]
            exact ⟨σ1, rfl, S1, f53⟩
      obtain ⟨σ1, g1, S1, f53⟩ := low
      rw [g1, q_M_backs_4]
      have S1' : jep bk_S σm (j_setL σ1 86 52 (lN (loN (odP σ0 t 4 r) (p + 1) a))) := S1.sL (Or.inr ⟨rfl, by omega⟩)
      have c52 : (j_setL σ1 86 52 (lN (loN (odP σ0 t 4 r) (p + 1) a))).2.1 86 52 = lN (loN (odP σ0 t 4 r) (p + 1) a) := by rw [setL_get, if_pos ⟨rfl, rfl⟩]
      generalize j_setL σ1 86 52 (lN (loN (odP σ0 t 4 r) (p + 1) a)) = σ2 at *
      have es : lN (2 * b) + 1 = lN (2 * b + 1) := lN_1 _
      have ed : lN (2 * b) / 2 = lN b := by
        have := pk_lDiv (a := 2 * b) (b := 2) (by omega) (by omega) (by omega)
        rw [show 2 * b / 2 = b by omega] at this
        exact this
      obtain ⟨σ3, g3, g4⟩ := m_goesOn d (σ0 := σ0) (A := A) (c := 2 * b + 1) (p := p + 1) ht σ2 (hR.fr S1' (fun b j h => nS b j (by omega))) hrA (hl.fr S1' (fun b j h => nS b j (by unfold lawP at h; omega))) (by rw [(S1' 86 32 (nS _ _ (by omega))).1]; exact hby) (hB.fr S1' (fun b j h => nS b j (by omega))) (by omega) (by omega)
      have S3 : jep bk_S σm σ3 := S1'.tr (g4.mono (fun b j h => Or.inl h))
      have f52 : σ3.2.1 86 52 = lN (loN (odP σ0 t 4 r) (p + 1) a) := by rw [(g4 86 52 (fun q => by rcases q with q | q | q <;> omega)).2.1]; exact c52
      have hh := (hf_r (odP σ0 t 4 r) (p + 1) (2 * b + 1)).2
      have up : (r_I (g_M_goesOn (d + 5) (lN (2 * b) + 1) (nI (p + 1)) σ2)).bind (fun q1 => jif (q1.1 = Int64.toInt32 (lN (2 * b) / 2)) (b_M_backs_6 (d + 5) (nI (p + 1)) (lN (2 * b) + 1) q1.2) (b_M_backs_5 (d + 5) (nI (p + 1)) (lN (2 * b)) q1.2)) = b_M_backs_6 (d + 5) (nI (p + 1)) (lN (upN (odP σ0 t 4 r) (p + 1) b)) σ3 := by
        rw [es, ed, g3, rI_s, lN_i]
        simp only [Option.bind_some]
        unfold upN
        by_cases z : hf (odP σ0 t 4 r) (p + 1) (2 * b + 1) = b
        · rw [jif_t (congrArg nI z), if_pos z]
        · rw [jif_f (fun y => z (nI_inj (by omega) (by omega) y)), if_neg z, q_M_backs_5]
      have hup := upN_r (odP σ0 t 4 r) (p + 1) b
      have e53 : (j_setL σ3 86 53 (lN (upN (odP σ0 t 4 r) (p + 1) b))).2.1 86 53 = lN (upN (odP σ0 t 4 r) (p + 1) b) := by rw [setL_get, if_pos ⟨rfl, rfl⟩]
      rw [up, q_M_backs_6, e53]
      have emin : (if (1999998 : Int64) < lN (upN (odP σ0 t 4 r) (p + 1) b) then 1999998 else lN (upN (odP σ0 t 4 r) (p + 1) b)) = lN (min (upN (odP σ0 t 4 r) (p + 1) b) 1999998) := by
        by_cases z : 1999998 < upN (odP σ0 t 4 r) (p + 1) b
        · rw [if_pos (show (1999998 : Int64) < lN (upN (odP σ0 t 4 r) (p + 1) b) from (pk_lLT (a := 1999998) (by omega) (by omega)).mpr z), Nat.min_eq_right (by omega)]; rfl
        · rw [if_neg (show ¬ (1999998 : Int64) < lN (upN (odP σ0 t 4 r) (p + 1) b) from fun y => z ((pk_lLT (a := 1999998) (by omega) (by omega)).mp y)), Nat.min_eq_left (by omega)]
      rw [emin, show nI (p + 1) + (-1) = nI p from pk_m1 p]
      have e1 : k - 2 - p = (k - 2 - (p + 1)) + 1 := by omega
      have hla' := loN_r (odP σ0 t 4 r) (p + 1) a
      refine m_backs_l d ht hk hR hrA hl hby hB p _ (loN (odP σ0 t 4 r) (p + 1) a) (min (upN (odP σ0 t 4 r) (p + 1) b) 1999998) (by omega) ?_ ?_ (by omega) ((S3.sL (Or.inr ⟨rfl, by omega⟩)).sL (Or.inr ⟨rfl, by omega⟩)) ?_ ?_
      · rw [e1, ea]; rfl
      · rw [e1]
        show _ = min (upN (odP σ0 t 4 r) (p + 1) (UPN (odP σ0 t 4 r) (k - 2 - (p + 1)) (p + 1 + 1) T)) 1999998
        have hup2 := upN_r (odP σ0 t 4 r) (p + 1) (UPN (odP σ0 t 4 r) (k - 2 - (p + 1)) (p + 1 + 1) T)
        by_cases z : UPN (odP σ0 t 4 r) (k - 2 - (p + 1)) (p + 1 + 1) T ≤ 1999998
        · rw [Nat.min_eq_left z] at eb
          rw [eb]
        · rw [Nat.min_eq_right (by omega)] at eb
          subst eb
          omega
      · rw [setL_get, if_neg (by omega), setL_get, if_neg (by omega)]; exact f52
      · rw [setL_get, if_pos ⟨rfl, rfl⟩]
    · rw [jif_f (show ¬ lN (2 * a) ≤ (1999998 : Int64) from fun z => q ((lN_le63 (b := 1999998) (by omega) (by omega)).mp z))]
      have hge := LO_ge (odP σ0 t 4 r) T (k - 2 - (p + 1)) (p + 1) 1
      rw [show p + 1 + (k - 2 - (p + 1)) = k - 2 by omega, show 1 + (p + 1) = p + 1 + 1 by omega, ← ea] at hge
      refine ⟨_, 2 * a, 2 * a, rfl, (hS.sL (Or.inr ⟨rfl, by omega⟩)).sL (Or.inr ⟨rfl, by omega⟩), ?_, ?_, by omega, by omega, fun z => absurd z (by omega), fun _ => by omega⟩
      · rw [setL_get, if_neg (by omega), setL_get, if_pos ⟨rfl, rfl⟩]
      · rw [setL_get, if_pos ⟨rfl, rfl⟩]
