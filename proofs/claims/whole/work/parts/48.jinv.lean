/-! A journey out of the invariant, and back into it; hours. -/
theorem cl_n {x : Int32} {n : Nat} (h : x = nI n) (hn : n < 2 ^ 31) : x.toNatClampNeg = n := by rw [h, nI_clamp hn]
theorem cl_e {x : Int32} {n : Nat} (h : x = nI n) (hn : n < 2 ^ 31) : nI x.toNatClampNeg = x := by rw [cl_n h hn, h]
noncomputable def jPof (σ : jS) (t j A N : Nat) (w i : Int32) : jQ := jQmk A N (fun k => (σ.1 (j + 3) k).toNatClampNeg) (fun k => (σ.1 (j + 4) k).toNatClampNeg) (fun k => (σ.1 (j + 5) k).toNatClampNeg)
  (fun p => if w = 0 ∧ i = nI p then 0 else if w = 2 then min (σ.1 (t + 4) p).toNatClampNeg 1 else (σ.1 (t + 4) p).toNatClampNeg) (fun p u => (σ.1 (t + 5) (3 * p + u)).toNatClampNeg) (fun k => w = 5 ∧ i = nI k)
  (fun c p o n H => c % 2 = 1 ∧ w ≠ 4 ∧ ((w = 3 ∧ i = nI p) ∨ lw_odd σ t 4 (nI c) (jAge σ t w p) (jAge σ t w o) (nI n) (nI H)))
theorem jPof_e {σ : jS} {t j A N Pt M : Nat} {w i : Int32} (hte : iTell σ t A Pt M) : jPe σ t w i (jPof σ t j A N w i) := by
  obtain ⟨a1, a2, a3, a4, a5, a6, a7, a8, a9, a10, a11, a12, a13⟩ := hte
  refine ⟨fun p hp => ?_, fun k => Iff.rfl, fun c p o n H _ _ => Iff.rfl⟩
  obtain ⟨b1, b2, b3, b4, ws, w1, w2, w3⟩ := a11 p hp
  refine ⟨ws, w1, w2, ?_, fun u hu => ?_⟩
  · show (if w = 0 ∧ i = nI p then 0 else if w = 2 then min (σ.1 (t + 4) p).toNatClampNeg 1 else (σ.1 (t + 4) p).toNatClampNeg) = _
    rw [cl_n w2 (by omega)]
  · obtain ⟨-, q, hq, hq2⟩ := w3 u hu
    show σ.1 (t + 5) (3 * p + u) = nI (σ.1 (t + 5) (3 * p + u)).toNatClampNeg
    rw [cl_e hq2 (by omega)]
theorem jPof_wf {σ : jS} {t j A N Pt M h fr : Nat} {w i : Int32} (hte : iTell σ t A Pt M) (hjo : iJour σ t A j h N fr) : wfP (jPof σ t j A N w i) := by
  have hPe := jPof_e (j := j) (N := N) (w := w) (i := i) hte
  obtain ⟨a1, a2, a3, a4, a5, a6, a7, a8, a9, a10, a11, a12, a13⟩ := hte
  obtain ⟨n1, n2, n3, n4, n5, n6, n7, n8⟩ := hjo
  refine ⟨a1, n1, fun k hk => ?_, fun k hk => ?_, fun k hk => ?_, fun p hp => ?_, fun p u hp hu => ?_, fun c p o n H q => q.1⟩
  · obtain ⟨-, -, -, -, -, -, -, ⟨f, f1, f2⟩, -⟩ := n8 k hk
    show (σ.1 (j + 3) k).toNatClampNeg < A
    rw [cl_n f2 (by omega)]; exact f1
  · obtain ⟨-, -, -, -, -, -, -, -, ⟨f, f1, f2, f3⟩, -⟩ := n8 k hk
    show 1 ≤ (σ.1 (j + 4) k).toNatClampNeg ∧ (σ.1 (j + 4) k).toNatClampNeg ≤ 99999
    rw [cl_n f3 (by omega)]; exact ⟨f1, f2⟩
  · obtain ⟨-, -, -, -, -, -, -, -, -, ⟨f, f1, f2⟩, -⟩ := n8 k hk
    show (σ.1 (j + 5) k).toNatClampNeg ≤ 3000
    rw [cl_n f2 (by omega)]; exact f1
  · obtain ⟨ws, w1, -, -, w4, -⟩ := hPe.w p hp
    omega
  · obtain ⟨ws, w1, -, -, w4, -⟩ := hPe.w p hp
    obtain ⟨b1, b2, b3, b4, ws', v1, v2, v3⟩ := a11 p hp
    have hw : u < ws' := by
      obtain ⟨ws2, x1, x2, x3, x4, -⟩ := hPe.w p hp
      have : ws2 = ws' := nI_inj (by omega) (by omega) (x2.symm.trans v2)
      omega
    obtain ⟨-, q, hq, hq2⟩ := v3 u hw
    show (σ.1 (t + 5) (3 * p + u)).toNatClampNeg < A
    rw [cl_n hq2 (by omega)]; exact hq
noncomputable def jJof (σ : jS) (j : Nat) : jJ := jmk (σ.1 j 0).toNatClampNeg (σ.1 (j + 1)) (fun p => (σ.1 (j + 2) p).toNatClampNeg) (fun k => (σ.1 (j + 6) k).toNatClampNeg) (fun k => (σ.1 (j + 7) k).toNatClampNeg) (fun k => (σ.1 (j + 8) k).toNatClampNeg) (σ.1 (j + 9))
/-- what a parcel's numbers are -/
theorem iJour.k {σ : jS} {t A j h N fr : Nat} (hjo : iJour σ t A j h N fr) {k : Nat} (hk : k < N) : (∃ s, s ≤ 2 ∧ σ.1 (j + 6) k = nI s) ∧ (∃ l, l ≤ 99999 ∧ σ.1 (j + 7) k = nI l) ∧ ∃ n, n ≤ 100 ∧ σ.1 (j + 8) k = nI n := by
  obtain ⟨n1, n2, n3, n4, n5, n6, n7, n8⟩ := hjo
  obtain ⟨-, -, -, -, -, -, -, -, -, -, hs, n, m1, m2, -⟩ := n8 k hk
  refine ⟨?_, ?_, n, m1, m2⟩
  · rcases hs with ⟨s1, -⟩ | ⟨s1, -⟩ | ⟨s1, -⟩
    · exact ⟨0, by omega, s1⟩
    · exact ⟨2, by omega, s1⟩
    · exact ⟨1, by omega, s1⟩
  · rcases hs with ⟨-, s1⟩ | ⟨-, s1⟩ | ⟨-, -, -, l, -, l2, l3⟩
    · exact ⟨0, by omega, s1⟩
    · exact ⟨0, by omega, s1⟩
    · exact ⟨l, l2, l3⟩
theorem jJof_c {σ : jS} {t j A N h fr : Nat} {P : jQ} (hA : P.A = A) (hN : P.N = N) (hjo : iJour σ t A j h N fr) : cJ σ j P (jJof σ j) := by
  subst hA; subst hN
  obtain ⟨n1, n2, n3, ⟨H, n4, n4'⟩, n5, n6, n7, n8⟩ := id hjo
  refine ⟨(cl_e n4' (by omega)).symm, fun p _ => rfl, fun p hp => ?_, fun k hk => ?_, fun k hk => ?_, fun k hk => ?_, fun k _ => rfl⟩
  · obtain ⟨-, -, u, w, u1, u2, u3, -⟩ := n7 p hp
    exact (cl_e u1 (by omega)).symm
  · obtain ⟨⟨s, s1, s2⟩, -, -⟩ := hjo.k hk
    exact (cl_e s2 (by omega)).symm
  · obtain ⟨-, ⟨s, s1, s2⟩, -⟩ := hjo.k hk
    exact (cl_e s2 (by omega)).symm
  · obtain ⟨-, -, s, s1, s2⟩ := hjo.k hk
    exact (cl_e s2 (by omega)).symm
theorem jJof_m {σ : jS} {t j A N h fr : Nat} {P : jQ} (hA : P.A = A) (hN : P.N = N) (hjo : iJour σ t A j h N fr) : mJ σ h P (jJof σ j) := by
  obtain ⟨c0, c1, c2, c3, c4, c5, c6⟩ := jJof_c hA hN hjo
  subst hA; subst hN
  obtain ⟨n1, n2, n3, n4, n5, n6, n7, n8⟩ := hjo
  refine ⟨n3.symm.trans c0, fun p hp => (n7 p hp).1.symm.trans (c1 p hp), fun p hp => (n7 p hp).2.1.symm.trans (c2 p hp), fun k hk => ?_, fun k hk => ?_, fun k hk => ?_, fun k hk => ?_⟩
  · obtain ⟨-, -, -, m4, -⟩ := n8 k hk
    exact m4.symm.trans (c3 k hk)
  · obtain ⟨-, -, -, -, m4, -⟩ := n8 k hk
    exact m4.symm.trans (c4 k hk)
  · obtain ⟨-, -, -, -, -, m4, -⟩ := n8 k hk
    exact m4.symm.trans (c5 k hk)
  · obtain ⟨-, -, -, -, -, -, m4, -⟩ := n8 k hk
    exact m4.symm.trans (c6 k hk)
theorem jJof_wf {σ : jS} {t j A N h fr Pt M : Nat} {i : Int32} (hte : iTell σ t A Pt M) (hjo : iJour σ t A j h N fr) : wfJ (jPof σ t j A N (-1) i) (jJof σ j) 0 := by
  have hPe := jPof_e (j := j) (N := N) (w := -1) (i := i) hte
  obtain ⟨n1, n2, n3, ⟨H, n4, n4'⟩, n5, n6, n7, n8⟩ := id hjo
  have hr : (jJof σ j).hr = H := cl_n n4' (by omega)
  refine ⟨fun p hp => ?_, fun k hk => ?_, fun k hk => ?_⟩
  · obtain ⟨-, -, u, w, u1, u2, u3, u5, u4⟩ := n7 p hp
    obtain ⟨ws, w1, w2, w3, w4, -⟩ := hPe.w p hp
    have hu : (jJof σ j).tu p = u := cl_n u1 (by omega)
    rw [if_neg (fun q : (-1 : Int32) = 0 ∧ i = nI p => absurd q.1 (by decide)), if_neg (by decide)] at w3
    rw [hu, w3]
    obtain ⟨a1, a2, a3, a4, a5, a6, a7, a8, a9, a10, a11, a12, a13⟩ := hte
    obtain ⟨-, -, -, -, wz, z1, z2, -⟩ := a11 p hp
    have e1 : ws = wz := nI_inj (by omega) (by omega) (w2.symm.trans z2)
    rcases u4 with u4 | u4
    · have hw31 : w = wz := nI_inj (by omega) (by omega) (u2.symm.trans z2)
      left; omega
    · right; exact u4
  · obtain ⟨-, -, -, -, -, -, -, hf, hwh, ⟨u, hu1, hu2⟩, hs, -⟩ := n8 k hk
    have hdu : (jPof σ t j A N (-1) i).du k = u := cl_n hu2 (by omega)
    rcases hs with ⟨s1, s2⟩ | ⟨s1, s2⟩ | ⟨s1, s2, s3, l, l1, l2, l3⟩
    · exact Or.inl ⟨cl_n (n := 0) s1 (by omega), cl_n (n := 0) s2 (by omega)⟩
    · exact Or.inr (Or.inl ⟨cl_n (n := 2) s1 (by omega), cl_n (n := 0) s2 (by omega)⟩)
    · have hl : (jJof σ j).lf k = l := cl_n l3 (by omega)
      refine Or.inr (Or.inr ⟨cl_n (n := 1) s1 (by omega), ?_, s3, by omega, by omega⟩)
      rw [hdu, hr]
      rw [hu2, n4'] at s2
      have := (nI_ltI (by omega) (by omega)).mp s2
      omega
  · obtain ⟨-, -, -, -, -, -, -, -, -, -, hs, n, m1, m2, m3⟩ := n8 k hk
    have hn : (jJof σ j).hd k = n := cl_n m2 (by omega)
    rw [hn]
    refine ⟨m1, fun q => m3 (fun z => q ?_)⟩
    exact cl_n (n := 2) z (by omega)
/-- all but what is tried -/
def mE0 (σ : jS) (t : Nat) (w i : Int32) (P : jQ) : Prop := σ.1 86 36 = nI P.N ∧ lawR σ t 4 0 ∧
  (∀ p, p < P.A → σ.1 90 p = σ.1 (t + 2) p ∧ ∃ ws, ws ≤ 3 ∧ σ.1 92 p = nI ws ∧ P.mny p = (if w = 0 ∧ i = nI p then 0 else if w = 2 then min ws 1 else ws) ∧ P.mny p ≤ ws ∧ ∀ u, u < ws → σ.1 93 (3 * p + u) = nI (P.hei p u)) ∧
  (∀ k, k < P.N → σ.1 104 k = nI (P.fr k) ∧ σ.1 105 k = nI (P.wh k) ∧ σ.1 106 k = nI (P.du k)) ∧ jPe σ t w i P
theorem mE0.fr {S : Nat → Nat → Prop} {σ σ' : jS} {t : Nat} {w i : Int32} {P : jQ} (h : jep S σ σ') (hS : ∀ b k, (t ≤ b ∧ b ≤ t + 14) ∨ (88 ≤ b ∧ b ≤ 101) ∨ (104 ≤ b ∧ b ≤ 106) ∨ (b = 86 ∧ k = 36) → ¬ S b k) (g : mE0 σ t w i P) : mE0 σ' t w i P := by
  have cT : ∀ i, i ≤ 14 → σ'.1 (t + i) = σ.1 (t + i) := fun i hi => h.cellI (fun k => hS _ k (by omega))
  have cC : ∀ b, (88 ≤ b ∧ b ≤ 101) ∨ (104 ≤ b ∧ b ≤ 106) → σ'.1 b = σ.1 b := fun b hb => h.cellI (fun k => hS _ k (by omega))
  have hE : lawE t σ σ' := ⟨cT 10 (by omega), cT 11 (by omega), cT 12 (by omega), cT 13 (by omega), cT 14 (by omega)⟩
  obtain ⟨g4, g5, g6, g7, g8⟩ := g
  refine ⟨by rw [(h 86 36 (hS _ _ (by omega))).1]; exact g4, g5.fr h (fun b j q => hS b j (by unfold lawP at q; omega)), fun p hp => ?_, fun k hk => ?_, g8.of (cT 2 (by omega)) (cT 4 (by omega)) (cT 5 (by omega)) hE⟩
  · rw [cC 90 (by omega), cC 92 (by omega), cC 93 (by omega), cT 2 (by omega)]
    exact g6 p hp
  · rw [cC 104 (by omega), cC 105 (by omega), cC 106 (by omega)]
    exact g7 k hk
theorem mE0_of {σ : jS} {t j A N h Pt M : Nat} {w i : Int32} (hte : iTell σ t A Pt M) (hla : lawR σ t 4 0) (hjo : iJour σ t A j h N 104) (h36 : σ.1 86 36 = nI N) : mE0 σ t w i (jPof σ t j A N w i) := by
  have hPe := jPof_e (j := j) (N := N) (w := w) (i := i) hte
  refine ⟨h36, hla, fun p hp => ?_, fun k hk => ?_, hPe⟩
  · obtain ⟨ws, w1, w2, w3, w4, w5⟩ := hPe.w p hp
    obtain ⟨a1, a2, a3, a4, a5, a6, a7, a8, a9, a10, a11, a12, a13⟩ := hte
    obtain ⟨b1, b2, b3, b4, wz, z1, z2, z3⟩ := a11 p hp
    have e1 : wz = ws := nI_inj (by omega) (by omega) (z2.symm.trans w2)
    subst e1
    exact ⟨b2.symm, wz, w1, b4.symm.trans w2, w3, w4, fun u hu => (z3 u hu).1.symm.trans (w5 u hu)⟩
  · obtain ⟨n1, n2, n3, n4, n5, n6, n7, n8⟩ := hjo
    obtain ⟨m1, m2, m3, -, -, -, -, ⟨f, f1, f2⟩, ⟨x, x1, x2, x3⟩, ⟨y, y1, y2⟩, -⟩ := n8 k hk
    have a10 := hte.1
    exact ⟨m1.symm.trans (cl_e f2 (by omega)).symm, m2.symm.trans (cl_e x3 (by omega)).symm, m3.symm.trans (cl_e y2 (by omega)).symm⟩
theorem cE_of {σ : jS} {t j A N h Pt M fr : Nat} (hte : iTell σ t A Pt M) (hla : lawR σ t 4 0) (hjo : iJour σ t A j h N fr) : cE σ j t (-1) (σ.1 j 13) (jPof σ t j A N (-1) (σ.1 j 13)) := by
  have hPe := jPof_e (j := j) (N := N) (w := -1) (i := σ.1 j 13) hte
  have a10 := hte.1
  obtain ⟨n1, n2, n3, n4, n5, n6, n7, n8⟩ := hjo
  refine ⟨n5, n6, rfl, n2, hte.2.2.2.1, hla.W, fun k hk => ?_, hPe⟩
  obtain ⟨m1, m2, m3, -, -, -, -, ⟨f, f1, f2⟩, ⟨x, x1, x2, x3⟩, ⟨y, y1, y2⟩, -⟩ := n8 k hk
  exact ⟨(cl_e f2 (by omega)).symm, (cl_e x3 (by omega)).symm, (cl_e y2 (by omega)).symm⟩
theorem iJour.of {σ : jS} {t j h fr : Nat} {i i' : Int32} {P : jQ} {J : jJ} (hP : wfP P) (hE : cE σ j t (-1) i P) (hfr : ∀ k, k < P.N → σ.1 fr k = nI (P.fr k) ∧ σ.1 (fr + 1) k = nI (P.wh k) ∧ σ.1 (fr + 2) k = nI (P.du k)) (hc : cJ σ j P J) (hm : mJ σ h P J) (hw : wfJ P J 0) (hH : J.hr ≤ 3000) : iJour σ t P.A j h P.N fr := by
  obtain ⟨e1, e2, e3, e4, e5, e6, e7, e8⟩ := hE
  obtain ⟨c0, c1, c2, c3, c4, c5, c6⟩ := hc
  obtain ⟨m0, m1, m2, m3, m4, m5, m6⟩ := hm
  have hA := hP.A10
  refine ⟨hP.N30, e4, c0.trans m0.symm, ⟨J.hr, hH, c0⟩, e1, e2, fun p hp => ⟨(c1 p hp).trans (m1 p hp).symm, (c2 p hp).trans (m2 p hp).symm, ?_⟩, fun k hk => ?_⟩
  · obtain ⟨ws, w1, w2, w3, w4, -⟩ := e8.w p hp
    have := hw.tu p hp
    refine ⟨J.tu p, ws, c2 p hp, w2, by omega, by omega, by omega⟩
  · have f7 := e7 k hk
    have g7 := hfr k hk
    have hf := hP.fr k hk
    have hwh := hP.wh k hk
    have hdu := hP.du k hk
    have hst := hw.pa k hk
    have hhd := hw.hd k hk
    refine ⟨f7.1.trans g7.1.symm, f7.2.1.trans g7.2.1.symm, f7.2.2.trans g7.2.2.symm, (c3 k hk).trans (m3 k hk).symm, (c4 k hk).trans (m4 k hk).symm, (c5 k hk).trans (m5 k hk).symm, (c6 k hk).trans (m6 k hk).symm, ⟨_, hf, f7.1⟩, ⟨_, hwh.1, hwh.2, f7.2.1⟩, ⟨_, hdu, f7.2.2⟩, ?_, J.hd k, hhd.1, c5 k hk, fun q => hhd.2 (fun z => q (by rw [c3 k hk, z]; rfl))⟩
    rcases hst with ⟨s1, s2⟩ | ⟨s1, s2⟩ | ⟨s1, s2, ⟨q, q1, q2⟩, s4, s5⟩
    · exact Or.inl ⟨by rw [c3 k hk, s1]; rfl, by rw [c4 k hk, s2]; rfl⟩
    · exact Or.inr (Or.inl ⟨by rw [c3 k hk, s1]; rfl, by rw [c4 k hk, s2]; rfl⟩)
    · exact Or.inr (Or.inr ⟨by rw [c3 k hk, s1]; rfl, by rw [f7.2.2, c0]; exact nI_lt (by omega) (by omega), ⟨q, q1, (c6 k hk).trans q2⟩, ⟨_, s4, s5, c4 k hk⟩⟩)
/-- what calls that change the run alone may write -/
def jr_S (t : Nat) : Nat → Nat → Prop := fun b k => jScr t b k ∨ (39 ≤ b ∧ b ≤ 48) ∨ (104 ≤ b ∧ b ≤ 106) ∨ (b = 86 ∧ k = 36) ∨ (b = 107 ∧ k = 0) ∨ (108 ≤ b ∧ b ≤ 109 ∧ k < 10) ∨ (110 ≤ b ∧ b ≤ 113 ∧ k < 30)
theorem jInv.jr {σ σ' : jS} {t A N' : Nat} (g : jInv σ t) (hA : σ.1 t 0 = nI A) (hA10 : A ≤ 10) (h : jep (jr_S t) σ σ') (h36 : σ'.1 86 36 = nI N') (hjo : iJour σ' t A 39 0 N' 104) : jInv σ' t := by
  obtain ⟨ht, r2, r3, hT, hF, A', Pt, M, N, hte, hla, -, -, hno, him⟩ := g
  have eA : A' = A := nI_inj (by have := hte.1; omega) (by omega) (hte.2.2.2.1.symm.trans hA)
  subst eA
  refine ⟨ht, ?_, ?_, hT.fr h ?_, hF.fr h ?_, A', Pt, M, N', hte.fr h ?_, hla.fr h ?_, h36, hjo, hno.fr h ?_, him.fr h ?_ hte.1⟩
  · rw [(h 0 2 (fun q => by unfold jr_S jScr at q; rcases ht with rfl | rfl <;> omega)).2.2]; exact r2
  · rw [(h 0 3 (fun q => by unfold jr_S jScr at q; rcases ht with rfl | rfl <;> omega)).2.2]; exact r3
  · intro b j p q; unfold tapeP at p; unfold jr_S jScr at q; rcases ht with rfl | rfl <;> omega
  · intro b j p q; unfold faultP at p; unfold jr_S jScr at q; rcases ht with rfl | rfl <;> omega
  · intro b j p q; unfold tellP at p; unfold jr_S jScr at q; rcases ht with rfl | rfl <;> omega
  · intro b j p q; unfold lawP at p; unfold jr_S jScr at q; rcases ht with rfl | rfl <;> omega
  · intro b j p q; unfold noteP at p; unfold jr_S jScr at q; rcases ht with rfl | rfl <;> omega
  · intro b j p q; unfold imgP jourP at p; unfold jr_S jScr at q; rcases ht with rfl | rfl <;> omega
