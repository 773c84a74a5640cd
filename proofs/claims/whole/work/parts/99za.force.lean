/-! Working out changes nothing. -/
theorem kfN_eq (n : Nat) (k : Nat → kO) : kfN n k = k n := by cases n <;> rfl
theorem kf_i32 (x : Int32) : Int32.ofNat x.toUInt32.toNat = x := by
  rw [show Int32.ofNat x.toUInt32.toNat = ⟨UInt32.ofNat x.toUInt32.toNat⟩ from rfl, UInt32.ofNat_toNat]
theorem kfI_eq (x : Int32) (k : Int32 → kO) : kfI x k = k x := by
  unfold kfI
  rw [kfN_eq, kf_i32]
theorem kfV_eq (v : Value) (k : Value → kO) : kfV v k = k v := by
  cases v with
  | int x => show kfI x (fun x => k (.int x)) = _; rw [kfI_eq]
  | ref a => show kfN a (fun a => k (.ref a)) = _; rw [kfN_eq]
  | _ => rfl
theorem kfL_eq {β : Type} {f : β → (β → kO) → kO} (hf : ∀ x k, f x k = k x) : ∀ (l : List β) (k : List β → kO), kfL f l k = k l
  | [], _ => rfl
  | x :: r, k => by
    unfold kfL
    rw [hf, kfL_eq hf r]
theorem kfX_eq {β : Type} (x : β) (k : β → kO) : kfX x k = k x := rfl
theorem kfQ_eq (q : Nat × Value) (k : Nat × Value → kO) : kfQ q k = k q := by
  obtain ⟨n, v⟩ := q
  show kfN n (fun n => kfV v fun v => k (n, v)) = _
  rw [kfN_eq, kfV_eq]
