/-! 25: note. -/
def nAdd (σ : jS) (S : Nat) (n : Int32) (c : Int64) (co lo hi : Int32) : jS := j_setI (j_setI (j_setI (j_setI (j_setI (j_setL (j_setI σ 79 S n) 80 S c) 81 S co) 82 S lo) 83 S hi) 84 S (-1)) 78 0 (nI (S + 1))
def nAddM (σ : jS) (S : Nat) (n : Int32) (c : Int64) (co lo hi : Int32) : jS := j_setI (j_setI (j_setI (j_setI (j_setL (j_setI σ 117 S n) 118 S c) 119 S co) 120 S lo) 121 S hi) 86 69 (nI (S + 1))
theorem c_nAdd (d S : Nat) (hS : S < 40) (n : Int32) (c : Int64) (co lo hi : Int32) (σ : jS) (h : σ.1 78 0 = nI S) : g_Nt_add (d + 1) n c co lo hi σ = some (some (.int (nI S)), nAdd σ S n c co lo hi) := by
  rw [e_Nt_add, q_Nt_add_0, h, jif_t (show nI S < (40 : Int32) from nI_lt (b := 40) (by omega) (by omega)), q_Nt_add_1, h, wrI_ok (a := 79) (n := 40) rfl rfl hS (by omega)]
  simp only [Option.bind_some]
  have e1 : (j_setI σ 79 S n).1 78 0 = nI S := by rw [setI_ne (by omega)]; exact h
  rw [e1, wrL_ok (a := 80) (n := 40) rfl rfl hS (by omega)]
  simp only [Option.bind_some]
  have e2 : (j_setL (j_setI σ 79 S n) 80 S c).1 78 0 = nI S := e1
  rw [e2, wrI_ok (a := 81) (n := 40) rfl rfl hS (by omega)]
  simp only [Option.bind_some]
  have e3 : (j_setI (j_setL (j_setI σ 79 S n) 80 S c) 81 S co).1 78 0 = nI S := by rw [setI_ne (by omega)]; exact e2
  rw [e3, wrI_ok (a := 82) (n := 40) rfl rfl hS (by omega)]
  simp only [Option.bind_some]
  have e4 : (j_setI (j_setI (j_setL (j_setI σ 79 S n) 80 S c) 81 S co) 82 S lo).1 78 0 = nI S := by rw [setI_ne (by omega)]; exact e3
  rw [e4, wrI_ok (a := 83) (n := 40) rfl rfl hS (by omega)]
  simp only [Option.bind_some]
  have e5 : (j_setI (j_setI (j_setI (j_setL (j_setI σ 79 S n) 80 S c) 81 S co) 82 S lo) 83 S hi).1 78 0 = nI S := by rw [setI_ne (by omega)]; exact e4
  rw [e5, wrI_ok (a := 84) (n := 40) rfl rfl hS (by omega)]
  simp only [Option.bind_some]
  have e6 : (j_setI (j_setI (j_setI (j_setI (j_setL (j_setI σ 79 S n) 80 S c) 81 S co) 82 S lo) 83 S hi) 84 S (-1)).1 78 0 = nI S := by rw [setI_ne (by omega)]; exact e5
  rw [e6, nI_1, setI_same, nI_pred]
  rfl
theorem m_nAdd (d S : Nat) (hS : S < 40) (n : Int32) (c : Int64) (co lo hi : Int32) (σ : jS) (h : σ.1 86 69 = nI S) : b_M_note_2 d n c co lo hi σ = some (some (.int (nI S)), nAddM σ S n c co lo hi) := by
  rw [q_M_note_2, h, wrI_ok (a := 117) (n := 40) rfl rfl hS (by omega)]
  simp only [Option.bind_some]
  have e1 : (j_setI σ 117 S n).1 86 69 = nI S := by rw [setI_ne (by omega)]; exact h
  rw [e1, wrL_ok (a := 118) (n := 40) rfl rfl hS (by omega)]
  simp only [Option.bind_some]
  have e2 : (j_setL (j_setI σ 117 S n) 118 S c).1 86 69 = nI S := e1
  rw [e2, wrI_ok (a := 119) (n := 40) rfl rfl hS (by omega)]
  simp only [Option.bind_some]
  have e3 : (j_setI (j_setL (j_setI σ 117 S n) 118 S c) 119 S co).1 86 69 = nI S := by rw [setI_ne (by omega)]; exact e2
  rw [e3, wrI_ok (a := 120) (n := 40) rfl rfl hS (by omega)]
  simp only [Option.bind_some]
  have e4 : (j_setI (j_setI (j_setL (j_setI σ 117 S n) 118 S c) 119 S co) 120 S lo).1 86 69 = nI S := by rw [setI_ne (by omega)]; exact e3
  rw [e4, wrI_ok (a := 121) (n := 40) rfl rfl hS (by omega)]
  simp only [Option.bind_some]
  have e5 : (j_setI (j_setI (j_setI (j_setL (j_setI σ 117 S n) 118 S c) 119 S co) 120 S lo) 121 S hi).1 86 69 = nI S := by rw [setI_ne (by omega)]; exact e4
  rw [e5, nI_1, setI_same, nI_pred]
  rfl
