/-! The words of the class's tables, more. -/
section KOKW
def scK_0 : List (Nat × Nat) := [(425, 301)]
theorem sck_0_0 : ∀ p ∈ ([(425, 301)] : List (Nat × Nat)), (fun (c : Nat) (p : Nat × Nat) => Cond.methodLink (kcn c) p.1 (kYN p.2).1 ∈ kw) 0 p := List.forall_mem_cons.mpr ⟨kw_tab (tl_in (tb_9 (List.mem_of_getElem? (i := 8) (by decide +kernel)))) rfl, fun _ h => absurd h List.not_mem_nil⟩
theorem sck_0 : ∀ p ∈ scK_0, (fun (c : Nat) (p : Nat × Nat) => Cond.methodLink (kcn c) p.1 (kYN p.2).1 ∈ kw) 0 p := by
  show ∀ p ∈ ([(425, 301)] : List (Nat × Nat)), _
  exact sck_0_0
def scK_1 : List (Nat × Nat) := [(26, 301), (32, 300), (35, 312), (51, 57)]
theorem sck_1_0 : ∀ p ∈ ([(26, 301), (32, 300), (35, 312), (51, 57)] : List (Nat × Nat)), (fun (c : Nat) (p : Nat × Nat) => Cond.methodLink (kcn c) p.1 (kYN p.2).1 ∈ kw) 1 p := List.forall_mem_cons.mpr ⟨kw_tab (tl_in (tb_3 (List.mem_of_getElem? (i := 16) (by decide +kernel)))) rfl, List.forall_mem_cons.mpr ⟨kw_tab (tl_in (tb_3 (List.mem_of_getElem? (i := 19) (by decide +kernel)))) rfl, List.forall_mem_cons.mpr ⟨kw_tab (tl_in (tb_3 (List.mem_of_getElem? (i := 22) (by decide +kernel)))) rfl, List.forall_mem_cons.mpr ⟨kw_tab (tl_in (tb_3 (List.mem_of_getElem? (i := 227) (by decide +kernel)))) rfl, fun _ h => absurd h List.not_mem_nil⟩⟩⟩⟩
theorem sck_1 : ∀ p ∈ scK_1, (fun (c : Nat) (p : Nat × Nat) => Cond.methodLink (kcn c) p.1 (kYN p.2).1 ∈ kw) 1 p := by
  show ∀ p ∈ ([(26, 301), (32, 300), (35, 312), (51, 57)] : List (Nat × Nat)), _
  exact sck_1_0
def scK_2 : List (Nat × Nat) := [(364, 91), (374, 301)]
theorem sck_2_0 : ∀ p ∈ ([(364, 91), (374, 301)] : List (Nat × Nat)), (fun (c : Nat) (p : Nat × Nat) => Cond.methodLink (kcn c) p.1 (kYN p.2).1 ∈ kw) 2 p := List.forall_mem_cons.mpr ⟨kw_tab (tl_in (tb_3 (List.mem_of_getElem? (i := 183) (by decide +kernel)))) rfl, List.forall_mem_cons.mpr ⟨kw_tab (tl_in (tb_3 (List.mem_of_getElem? (i := 187) (by decide +kernel)))) rfl, fun _ h => absurd h List.not_mem_nil⟩⟩
theorem sck_2 : ∀ p ∈ scK_2, (fun (c : Nat) (p : Nat × Nat) => Cond.methodLink (kcn c) p.1 (kYN p.2).1 ∈ kw) 2 p := by
  show ∀ p ∈ ([(364, 91), (374, 301)] : List (Nat × Nat)), _
  exact sck_2_0
def scK_3 : List (Nat × Nat) := []
theorem sck_3 : ∀ p ∈ scK_3, (fun (c : Nat) (p : Nat × Nat) => Cond.methodLink (kcn c) p.1 (kYN p.2).1 ∈ kw) 3 p := fun _ h => absurd h List.not_mem_nil
def scK_4 : List (Nat × Nat) := [(114, 313), (161, 301), (167, 300)]
theorem sck_4_0 : ∀ p ∈ ([(114, 313), (161, 301), (167, 300)] : List (Nat × Nat)), (fun (c : Nat) (p : Nat × Nat) => Cond.methodLink (kcn c) p.1 (kYN p.2).1 ∈ kw) 4 p := List.forall_mem_cons.mpr ⟨kw_tab (tl_in (tb_4 (List.mem_of_getElem? (i := 213) (by decide +kernel)))) rfl, List.forall_mem_cons.mpr ⟨kw_tab (tl_in (tb_5 (List.mem_of_getElem? (i := 52) (by decide +kernel)))) rfl, List.forall_mem_cons.mpr ⟨kw_tab (tl_in (tb_5 (List.mem_of_getElem? (i := 53) (by decide +kernel)))) rfl, fun _ h => absurd h List.not_mem_nil⟩⟩⟩
theorem sck_4 : ∀ p ∈ scK_4, (fun (c : Nat) (p : Nat × Nat) => Cond.methodLink (kcn c) p.1 (kYN p.2).1 ∈ kw) 4 p := by
  show ∀ p ∈ ([(114, 313), (161, 301), (167, 300)] : List (Nat × Nat)), _
  exact sck_4_0
def scK_5 : List (Nat × Nat) := [(169, 303)]
theorem sck_5_0 : ∀ p ∈ ([(169, 303)] : List (Nat × Nat)), (fun (c : Nat) (p : Nat × Nat) => Cond.methodLink (kcn c) p.1 (kYN p.2).1 ∈ kw) 5 p := List.forall_mem_cons.mpr ⟨kw_tab (tl_in (tb_6 (List.mem_of_getElem? (i := 115) (by decide +kernel)))) rfl, fun _ h => absurd h List.not_mem_nil⟩
theorem sck_5 : ∀ p ∈ scK_5, (fun (c : Nat) (p : Nat × Nat) => Cond.methodLink (kcn c) p.1 (kYN p.2).1 ∈ kw) 5 p := by
  show ∀ p ∈ ([(169, 303)] : List (Nat × Nat)), _
  exact sck_5_0
def scK_6 : List (Nat × Nat) := [(282, 313)]
theorem sck_6_0 : ∀ p ∈ ([(282, 313)] : List (Nat × Nat)), (fun (c : Nat) (p : Nat × Nat) => Cond.methodLink (kcn c) p.1 (kYN p.2).1 ∈ kw) 6 p := List.forall_mem_cons.mpr ⟨kw_tab (tl_in (tb_7 (List.mem_of_getElem? (i := 89) (by decide +kernel)))) rfl, fun _ h => absurd h List.not_mem_nil⟩
theorem sck_6 : ∀ p ∈ scK_6, (fun (c : Nat) (p : Nat × Nat) => Cond.methodLink (kcn c) p.1 (kYN p.2).1 ∈ kw) 6 p := by
  show ∀ p ∈ ([(282, 313)] : List (Nat × Nat)), _
  exact sck_6_0
def scK_7 : List (Nat × Nat) := [(329, 300), (334, 303)]
theorem sck_7_0 : ∀ p ∈ ([(329, 300), (334, 303)] : List (Nat × Nat)), (fun (c : Nat) (p : Nat × Nat) => Cond.methodLink (kcn c) p.1 (kYN p.2).1 ∈ kw) 7 p := List.forall_mem_cons.mpr ⟨kw_tab (tl_in (tb_8 (List.mem_of_getElem? (i := 28) (by decide +kernel)))) rfl, List.forall_mem_cons.mpr ⟨kw_tab (tl_in (tb_8 (List.mem_of_getElem? (i := 29) (by decide +kernel)))) rfl, fun _ h => absurd h List.not_mem_nil⟩⟩
theorem sck_7 : ∀ p ∈ scK_7, (fun (c : Nat) (p : Nat × Nat) => Cond.methodLink (kcn c) p.1 (kYN p.2).1 ∈ kw) 7 p := by
  show ∀ p ∈ ([(329, 300), (334, 303)] : List (Nat × Nat)), _
  exact sck_7_0
def scK_8 : List (Nat × Nat) := [(58, 302), (66, 301), (69, 90), (99, 91), (120, 303)]
theorem sck_8_0 : ∀ p ∈ ([(58, 302), (66, 301), (69, 90), (99, 91), (120, 303)] : List (Nat × Nat)), (fun (c : Nat) (p : Nat × Nat) => Cond.methodLink (kcn c) p.1 (kYN p.2).1 ∈ kw) 8 p := List.forall_mem_cons.mpr ⟨kw_tab (tl_in (tb_3 (List.mem_of_getElem? (i := 76) (by decide +kernel)))) rfl, List.forall_mem_cons.mpr ⟨kw_tab (tl_in (tb_3 (List.mem_of_getElem? (i := 74) (by decide +kernel)))) rfl, List.forall_mem_cons.mpr ⟨kw_tab (tl_in (tb_3 (List.mem_of_getElem? (i := 178) (by decide +kernel)))) rfl, List.forall_mem_cons.mpr ⟨kw_tab (tl_in (tb_4 (List.mem_of_getElem? (i := 154) (by decide +kernel)))) rfl, List.forall_mem_cons.mpr ⟨kw_tab (tl_in (tb_5 (List.mem_of_getElem? (i := 141) (by decide +kernel)))) rfl, fun _ h => absurd h List.not_mem_nil⟩⟩⟩⟩⟩
theorem sck_8 : ∀ p ∈ scK_8, (fun (c : Nat) (p : Nat × Nat) => Cond.methodLink (kcn c) p.1 (kYN p.2).1 ∈ kw) 8 p := by
  show ∀ p ∈ ([(58, 302), (66, 301), (69, 90), (99, 91), (120, 303)] : List (Nat × Nat)), _
  exact sck_8_0
def scK_9 : List (Nat × Nat) := [(166, 301), (172, 311), (307, 300), (380, 314)]
theorem sck_9_0 : ∀ p ∈ ([(166, 301), (172, 311), (307, 300), (380, 314)] : List (Nat × Nat)), (fun (c : Nat) (p : Nat × Nat) => Cond.methodLink (kcn c) p.1 (kYN p.2).1 ∈ kw) 9 p := List.forall_mem_cons.mpr ⟨kw_tab (tl_in (tb_5 (List.mem_of_getElem? (i := 59) (by decide +kernel)))) rfl, List.forall_mem_cons.mpr ⟨kw_tab (tl_in (tb_5 (List.mem_of_getElem? (i := 60) (by decide +kernel)))) rfl, List.forall_mem_cons.mpr ⟨kw_tab (tl_in (tb_5 (List.mem_of_getElem? (i := 122) (by decide +kernel)))) rfl, List.forall_mem_cons.mpr ⟨kw_tab (tl_in (tb_5 (List.mem_of_getElem? (i := 178) (by decide +kernel)))) rfl, fun _ h => absurd h List.not_mem_nil⟩⟩⟩⟩
theorem sck_9 : ∀ p ∈ scK_9, (fun (c : Nat) (p : Nat × Nat) => Cond.methodLink (kcn c) p.1 (kYN p.2).1 ∈ kw) 9 p := by
  show ∀ p ∈ ([(166, 301), (172, 311), (307, 300), (380, 314)] : List (Nat × Nat)), _
  exact sck_9_0
def scK_10 : List (Nat × Nat) := []
theorem sck_10 : ∀ p ∈ scK_10, (fun (c : Nat) (p : Nat × Nat) => Cond.methodLink (kcn c) p.1 (kYN p.2).1 ∈ kw) 10 p := fun _ h => absurd h List.not_mem_nil
def scK_11 : List (Nat × Nat) := [(29, 310), (43, 313), (47, 300), (53, 312), (68, 301), (82, 85), (86, 86), (89, 87)]
theorem sck_11_0 : ∀ p ∈ ([(29, 310), (43, 313), (47, 300), (53, 312), (68, 301), (82, 85), (86, 86), (89, 87)] : List (Nat × Nat)), (fun (c : Nat) (p : Nat × Nat) => Cond.methodLink (kcn c) p.1 (kYN p.2).1 ∈ kw) 11 p := List.forall_mem_cons.mpr ⟨kw_tab (tl_in (tb_8 (List.mem_of_getElem? (i := 164) (by decide +kernel)))) rfl, List.forall_mem_cons.mpr ⟨kw_tab (tl_in (tb_4 (List.mem_of_getElem? (i := 63) (by decide +kernel)))) rfl, List.forall_mem_cons.mpr ⟨kw_tab (tl_in (tb_4 (List.mem_of_getElem? (i := 71) (by decide +kernel)))) rfl, List.forall_mem_cons.mpr ⟨kw_tab (tl_in (tb_4 (List.mem_of_getElem? (i := 72) (by decide +kernel)))) rfl, List.forall_mem_cons.mpr ⟨kw_tab (tl_in (tb_4 (List.mem_of_getElem? (i := 82) (by decide +kernel)))) rfl, List.forall_mem_cons.mpr ⟨kw_tab (tl_in (tb_6 (List.mem_of_getElem? (i := 17) (by decide +kernel)))) rfl, List.forall_mem_cons.mpr ⟨kw_tab (tl_in (tb_6 (List.mem_of_getElem? (i := 20) (by decide +kernel)))) rfl, List.forall_mem_cons.mpr ⟨kw_tab (tl_in (tb_6 (List.mem_of_getElem? (i := 23) (by decide +kernel)))) rfl, fun _ h => absurd h List.not_mem_nil⟩⟩⟩⟩⟩⟩⟩⟩
theorem sck_11 : ∀ p ∈ scK_11, (fun (c : Nat) (p : Nat × Nat) => Cond.methodLink (kcn c) p.1 (kYN p.2).1 ∈ kw) 11 p := by
  show ∀ p ∈ ([(29, 310), (43, 313), (47, 300), (53, 312), (68, 301), (82, 85), (86, 86), (89, 87)] : List (Nat × Nat)), _
  exact sck_11_0
def scK_12 : List (Nat × Nat) := []
theorem sck_12 : ∀ p ∈ scK_12, (fun (c : Nat) (p : Nat × Nat) => Cond.methodLink (kcn c) p.1 (kYN p.2).1 ∈ kw) 12 p := fun _ h => absurd h List.not_mem_nil
def scK_13 : List (Nat × Nat) := []
theorem sck_13 : ∀ p ∈ scK_13, (fun (c : Nat) (p : Nat × Nat) => Cond.methodLink (kcn c) p.1 (kYN p.2).1 ∈ kw) 13 p := fun _ h => absurd h List.not_mem_nil
def scK_14 : List (Nat × Nat) := [(495, 308)]
theorem sck_14_0 : ∀ p ∈ ([(495, 308)] : List (Nat × Nat)), (fun (c : Nat) (p : Nat × Nat) => Cond.methodLink (kcn c) p.1 (kYN p.2).1 ∈ kw) 14 p := List.forall_mem_cons.mpr ⟨kw_tab (tl_in (tb_3 (List.mem_of_getElem? (i := 123) (by decide +kernel)))) rfl, fun _ h => absurd h List.not_mem_nil⟩
theorem sck_14 : ∀ p ∈ scK_14, (fun (c : Nat) (p : Nat × Nat) => Cond.methodLink (kcn c) p.1 (kYN p.2).1 ∈ kw) 14 p := by
  show ∀ p ∈ ([(495, 308)] : List (Nat × Nat)), _
  exact sck_14_0
def scK_15 : List (Nat × Nat) := []
theorem sck_15 : ∀ p ∈ scK_15, (fun (c : Nat) (p : Nat × Nat) => Cond.methodLink (kcn c) p.1 (kYN p.2).1 ∈ kw) 15 p := fun _ h => absurd h List.not_mem_nil
def scK_16 : List (Nat × Nat) := [(13, 309), (304, 301)]
theorem sck_16_0 : ∀ p ∈ ([(13, 309), (304, 301)] : List (Nat × Nat)), (fun (c : Nat) (p : Nat × Nat) => Cond.methodLink (kcn c) p.1 (kYN p.2).1 ∈ kw) 16 p := List.forall_mem_cons.mpr ⟨kw_tab (tl_in (tb_5 (List.mem_of_getElem? (i := 63) (by decide +kernel)))) rfl, List.forall_mem_cons.mpr ⟨kw_tab (tl_in (tb_3 (List.mem_of_getElem? (i := 32) (by decide +kernel)))) rfl, fun _ h => absurd h List.not_mem_nil⟩⟩
theorem sck_16 : ∀ p ∈ scK_16, (fun (c : Nat) (p : Nat × Nat) => Cond.methodLink (kcn c) p.1 (kYN p.2).1 ∈ kw) 16 p := by
  show ∀ p ∈ ([(13, 309), (304, 301)] : List (Nat × Nat)), _
  exact sck_16_0
def scQt : List (List (Nat × Nat)) := [scK_0, scK_1, scK_2, scK_3, scK_4, scK_5, scK_6, scK_7, scK_8, scK_9, scK_10, scK_11, scK_12, scK_13, scK_14, scK_15, scK_16]
theorem scQt_all : ∀ c, ∀ p ∈ scQt.getD c [], Cond.methodLink (kcn c) p.1 (kYN p.2).1 ∈ kw := by
  intro c
  match c with
  | 0 => exact sck_0
  | 1 => exact sck_1
  | 2 => exact sck_2
  | 3 => exact sck_3
  | 4 => exact sck_4
  | 5 => exact sck_5
  | 6 => exact sck_6
  | 7 => exact sck_7
  | 8 => exact sck_8
  | 9 => exact sck_9
  | 10 => exact sck_10
  | 11 => exact sck_11
  | 12 => exact sck_12
  | 13 => exact sck_13
  | 14 => exact sck_14
  | 15 => exact sck_15
  | 16 => exact sck_16
  | c + 17 =>
    intro p hp
    rw [List.getD_eq_getElem?_getD, List.getElem?_eq_none (by show 17 ≤ c + 17; omega)] at hp
    cases hp
end KOKW
