/-! The words of the class's tables, more. -/
section KOKW
def ljK_0 : List (Nat × Int) := [(185, 4503599627370496), (379, 9223372036854775807), (469, 1000)]
theorem ljk_0_0 : ∀ p ∈ ([(185, 4503599627370496), (379, 9223372036854775807), (469, 1000)] : List (Nat × Int)), (fun (c : Nat) (p : Nat × Int) => Cond.constantLong (kcn c) p.1 (Int64.ofInt p.2) ∈ kw) 0 p := List.forall_mem_cons.mpr ⟨kw_tab (tl_in (tb_8 (List.mem_of_getElem? (i := 196) (by decide +kernel)))) rfl, List.forall_mem_cons.mpr ⟨kw_tab (tl_in (tb_8 (List.mem_of_getElem? (i := 136) (by decide +kernel)))) rfl, List.forall_mem_cons.mpr ⟨kw_tab (tl_in (tb_8 (List.mem_of_getElem? (i := 96) (by decide +kernel)))) rfl, fun _ h => absurd h List.not_mem_nil⟩⟩⟩
theorem ljk_0 : ∀ p ∈ ljK_0, (fun (c : Nat) (p : Nat × Int) => Cond.constantLong (kcn c) p.1 (Int64.ofInt p.2) ∈ kw) 0 p := by
  show ∀ p ∈ ([(185, 4503599627370496), (379, 9223372036854775807), (469, 1000)] : List (Nat × Int)), _
  exact ljk_0_0
def ljK_1 : List (Nat × Int) := [(80, 48), (82, 10), (88, (-1))]
theorem ljk_1_0 : ∀ p ∈ ([(80, 48), (82, 10), (88, (-1))] : List (Nat × Int)), (fun (c : Nat) (p : Nat × Int) => Cond.constantLong (kcn c) p.1 (Int64.ofInt p.2) ∈ kw) 1 p := List.forall_mem_cons.mpr ⟨kw_tab (tl_in (tb_3 (List.mem_of_getElem? (i := 235) (by decide +kernel)))) rfl, List.forall_mem_cons.mpr ⟨kw_tab (tl_in (tb_3 (List.mem_of_getElem? (i := 230) (by decide +kernel)))) rfl, List.forall_mem_cons.mpr ⟨kw_tab (tl_in (tb_3 (List.mem_of_getElem? (i := 222) (by decide +kernel)))) rfl, fun _ h => absurd h List.not_mem_nil⟩⟩⟩
theorem ljk_1 : ∀ p ∈ ljK_1, (fun (c : Nat) (p : Nat × Int) => Cond.constantLong (kcn c) p.1 (Int64.ofInt p.2) ∈ kw) 1 p := by
  show ∀ p ∈ ([(80, 48), (82, 10), (88, (-1))] : List (Nat × Int)), _
  exact ljk_1_0
def ljK_2 : List (Nat × Int) := []
theorem ljk_2 : ∀ p ∈ ljK_2, (fun (c : Nat) (p : Nat × Int) => Cond.constantLong (kcn c) p.1 (Int64.ofInt p.2) ∈ kw) 2 p := fun _ h => absurd h List.not_mem_nil
def ljK_3 : List (Nat × Int) := []
theorem ljk_3 : ∀ p ∈ ljK_3, (fun (c : Nat) (p : Nat × Int) => Cond.constantLong (kcn c) p.1 (Int64.ofInt p.2) ∈ kw) 3 p := fun _ h => absurd h List.not_mem_nil
def ljK_4 : List (Nat × Int) := [(90, 9223372036854775807), (223, 9007199254740991), (225, 1000), (230, (-9007199254740991)), (343, (-2)), (345, (-1)), (347, 500)]
theorem ljk_4_0 : ∀ p ∈ ([(90, 9223372036854775807), (223, 9007199254740991), (225, 1000), (230, (-9007199254740991)), (343, (-2)), (345, (-1)), (347, 500)] : List (Nat × Int)), (fun (c : Nat) (p : Nat × Int) => Cond.constantLong (kcn c) p.1 (Int64.ofInt p.2) ∈ kw) 4 p := List.forall_mem_cons.mpr ⟨kw_tab (tl_in (tb_4 (List.mem_of_getElem? (i := 124) (by decide +kernel)))) rfl, List.forall_mem_cons.mpr ⟨kw_tab (tl_in (tb_4 (List.mem_of_getElem? (i := 186) (by decide +kernel)))) rfl, List.forall_mem_cons.mpr ⟨kw_tab (tl_in (tb_4 (List.mem_of_getElem? (i := 187) (by decide +kernel)))) rfl, List.forall_mem_cons.mpr ⟨kw_tab (tl_in (tb_4 (List.mem_of_getElem? (i := 188) (by decide +kernel)))) rfl, List.forall_mem_cons.mpr ⟨kw_tab (tl_in (tb_6 (List.mem_of_getElem? (i := 46) (by decide +kernel)))) rfl, List.forall_mem_cons.mpr ⟨kw_tab (tl_in (tb_6 (List.mem_of_getElem? (i := 47) (by decide +kernel)))) rfl, List.forall_mem_cons.mpr ⟨kw_tab (tl_in (tb_6 (List.mem_of_getElem? (i := 48) (by decide +kernel)))) rfl, fun _ h => absurd h List.not_mem_nil⟩⟩⟩⟩⟩⟩⟩
theorem ljk_4 : ∀ p ∈ ljK_4, (fun (c : Nat) (p : Nat × Int) => Cond.constantLong (kcn c) p.1 (Int64.ofInt p.2) ∈ kw) 4 p := by
  show ∀ p ∈ ([(90, 9223372036854775807), (223, 9007199254740991), (225, 1000), (230, (-9007199254740991)), (343, (-2)), (345, (-1)), (347, 500)] : List (Nat × Int)), _
  exact ljk_4_0
def ljK_5 : List (Nat × Int) := [(163, (-1)), (223, (-9223372036854775808))]
theorem ljk_5_0 : ∀ p ∈ ([(163, (-1)), (223, (-9223372036854775808))] : List (Nat × Int)), (fun (c : Nat) (p : Nat × Int) => Cond.constantLong (kcn c) p.1 (Int64.ofInt p.2) ∈ kw) 5 p := List.forall_mem_cons.mpr ⟨kw_tab (tl_in (tb_6 (List.mem_of_getElem? (i := 113) (by decide +kernel)))) rfl, List.forall_mem_cons.mpr ⟨kw_tab (tl_in (tb_6 (List.mem_of_getElem? (i := 171) (by decide +kernel)))) rfl, fun _ h => absurd h List.not_mem_nil⟩⟩
theorem ljk_5 : ∀ p ∈ ljK_5, (fun (c : Nat) (p : Nat × Int) => Cond.constantLong (kcn c) p.1 (Int64.ofInt p.2) ∈ kw) 5 p := by
  show ∀ p ∈ ([(163, (-1)), (223, (-9223372036854775808))] : List (Nat × Int)), _
  exact ljk_5_0
def ljK_6 : List (Nat × Int) := []
theorem ljk_6 : ∀ p ∈ ljK_6, (fun (c : Nat) (p : Nat × Int) => Cond.constantLong (kcn c) p.1 (Int64.ofInt p.2) ∈ kw) 6 p := fun _ h => absurd h List.not_mem_nil
def ljK_7 : List (Nat × Int) := [(323, (-1))]
theorem ljk_7_0 : ∀ p ∈ ([(323, (-1))] : List (Nat × Int)), (fun (c : Nat) (p : Nat × Int) => Cond.constantLong (kcn c) p.1 (Int64.ofInt p.2) ∈ kw) 7 p := List.forall_mem_cons.mpr ⟨kw_tab (tl_in (tb_8 (List.mem_of_getElem? (i := 23) (by decide +kernel)))) rfl, fun _ h => absurd h List.not_mem_nil⟩
theorem ljk_7 : ∀ p ∈ ljK_7, (fun (c : Nat) (p : Nat × Int) => Cond.constantLong (kcn c) p.1 (Int64.ofInt p.2) ∈ kw) 7 p := by
  show ∀ p ∈ ([(323, (-1))] : List (Nat × Int)), _
  exact ljk_7_0
def ljK_8 : List (Nat × Int) := [(56, 1024), (64, 16384), (130, (-922337203685477580)), (132, 10), (134, (-9223372036854775808))]
theorem ljk_8_0 : ∀ p ∈ ([(56, 1024), (64, 16384), (130, (-922337203685477580)), (132, 10), (134, (-9223372036854775808))] : List (Nat × Int)), (fun (c : Nat) (p : Nat × Int) => Cond.constantLong (kcn c) p.1 (Int64.ofInt p.2) ∈ kw) 8 p := List.forall_mem_cons.mpr ⟨kw_tab (tl_in (tb_3 (List.mem_of_getElem? (i := 75) (by decide +kernel)))) rfl, List.forall_mem_cons.mpr ⟨kw_tab (tl_in (tb_3 (List.mem_of_getElem? (i := 79) (by decide +kernel)))) rfl, List.forall_mem_cons.mpr ⟨kw_tab (tl_in (tb_4 (List.mem_of_getElem? (i := 177) (by decide +kernel)))) rfl, List.forall_mem_cons.mpr ⟨kw_tab (tl_in (tb_4 (List.mem_of_getElem? (i := 178) (by decide +kernel)))) rfl, List.forall_mem_cons.mpr ⟨kw_tab (tl_in (tb_4 (List.mem_of_getElem? (i := 179) (by decide +kernel)))) rfl, fun _ h => absurd h List.not_mem_nil⟩⟩⟩⟩⟩
theorem ljk_8 : ∀ p ∈ ljK_8, (fun (c : Nat) (p : Nat × Int) => Cond.constantLong (kcn c) p.1 (Int64.ofInt p.2) ∈ kw) 8 p := by
  show ∀ p ∈ ([(56, 1024), (64, 16384), (130, (-922337203685477580)), (132, 10), (134, (-9223372036854775808))] : List (Nat × Int)), _
  exact ljk_8_0
def ljK_9 : List (Nat × Int) := [(279, 9223372036854775807), (358, 131071), (378, (-1))]
theorem ljk_9_0 : ∀ p ∈ ([(279, 9223372036854775807), (358, 131071), (378, (-1))] : List (Nat × Int)), (fun (c : Nat) (p : Nat × Int) => Cond.constantLong (kcn c) p.1 (Int64.ofInt p.2) ∈ kw) 9 p := List.forall_mem_cons.mpr ⟨kw_tab (tl_in (tb_4 (List.mem_of_getElem? (i := 168) (by decide +kernel)))) rfl, List.forall_mem_cons.mpr ⟨kw_tab (tl_in (tb_5 (List.mem_of_getElem? (i := 159) (by decide +kernel)))) rfl, List.forall_mem_cons.mpr ⟨kw_tab (tl_in (tb_5 (List.mem_of_getElem? (i := 177) (by decide +kernel)))) rfl, fun _ h => absurd h List.not_mem_nil⟩⟩⟩
theorem ljk_9 : ∀ p ∈ ljK_9, (fun (c : Nat) (p : Nat × Int) => Cond.constantLong (kcn c) p.1 (Int64.ofInt p.2) ∈ kw) 9 p := by
  show ∀ p ∈ ([(279, 9223372036854775807), (358, 131071), (378, (-1))] : List (Nat × Int)), _
  exact ljk_9_0
def ljK_10 : List (Nat × Int) := []
theorem ljk_10 : ∀ p ∈ ljK_10, (fun (c : Nat) (p : Nat × Int) => Cond.constantLong (kcn c) p.1 (Int64.ofInt p.2) ∈ kw) 10 p := fun _ h => absurd h List.not_mem_nil
def ljK_11 : List (Nat × Int) := [(80, 2)]
theorem ljk_11_0 : ∀ p ∈ ([(80, 2)] : List (Nat × Int)), (fun (c : Nat) (p : Nat × Int) => Cond.constantLong (kcn c) p.1 (Int64.ofInt p.2) ∈ kw) 11 p := List.forall_mem_cons.mpr ⟨kw_tab (tl_in (tb_6 (List.mem_of_getElem? (i := 16) (by decide +kernel)))) rfl, fun _ h => absurd h List.not_mem_nil⟩
theorem ljk_11 : ∀ p ∈ ljK_11, (fun (c : Nat) (p : Nat × Int) => Cond.constantLong (kcn c) p.1 (Int64.ofInt p.2) ∈ kw) 11 p := by
  show ∀ p ∈ ([(80, 2)] : List (Nat × Int)), _
  exact ljk_11_0
def ljK_12 : List (Nat × Int) := []
theorem ljk_12 : ∀ p ∈ ljK_12, (fun (c : Nat) (p : Nat × Int) => Cond.constantLong (kcn c) p.1 (Int64.ofInt p.2) ∈ kw) 12 p := fun _ h => absurd h List.not_mem_nil
def ljK_13 : List (Nat × Int) := []
theorem ljk_13 : ∀ p ∈ ljK_13, (fun (c : Nat) (p : Nat × Int) => Cond.constantLong (kcn c) p.1 (Int64.ofInt p.2) ∈ kw) 13 p := fun _ h => absurd h List.not_mem_nil
def ljK_14 : List (Nat × Int) := []
theorem ljk_14 : ∀ p ∈ ljK_14, (fun (c : Nat) (p : Nat × Int) => Cond.constantLong (kcn c) p.1 (Int64.ofInt p.2) ∈ kw) 14 p := fun _ h => absurd h List.not_mem_nil
def ljK_15 : List (Nat × Int) := []
theorem ljk_15 : ∀ p ∈ ljK_15, (fun (c : Nat) (p : Nat × Int) => Cond.constantLong (kcn c) p.1 (Int64.ofInt p.2) ∈ kw) 15 p := fun _ h => absurd h List.not_mem_nil
def ljK_16 : List (Nat × Int) := []
theorem ljk_16 : ∀ p ∈ ljK_16, (fun (c : Nat) (p : Nat × Int) => Cond.constantLong (kcn c) p.1 (Int64.ofInt p.2) ∈ kw) 16 p := fun _ h => absurd h List.not_mem_nil
def ljT : List (List (Nat × Int)) := [ljK_0, ljK_1, ljK_2, ljK_3, ljK_4, ljK_5, ljK_6, ljK_7, ljK_8, ljK_9, ljK_10, ljK_11, ljK_12, ljK_13, ljK_14, ljK_15, ljK_16]
theorem ljT_all : ∀ c, ∀ p ∈ ljT.getD c [], Cond.constantLong (kcn c) p.1 (Int64.ofInt p.2) ∈ kw := by
  intro c
  match c with
  | 0 => exact ljk_0
  | 1 => exact ljk_1
  | 2 => exact ljk_2
  | 3 => exact ljk_3
  | 4 => exact ljk_4
  | 5 => exact ljk_5
  | 6 => exact ljk_6
  | 7 => exact ljk_7
  | 8 => exact ljk_8
  | 9 => exact ljk_9
  | 10 => exact ljk_10
  | 11 => exact ljk_11
  | 12 => exact ljk_12
  | 13 => exact ljk_13
  | 14 => exact ljk_14
  | 15 => exact ljk_15
  | 16 => exact ljk_16
  | c + 17 =>
    intro p hp
    rw [List.getD_eq_getElem?_getD, List.getElem?_eq_none (by show 17 ≤ c + 17; omega)] at hp
    cases hp
end KOKW
