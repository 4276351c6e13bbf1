/-! The words of the class's tables, more. -/
section KOKW
def foK_0 : List (Nat × Nat) := [(320, 1003), (376, 1005)]
theorem fok_0_0 : ∀ p ∈ ([(320, 1003), (376, 1005)] : List (Nat × Nat)), (fun (c : Nat) (p : Nat × Nat) => Cond.fieldLink (kcn c) p.1 (kOn p.2).1 (kOn p.2).2.1 (kOn p.2).2.2 ∈ kw) 0 p := List.forall_mem_cons.mpr ⟨kw_tab (tl_in (tb_15 (List.mem_of_getElem? (i := 20) (by decide +kernel)))) rfl, List.forall_mem_cons.mpr ⟨kw_tab (tl_in (tb_15 (List.mem_of_getElem? (i := 21) (by decide +kernel)))) rfl, fun _ h => absurd h List.not_mem_nil⟩⟩
theorem fok_0 : ∀ p ∈ foK_0, (fun (c : Nat) (p : Nat × Nat) => Cond.fieldLink (kcn c) p.1 (kOn p.2).1 (kOn p.2).2.1 (kOn p.2).2.2 ∈ kw) 0 p := by
  show ∀ p ∈ ([(320, 1003), (376, 1005)] : List (Nat × Nat)), _
  exact fok_0_0
def foK_1 : List (Nat × Nat) := []
theorem fok_1 : ∀ p ∈ foK_1, (fun (c : Nat) (p : Nat × Nat) => Cond.fieldLink (kcn c) p.1 (kOn p.2).1 (kOn p.2).2.1 (kOn p.2).2.2 ∈ kw) 1 p := fun _ h => absurd h List.not_mem_nil
def foK_2 : List (Nat × Nat) := [(340, 1005), (344, 1001), (348, 1002), (354, 1004)]
theorem fok_2_0 : ∀ p ∈ ([(340, 1005), (344, 1001), (348, 1002), (354, 1004)] : List (Nat × Nat)), (fun (c : Nat) (p : Nat × Nat) => Cond.fieldLink (kcn c) p.1 (kOn p.2).1 (kOn p.2).2.1 (kOn p.2).2.2 ∈ kw) 2 p := List.forall_mem_cons.mpr ⟨kw_tab (tl_in (tb_15 (List.mem_of_getElem? (i := 15) (by decide +kernel)))) rfl, List.forall_mem_cons.mpr ⟨kw_tab (tl_in (tb_15 (List.mem_of_getElem? (i := 16) (by decide +kernel)))) rfl, List.forall_mem_cons.mpr ⟨kw_tab (tl_in (tb_15 (List.mem_of_getElem? (i := 17) (by decide +kernel)))) rfl, List.forall_mem_cons.mpr ⟨kw_tab (tl_in (tb_15 (List.mem_of_getElem? (i := 18) (by decide +kernel)))) rfl, fun _ h => absurd h List.not_mem_nil⟩⟩⟩⟩
theorem fok_2 : ∀ p ∈ foK_2, (fun (c : Nat) (p : Nat × Nat) => Cond.fieldLink (kcn c) p.1 (kOn p.2).1 (kOn p.2).2.1 (kOn p.2).2.2 ∈ kw) 2 p := by
  show ∀ p ∈ ([(340, 1005), (344, 1001), (348, 1002), (354, 1004)] : List (Nat × Nat)), _
  exact fok_2_0
def foK_3 : List (Nat × Nat) := []
theorem fok_3 : ∀ p ∈ foK_3, (fun (c : Nat) (p : Nat × Nat) => Cond.fieldLink (kcn c) p.1 (kOn p.2).1 (kOn p.2).2.1 (kOn p.2).2.2 ∈ kw) 3 p := fun _ h => absurd h List.not_mem_nil
def foK_4 : List (Nat × Nat) := []
theorem fok_4 : ∀ p ∈ foK_4, (fun (c : Nat) (p : Nat × Nat) => Cond.fieldLink (kcn c) p.1 (kOn p.2).1 (kOn p.2).2.1 (kOn p.2).2.2 ∈ kw) 4 p := fun _ h => absurd h List.not_mem_nil
def foK_5 : List (Nat × Nat) := []
theorem fok_5 : ∀ p ∈ foK_5, (fun (c : Nat) (p : Nat × Nat) => Cond.fieldLink (kcn c) p.1 (kOn p.2).1 (kOn p.2).2.1 (kOn p.2).2.2 ∈ kw) 5 p := fun _ h => absurd h List.not_mem_nil
def foK_6 : List (Nat × Nat) := []
theorem fok_6 : ∀ p ∈ foK_6, (fun (c : Nat) (p : Nat × Nat) => Cond.fieldLink (kcn c) p.1 (kOn p.2).1 (kOn p.2).2.1 (kOn p.2).2.2 ∈ kw) 6 p := fun _ h => absurd h List.not_mem_nil
def foK_7 : List (Nat × Nat) := []
theorem fok_7 : ∀ p ∈ foK_7, (fun (c : Nat) (p : Nat × Nat) => Cond.fieldLink (kcn c) p.1 (kOn p.2).1 (kOn p.2).2.1 (kOn p.2).2.2 ∈ kw) 7 p := fun _ h => absurd h List.not_mem_nil
def foK_8 : List (Nat × Nat) := []
theorem fok_8 : ∀ p ∈ foK_8, (fun (c : Nat) (p : Nat × Nat) => Cond.fieldLink (kcn c) p.1 (kOn p.2).1 (kOn p.2).2.1 (kOn p.2).2.2 ∈ kw) 8 p := fun _ h => absurd h List.not_mem_nil
def foK_9 : List (Nat × Nat) := []
theorem fok_9 : ∀ p ∈ foK_9, (fun (c : Nat) (p : Nat × Nat) => Cond.fieldLink (kcn c) p.1 (kOn p.2).1 (kOn p.2).2.1 (kOn p.2).2.2 ∈ kw) 9 p := fun _ h => absurd h List.not_mem_nil
def foK_10 : List (Nat × Nat) := []
theorem fok_10 : ∀ p ∈ foK_10, (fun (c : Nat) (p : Nat × Nat) => Cond.fieldLink (kcn c) p.1 (kOn p.2).1 (kOn p.2).2.1 (kOn p.2).2.2 ∈ kw) 10 p := fun _ h => absurd h List.not_mem_nil
def foK_11 : List (Nat × Nat) := []
theorem fok_11 : ∀ p ∈ foK_11, (fun (c : Nat) (p : Nat × Nat) => Cond.fieldLink (kcn c) p.1 (kOn p.2).1 (kOn p.2).2.1 (kOn p.2).2.2 ∈ kw) 11 p := fun _ h => absurd h List.not_mem_nil
def foK_12 : List (Nat × Nat) := []
theorem fok_12 : ∀ p ∈ foK_12, (fun (c : Nat) (p : Nat × Nat) => Cond.fieldLink (kcn c) p.1 (kOn p.2).1 (kOn p.2).2.1 (kOn p.2).2.2 ∈ kw) 12 p := fun _ h => absurd h List.not_mem_nil
def foK_13 : List (Nat × Nat) := []
theorem fok_13 : ∀ p ∈ foK_13, (fun (c : Nat) (p : Nat × Nat) => Cond.fieldLink (kcn c) p.1 (kOn p.2).1 (kOn p.2).2.1 (kOn p.2).2.2 ∈ kw) 13 p := fun _ h => absurd h List.not_mem_nil
def foK_14 : List (Nat × Nat) := [(9, 1010), (15, 1011)]
theorem fok_14_0 : ∀ p ∈ ([(9, 1010), (15, 1011)] : List (Nat × Nat)), (fun (c : Nat) (p : Nat × Nat) => Cond.fieldLink (kcn c) p.1 (kOn p.2).1 (kOn p.2).2.1 (kOn p.2).2.2 ∈ kw) 14 p := List.forall_mem_cons.mpr ⟨kw_tab (tl_in (tb_15 (List.mem_of_getElem? (i := 13) (by decide +kernel)))) rfl, List.forall_mem_cons.mpr ⟨kw_tab (tl_in (tb_15 (List.mem_of_getElem? (i := 14) (by decide +kernel)))) rfl, fun _ h => absurd h List.not_mem_nil⟩⟩
theorem fok_14 : ∀ p ∈ foK_14, (fun (c : Nat) (p : Nat × Nat) => Cond.fieldLink (kcn c) p.1 (kOn p.2).1 (kOn p.2).2.1 (kOn p.2).2.2 ∈ kw) 14 p := by
  show ∀ p ∈ ([(9, 1010), (15, 1011)] : List (Nat × Nat)), _
  exact fok_14_0
def foK_15 : List (Nat × Nat) := []
theorem fok_15 : ∀ p ∈ foK_15, (fun (c : Nat) (p : Nat × Nat) => Cond.fieldLink (kcn c) p.1 (kOn p.2).1 (kOn p.2).2.1 (kOn p.2).2.2 ∈ kw) 15 p := fun _ h => absurd h List.not_mem_nil
def foK_16 : List (Nat × Nat) := []
theorem fok_16 : ∀ p ∈ foK_16, (fun (c : Nat) (p : Nat × Nat) => Cond.fieldLink (kcn c) p.1 (kOn p.2).1 (kOn p.2).2.1 (kOn p.2).2.2 ∈ kw) 16 p := fun _ h => absurd h List.not_mem_nil
def foT : List (List (Nat × Nat)) := [foK_0, foK_1, foK_2, foK_3, foK_4, foK_5, foK_6, foK_7, foK_8, foK_9, foK_10, foK_11, foK_12, foK_13, foK_14, foK_15, foK_16]
theorem foT_all : ∀ c, ∀ p ∈ foT.getD c [], Cond.fieldLink (kcn c) p.1 (kOn p.2).1 (kOn p.2).2.1 (kOn p.2).2.2 ∈ kw := by
  intro c
  match c with
  | 0 => exact fok_0
  | 1 => exact fok_1
  | 2 => exact fok_2
  | 3 => exact fok_3
  | 4 => exact fok_4
  | 5 => exact fok_5
  | 6 => exact fok_6
  | 7 => exact fok_7
  | 8 => exact fok_8
  | 9 => exact fok_9
  | 10 => exact fok_10
  | 11 => exact fok_11
  | 12 => exact fok_12
  | 13 => exact fok_13
  | 14 => exact fok_14
  | 15 => exact fok_15
  | 16 => exact fok_16
  | c + 17 =>
    intro p hp
    rw [List.getD_eq_getElem?_getD, List.getElem?_eq_none (by show 17 ≤ c + 17; omega)] at hp
    cases hp
end KOKW
