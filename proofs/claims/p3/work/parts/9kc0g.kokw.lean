/-! The words of the class's tables, more. -/
section KOKW
def ocK_0 : List (Nat × Nat) := [(275, 1002)]
theorem ock_0_0 : ∀ p ∈ ([(275, 1002)] : List (Nat × Nat)), (fun (c : Nat) (p : Nat × Nat) => Cond.methodLink (kcn c) p.1 yOrx ∈ kw) 0 p := List.forall_mem_cons.mpr ⟨kw_tab (tl_in (tb_3 (List.mem_of_getElem? (i := 207) (by decide +kernel)))) rfl, fun _ h => absurd h List.not_mem_nil⟩
theorem ock_0 : ∀ p ∈ ocK_0, (fun (c : Nat) (p : Nat × Nat) => Cond.methodLink (kcn c) p.1 yOrx ∈ kw) 0 p := by
  show ∀ p ∈ ([(275, 1002)] : List (Nat × Nat)), _
  exact ock_0_0
def ocK_1 : List (Nat × Nat) := []
theorem ock_1 : ∀ p ∈ ocK_1, (fun (c : Nat) (p : Nat × Nat) => Cond.methodLink (kcn c) p.1 yOrx ∈ kw) 1 p := fun _ h => absurd h List.not_mem_nil
def ocK_2 : List (Nat × Nat) := []
theorem ock_2 : ∀ p ∈ ocK_2, (fun (c : Nat) (p : Nat × Nat) => Cond.methodLink (kcn c) p.1 yOrx ∈ kw) 2 p := fun _ h => absurd h List.not_mem_nil
def ocK_3 : List (Nat × Nat) := []
theorem ock_3 : ∀ p ∈ ocK_3, (fun (c : Nat) (p : Nat × Nat) => Cond.methodLink (kcn c) p.1 yOrx ∈ kw) 3 p := fun _ h => absurd h List.not_mem_nil
def ocK_4 : List (Nat × Nat) := [(242, 1002)]
theorem ock_4_0 : ∀ p ∈ ([(242, 1002)] : List (Nat × Nat)), (fun (c : Nat) (p : Nat × Nat) => Cond.methodLink (kcn c) p.1 yOrx ∈ kw) 4 p := List.forall_mem_cons.mpr ⟨kw_tab (tl_in (tb_5 (List.mem_of_getElem? (i := 211) (by decide +kernel)))) rfl, fun _ h => absurd h List.not_mem_nil⟩
theorem ock_4 : ∀ p ∈ ocK_4, (fun (c : Nat) (p : Nat × Nat) => Cond.methodLink (kcn c) p.1 yOrx ∈ kw) 4 p := by
  show ∀ p ∈ ([(242, 1002)] : List (Nat × Nat)), _
  exact ock_4_0
def ocK_5 : List (Nat × Nat) := [(29, 1002)]
theorem ock_5_0 : ∀ p ∈ ([(29, 1002)] : List (Nat × Nat)), (fun (c : Nat) (p : Nat × Nat) => Cond.methodLink (kcn c) p.1 yOrx ∈ kw) 5 p := List.forall_mem_cons.mpr ⟨kw_tab (tl_in (tb_6 (List.mem_of_getElem? (i := 67) (by decide +kernel)))) rfl, fun _ h => absurd h List.not_mem_nil⟩
theorem ock_5 : ∀ p ∈ ocK_5, (fun (c : Nat) (p : Nat × Nat) => Cond.methodLink (kcn c) p.1 yOrx ∈ kw) 5 p := by
  show ∀ p ∈ ([(29, 1002)] : List (Nat × Nat)), _
  exact ock_5_0
def ocK_6 : List (Nat × Nat) := [(41, 1002)]
theorem ock_6_0 : ∀ p ∈ ([(41, 1002)] : List (Nat × Nat)), (fun (c : Nat) (p : Nat × Nat) => Cond.methodLink (kcn c) p.1 yOrx ∈ kw) 6 p := List.forall_mem_cons.mpr ⟨kw_tab (tl_in (tb_6 (List.mem_of_getElem? (i := 194) (by decide +kernel)))) rfl, fun _ h => absurd h List.not_mem_nil⟩
theorem ock_6 : ∀ p ∈ ocK_6, (fun (c : Nat) (p : Nat × Nat) => Cond.methodLink (kcn c) p.1 yOrx ∈ kw) 6 p := by
  show ∀ p ∈ ([(41, 1002)] : List (Nat × Nat)), _
  exact ock_6_0
def ocK_7 : List (Nat × Nat) := [(29, 1002)]
theorem ock_7_0 : ∀ p ∈ ([(29, 1002)] : List (Nat × Nat)), (fun (c : Nat) (p : Nat × Nat) => Cond.methodLink (kcn c) p.1 yOrx ∈ kw) 7 p := List.forall_mem_cons.mpr ⟨kw_tab (tl_in (tb_7 (List.mem_of_getElem? (i := 116) (by decide +kernel)))) rfl, fun _ h => absurd h List.not_mem_nil⟩
theorem ock_7 : ∀ p ∈ ocK_7, (fun (c : Nat) (p : Nat × Nat) => Cond.methodLink (kcn c) p.1 yOrx ∈ kw) 7 p := by
  show ∀ p ∈ ([(29, 1002)] : List (Nat × Nat)), _
  exact ock_7_0
def ocK_8 : List (Nat × Nat) := []
theorem ock_8 : ∀ p ∈ ocK_8, (fun (c : Nat) (p : Nat × Nat) => Cond.methodLink (kcn c) p.1 yOrx ∈ kw) 8 p := fun _ h => absurd h List.not_mem_nil
def ocK_9 : List (Nat × Nat) := [(34, 1002)]
theorem ock_9_0 : ∀ p ∈ ([(34, 1002)] : List (Nat × Nat)), (fun (c : Nat) (p : Nat × Nat) => Cond.methodLink (kcn c) p.1 yOrx ∈ kw) 9 p := List.forall_mem_cons.mpr ⟨kw_tab (tl_in (tb_4 (List.mem_of_getElem? (i := 30) (by decide +kernel)))) rfl, fun _ h => absurd h List.not_mem_nil⟩
theorem ock_9 : ∀ p ∈ ocK_9, (fun (c : Nat) (p : Nat × Nat) => Cond.methodLink (kcn c) p.1 yOrx ∈ kw) 9 p := by
  show ∀ p ∈ ([(34, 1002)] : List (Nat × Nat)), _
  exact ock_9_0
def ocK_10 : List (Nat × Nat) := []
theorem ock_10 : ∀ p ∈ ocK_10, (fun (c : Nat) (p : Nat × Nat) => Cond.methodLink (kcn c) p.1 yOrx ∈ kw) 10 p := fun _ h => absurd h List.not_mem_nil
def ocK_11 : List (Nat × Nat) := []
theorem ock_11 : ∀ p ∈ ocK_11, (fun (c : Nat) (p : Nat × Nat) => Cond.methodLink (kcn c) p.1 yOrx ∈ kw) 11 p := fun _ h => absurd h List.not_mem_nil
def ocK_12 : List (Nat × Nat) := []
theorem ock_12 : ∀ p ∈ ocK_12, (fun (c : Nat) (p : Nat × Nat) => Cond.methodLink (kcn c) p.1 yOrx ∈ kw) 12 p := fun _ h => absurd h List.not_mem_nil
def ocK_13 : List (Nat × Nat) := []
theorem ock_13 : ∀ p ∈ ocK_13, (fun (c : Nat) (p : Nat × Nat) => Cond.methodLink (kcn c) p.1 yOrx ∈ kw) 13 p := fun _ h => absurd h List.not_mem_nil
def ocK_14 : List (Nat × Nat) := []
theorem ock_14 : ∀ p ∈ ocK_14, (fun (c : Nat) (p : Nat × Nat) => Cond.methodLink (kcn c) p.1 yOrx ∈ kw) 14 p := fun _ h => absurd h List.not_mem_nil
def ocK_15 : List (Nat × Nat) := []
theorem ock_15 : ∀ p ∈ ocK_15, (fun (c : Nat) (p : Nat × Nat) => Cond.methodLink (kcn c) p.1 yOrx ∈ kw) 15 p := fun _ h => absurd h List.not_mem_nil
def ocK_16 : List (Nat × Nat) := []
theorem ock_16 : ∀ p ∈ ocK_16, (fun (c : Nat) (p : Nat × Nat) => Cond.methodLink (kcn c) p.1 yOrx ∈ kw) 16 p := fun _ h => absurd h List.not_mem_nil
def ocT : List (List (Nat × Nat)) := [ocK_0, ocK_1, ocK_2, ocK_3, ocK_4, ocK_5, ocK_6, ocK_7, ocK_8, ocK_9, ocK_10, ocK_11, ocK_12, ocK_13, ocK_14, ocK_15, ocK_16]
theorem ocT_all : ∀ c, ∀ p ∈ ocT.getD c [], Cond.methodLink (kcn c) p.1 yOrx ∈ kw := by
  intro c
  match c with
  | 0 => exact ock_0
  | 1 => exact ock_1
  | 2 => exact ock_2
  | 3 => exact ock_3
  | 4 => exact ock_4
  | 5 => exact ock_5
  | 6 => exact ock_6
  | 7 => exact ock_7
  | 8 => exact ock_8
  | 9 => exact ock_9
  | 10 => exact ock_10
  | 11 => exact ock_11
  | 12 => exact ock_12
  | 13 => exact ock_13
  | 14 => exact ock_14
  | 15 => exact ock_15
  | 16 => exact ock_16
  | c + 17 =>
    intro p hp
    rw [List.getD_eq_getElem?_getD, List.getElem?_eq_none (by show 17 ≤ c + 17; omega)] at hp
    cases hp
end KOKW
