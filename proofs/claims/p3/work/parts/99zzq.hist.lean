/-! The log as a list of blocks, and what stands between two requests. -/
section HIST
variable {Y : Nat → MethodName × ByteArray} {d : Nat}
abbrev Blk : Type := Bool × List Req
def enE : List Blk → List Int32
  | [] => []
  | x :: r => blkB x.1 x.2 ++ enE r
theorem enE_app (a b : List Blk) : enE (a ++ b) = enE a ++ enE b := by
  induction a with
  | nil => rfl
  | cons x r ih => show blkB x.1 x.2 ++ enE (r ++ b) = blkB x.1 x.2 ++ enE r ++ enE b; rw [ih, List.append_assoc]
/-- the blocks lead from one list to another; so many bytes stand before them -/
def LG (P : Nat) : Nat → List AK → List Blk → List AK → Prop
  | _, A, [], A' => A' = A
  | n, A, x :: r, A' => x.2 ≠ [] ∧ (x.1 = false → x.2.length ≤ 1) ∧ ∃ B, LC P A x.2 B ∧ n + (blkB x.1 x.2).length + (kap B + 50 * P) ≤ 650000 ∧ LG P (n + (blkB x.1 x.2).length) B r A'
theorem LG_app {P : Nat} : ∀ {E F : List Blk} {A B C : List AK} {n : Nat}, LG P n A E B → LG P (n + (enE E).length) B F C → LG P n A (E ++ F) C := by
  intro E
  induction E with
  | nil => intro F A B C n h g; have h : B = A := h; rw [← h]; exact g
  | cons x r ih =>
    intro F A B C n h g
    obtain ⟨h1, h2, D, h3, h5, h4⟩ := h
    refine ⟨h1, h2, D, h3, h5, ih h4 ?_⟩
    have e : n + (enE (x :: r)).length = n + (blkB x.1 x.2).length + (enE r).length := by
      show n + (blkB x.1 x.2 ++ enE r).length = _; rw [List.length_append, Nat.add_assoc]
    rw [← e]; exact g
theorem LG_less {p q : Nat} (hq : q ≤ p) : ∀ {E : List Blk} {A B : List AK} {n : Nat}, LG p n A E B → LG q n A E B := by
  intro E
  induction E with
  | nil => intro A B n h; exact h
  | cons x r ih => intro A B n h; obtain ⟨h1, h2, D, h3, h5, h4⟩ := h; exact ⟨h1, h2, D, LC_less hq h3, by omega, ih h4⟩
theorem LC_LI {P : Nat} : ∀ {ns : List Req} {A B : List AK}, LC P A ns B → LI A P → LI B P := by
  intro ns
  induction ns with
  | nil => intro A B h hA; have h : B = A := h; rw [h]; exact hA
  | cons q ns ih => intro A B h _; obtain ⟨D, _, h2, h3⟩ := h; exact ih h3 h2
theorem LG_LI {P : Nat} : ∀ {E : List Blk} {A B : List AK} {n : Nat}, LG P n A E B → LI A P → LI B P := by
  intro E
  induction E with
  | nil => intro A B n h hA; have h : B = A := h; rw [h]; exact hA
  | cons x r ih => intro A B n h hA; obtain ⟨_, _, D, h3, _, h4⟩ := h; exact ih h4 (LC_LI h3 hA)
/-- a part of the log is some of its blocks and a part of the next -/
theorem LG_cut {P : Nat} : ∀ (E : List Blk) (A C : List AK) (n m : Nat), LG P n A E C → n + (kap A + 50 * P) ≤ 650000 → m ≤ (enE E).length → ∃ E1 A1 b ns k B, (enE E).take m = enE E1 ++ (blkB b ns).take k ∧ LG P n A E1 A1 ∧ LC P A1 ns B ∧ (b = false → ns.length ≤ 1) ∧ n + (enE E1).length + (kap A1 + 50 * P) ≤ 650000 ∧ n + (enE E1).length + ((blkB b ns).length + kap B + 50 * P) ≤ 650000 := by
  intro E
  induction E with
  | nil =>
    intro A C n m h hn hm
    refine ⟨[], A, false, [], 0, A, ?_, rfl, rfl, fun _ => Nat.zero_le _, hn, ?_⟩
    · show List.take m [] = [] ++ List.take 0 _; simp
    · show n + 0 + (0 + kap A + 50 * P) ≤ _; omega
  | cons x r ih =>
    intro A C n m h hn hm
    obtain ⟨h1, h2, D, h3, h5, h4⟩ := h
    by_cases c : m ≤ (blkB x.1 x.2).length
    · refine ⟨[], A, x.1, x.2, m, D, ?_, rfl, h3, h2, hn, ?_⟩
      · show List.take m (blkB x.1 x.2 ++ enE r) = [] ++ _
        rw [List.take_append_of_le_length c]; rfl
      · show n + 0 + _ ≤ _; omega
    · have hl : (enE (x :: r)).length = (blkB x.1 x.2).length + (enE r).length := by
        show (blkB x.1 x.2 ++ enE r).length = _; rw [List.length_append]
      obtain ⟨E1, A1, b, ns, k, B, g1, g2, g3, g4, g5, g6⟩ := ih D C _ (m - (blkB x.1 x.2).length) h4 h5 (by omega)
      have e1 : (enE (x :: E1)).length = (blkB x.1 x.2).length + (enE E1).length := by
        show (blkB x.1 x.2 ++ enE E1).length = _; rw [List.length_append]
      refine ⟨x :: E1, A1, b, ns, k, B, ?_, ⟨h1, h2, D, h3, h5, g2⟩, g3, g4, by omega, by omega⟩
      show List.take m (blkB x.1 x.2 ++ enE r) = blkB x.1 x.2 ++ enE E1 ++ _
      rw [List.take_append, List.take_of_length_le (by omega), g1, List.append_assoc]
/-- the disk holds the log of the list -/
def HI (σ : mjS) (A : List AK) (P : Nat) : Prop := ∃ E, DKs σ (enE E) ∧ LG P 0 [] E A ∧ LI A P ∧ (enE E).length + (kap A + 50 * P) ≤ 650000
/-- the disk holds the log of a list, and a part of one block more -/
def HD (σ : mjS) (P : Nat) : Prop := ∃ E A b ns n B, DKs σ (enE E ++ (blkB b ns).take n) ∧ LG P 0 [] E A ∧ LI A P ∧ LC P A ns B ∧ LI B P ∧ (b = false → ns.length ≤ 1) ∧ (enE E).length + (kap A + 50 * P) ≤ 650000 ∧ (enE E).length + ((blkB b ns).length + kap B + 50 * P) ≤ 650000
theorem HI_app {u : mjS} {E : List Blk} {A B : List AK} {P P' : Nat} {b : Bool} {ns : List Req} (hE : LG P 0 [] E A) (hc : (enE E).length + (kap A + 50 * P) ≤ 650000) (hp : P' ≤ P) (hD : DKs u (enE E ++ blkB b ns)) (hL : LI B P') (hC : LC P' A ns B) (hb : b = false → ns.length ≤ 1) (hk : (blkB b ns).length + kap B + 50 * P' ≤ kap A + 50 * P) : HI u B P' := by
  by_cases z : ns = []
  · subst z
    have e : B = A := hC
    have e0 : blkB b [] = [] := by unfold blkB; rw [if_pos rfl]
    rw [e0, List.append_nil] at hD
    subst e
    exact ⟨E, hD, LG_less hp hE, hL, by omega⟩
  · have e : enE (E ++ [(b, ns)]) = enE E ++ blkB b ns := by
      rw [enE_app]; show enE E ++ (blkB b ns ++ []) = _; rw [List.append_nil]
    refine ⟨E ++ [(b, ns)], by rw [e]; exact hD, LG_app (LG_less hp hE) ⟨z, hb, B, hC, by show _ + (blkB b ns).length + _ ≤ _; omega, rfl⟩, hL, ?_⟩
    rw [e, List.length_append]; omega
theorem HD_app {u : mjS} {E : List Blk} {A B : List AK} {P P' n : Nat} {b : Bool} {ns : List Req} (hE : LG P 0 [] E A) (hA : LI A P) (hc : (enE E).length + (kap A + 50 * P) ≤ 650000) (hp : P' ≤ P) (hD : DKs u (enE E ++ (blkB b ns).take n)) (hL : LI B P') (hC : LC P' A ns B) (hb : b = false → ns.length ≤ 1) (hk : (blkB b ns).length + kap B + 50 * P' ≤ kap A + 50 * P) : HD u P' :=
  ⟨E, A, b, ns, n, B, hD, LG_less hp hE, hA.less hp, hC, hL, hb, by omega, by omega⟩
end HIST
