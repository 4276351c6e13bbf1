/-! Words that stand for themselves. -/
def up (b : Int32) : Int32 := if 97 ≤ b ∧ b ≤ 122 then b - 32 else b
/-- a byte of a long without sign -/
def ub (c : Int64) (s : Nat) : Int32 := (c >>> ((nI s).toInt64 &&& 63)).toInt32 &&& 255
def bl (c : Int64) : Nat → List Int32
  | 0 => []
  | j + 1 => (if ub c (8 * j) = 0 then [] else [ub c (8 * j)]) ++ bl c j
/-- whether a word is this one, in letters of any size -/
def isF (w : List Int32) (c : Int64) : Int32 := if w.map up = bl c 8 then 1 else 0
section IS
variable {Y : Nat → MethodName × ByteArray} {d : Nat} {σ : mjS}
set_option maxRecDepth 100000 in
theorem c_upper (ty : mjTY σ) (b : Int32) : mjY mjPP (mjQQ Y) d 55 0 (mjL0 2 [.ref 0, .int b]) [] σ (fun r u => r = some (.int (up b)) ∧ u = σ) := by
  refine mjZ_y rfl rfl 3 _ _ _ _ ty ?_
  refine And.intro (fun q => ?_) (fun q => ?_)
  · have q : b < 97 := q
    refine mjZ_re rfl rfl 2 ty ?_
    refine And.intro rfl (And.intro (Or.inl rfl) (And.intro ?_ rfl))
    unfold up; rw [if_neg (fun g => absurd g.1 (Int32.not_le.mpr q))]
  · have q : (97 : Int32) ≤ b := Int32.not_lt.mp q
    refine mjZ_re rfl rfl 3 ty ?_
    refine And.intro (fun g => ?_) (fun g => ?_)
    · have g : (122 : Int32) < b := g
      refine mjZ_re rfl rfl 2 ty ?_
      refine And.intro rfl (And.intro (Or.inl rfl) (And.intro ?_ rfl))
      unfold up; rw [if_neg (fun z => absurd z.2 (Int32.not_le.mpr g))]
    · have g : b ≤ 122 := Int32.not_lt.mp g
      refine mjZ_re rfl rfl 4 ty ?_
      refine And.intro rfl (And.intro (Or.inl rfl) (And.intro ?_ rfl))
      unfold up; rw [if_pos ⟨q, g⟩]; rfl
theorem map_take_s {w : List Int32} {n : Nat} {b : Int32} (h : w[n]? = some b) : (w.take (n + 1)).map up = (w.take n).map up ++ [up b] := by
  rw [List.take_succ, h, List.map_append]; rfl
set_option maxRecDepth 100000 in
theorem c_is_loop (K : mjK) {ws : List (List Int32)} (har : AR σ ws) (i : Nat) (w : List Int32) (hw : ws[i]? = some w) (ty : mjTY σ) (c : Int64) : ∀ (j n : Nat) (x4 x5 : Int32) (l6 : Option Value), x4 = nI n → x5 = nI (8 * j) - 8 → j ≤ 8 → n ≤ w.length → K (some (.int (if w.map up = (w.take n).map up ++ bl c j then 1 else 0))) σ →
    mjY mjPP (mjQQ Y) (d + 1) 56 4 [some (.ref 0), some (.int (nI i)), some (.long c), none, some (.int x4), some (.int x5), l6] [] σ K := by
  obtain ⟨e0, h1024, hall⟩ := har
  obtain ⟨a, ea, el, hal, hwd⟩ := hall i w hw
  have hi : i < ws.length := (List.getElem?_eq_some_iff.mp hw).1
  have ci : (nI i).toNatClampNeg = i := nI_clamp (by omega)
  have vi : vp_in (nI i) 1100 := vp_in_nI (by omega) (by decide)
  have el2 : σ.2.2.1 r_aLen (nI i).toNatClampNeg = nI w.length := by rw [ci]; exact el
  have ea2 : σ.2.2.1 r_aAt (nI i).toNatClampNeg = nI a := by rw [ci]; exact ea
  intro j
  induction j with
  | zero =>
    intro n x4 x5 l6 e4 e5 hj hn hK
    rw [show bl c 0 = [] from rfl, List.append_nil] at hK
    refine mjZ_y rfl rfl 2 _ _ _ _ ty ?_
    refine And.intro (fun _ => ?_) (fun q => absurd (show x5 < 0 by rw [e5]; decide) q)
    refine mjZ_re rfl rfl 6 ty ?_
    refine And.intro rfl (And.intro rfl (And.intro vi (And.intro (fun q => ?_) (fun q => ?_))))
    · have q : ¬ x4 = σ.2.2.1 r_aLen (nI i).toNatClampNeg := q
      have q2 : ¬ n = w.length := fun z => q (by rw [el2, e4, z])
      rw [if_neg (fun z => q2 (by have := congrArg List.length z; rw [List.length_map, List.length_map, List.length_take] at this; omega))] at hK
      refine mjZ_re rfl rfl 2 ty ?_
      exact And.intro rfl (And.intro (Or.inr ⟨rfl, Or.inl rfl⟩) hK)
    · have q : x4 = σ.2.2.1 r_aLen (nI i).toNatClampNeg := Decidable.of_not_not q
      rw [el2, e4] at q
      have q2 : n = w.length := (nI_eq (by omega) (by omega)).mp q
      rw [if_pos (by rw [q2, List.take_length])] at hK
      refine mjZ_re rfl rfl 3 ty ?_
      exact And.intro rfl (And.intro (Or.inr ⟨rfl, Or.inr rfl⟩) hK)
  | succ j ih =>
    intro n x4 x5 l6 e4 e5 hj hn hK
    have e8 : x5 = nI (8 * j) := by
      rw [e5, show (8 : Int32) = nI 8 from rfl, pk_sub (by omega)]; exact congrArg nI (by omega)
    have e9 : x5 + Int32.ofInt (-8) = nI (8 * j) - 8 := by
      rw [e8, show Int32.ofInt (-8) = -8 by decide, Int32.sub_eq_add_neg]
    have eb : (c >>> (x5.toInt64 &&& 63)).toInt32 &&& (Int16.ofInt 255).toInt32 = ub c (8 * j) := by rw [e8]; rfl
    have ebl : bl c (j + 1) = (if ub c (8 * j) = 0 then [] else [ub c (8 * j)]) ++ bl c j := rfl
    refine mjZ_y rfl rfl 11 _ _ _ _ ty ?_
    refine And.intro (fun q => absurd q (by rw [e8]; exact nI_pos (by omega))) (fun _ => And.intro (Nat.le_of_ble_eq_true rfl) ?_)
    rw [eb]
    refine And.intro (fun q => ?_) (fun q => ?_)
    · have q : ¬ ub c (8 * j) = 0 := q
      rw [ebl, if_neg q] at hK
      refine mjZ_re rfl rfl 6 ty ?_
      refine And.intro rfl (And.intro rfl (And.intro vi (And.intro (fun g => ?_) (fun g => ?_))))
      · have g : σ.2.2.1 r_aLen (nI i).toNatClampNeg ≤ x4 := g
        rw [el2, e4] at g
        have g2 : w.length ≤ n := (nI_leI (by omega) (by omega)).mp g
        rw [if_neg (fun z => by
          have := congrArg List.length z
          rw [List.length_append, List.length_append, List.length_map, List.length_map, List.length_take, List.length_singleton] at this
          omega)] at hK
        refine mjZ_re rfl rfl 2 ty ?_
        exact And.intro rfl (And.intro (Or.inr ⟨rfl, Or.inl rfl⟩) hK)
      · have g2 : n < w.length := by
          refine Nat.lt_of_not_le (fun z => g ?_)
          show σ.2.2.1 r_aLen (nI i).toNatClampNeg ≤ x4
          rw [el2, e4]; exact nI_le z (by omega)
        have hb : w[n]? = some (σ.2.2.1 r_req (a + n)) := by
          have z := wd_get (f := σ.2.2.1 r_req) (a := a) g2
          rw [hwd] at z; exact z
        have ex : σ.2.2.1 r_req (σ.2.2.1 r_aAt (nI i).toNatClampNeg + x4).toNatClampNeg = σ.2.2.1 r_req (a + n) := by
          rw [ea2, e4, nI_add, nI_clamp (by omega)]
        refine mjZ_re rfl rfl 13 ty ?_
        refine And.intro rfl (And.intro rfl (And.intro rfl (And.intro vi (And.intro (Or.inl rfl) (And.intro ?_ ?_)))))
        · show vp_in (σ.2.2.1 r_aAt (nI i).toNatClampNeg + x4) 131200
          rw [ea2, e4, nI_add]; exact vp_in_nI (by omega) (by omega)
        · refine And.intro (Nat.le_of_ble_eq_true rfl) (And.intro rfl (And.intro (Nat.le_of_ble_eq_true rfl) (And.intro (Nat.le_of_ble_eq_true rfl) (mjY_mono ty (fun v u1 ty1 h1 => ?_) (c_upper (Y := Y) (d := d) ty _)))))
          obtain ⟨rfl, rfl⟩ := h1
          intro _
          refine And.intro (fun z => ?_) (fun z => ?_)
          · have z : up (u1.2.2.1 r_req (u1.2.2.1 r_aAt (nI i).toNatClampNeg + x4).toNatClampNeg) = ub c (8 * j) := z
            rw [ex] at z
            refine mjZ_re rfl rfl 3 ty ?_
            refine ih (n + 1) _ _ _ (by rw [e4]; exact nI_1 n) e9 (by omega) (by omega) ?_
            rw [map_take_s hb, z, List.append_assoc]; exact hK
          · have z : ¬ up (u1.2.2.1 r_req (u1.2.2.1 r_aAt (nI i).toNatClampNeg + x4).toNatClampNeg) = ub c (8 * j) := z
            rw [ex] at z
            rw [if_neg (fun y => z (by
              have h1 : (w.map up)[n]? = some (up (u1.2.2.1 r_req (a + n))) := by rw [List.getElem?_map, hb]; rfl
              rw [y, List.getElem?_append_right (by rw [List.length_map, List.length_take]; omega), List.length_map, List.length_take, Nat.min_eq_left (by omega), Nat.sub_self] at h1
              exact (Option.some.inj h1).symm))] at hK
            refine mjZ_re rfl rfl 2 ty ?_
            exact And.intro rfl (And.intro (Or.inr ⟨rfl, Or.inl rfl⟩) hK)
    · have q : ub c (8 * j) = 0 := Decidable.of_not_not q
      rw [ebl, if_pos q, List.nil_append] at hK
      refine mjZ_re rfl rfl 3 ty ?_
      exact ih n _ _ _ e4 e9 (by omega) hn hK
set_option maxRecDepth 100000 in
theorem c_is {ws : List (List Int32)} (har : AR σ ws) (i : Nat) (w : List Int32) (hw : ws[i]? = some w) (ty : mjTY σ) (c : Int64) : mjY mjPP (mjQQ Y) (d + 1) 56 0 (mjL0 7 [.ref 0, .int (nI i), .long c]) [] σ (fun r u => r = some (.int (isF w c)) ∧ u = σ) := by
  refine mjZ_y rfl rfl 4 _ _ _ _ ty ?_
  refine And.intro (Nat.le_of_ble_eq_true rfl) (And.intro (Nat.le_of_ble_eq_true rfl) ?_)
  refine c_is_loop _ har i w hw ty c 8 0 _ _ _ rfl (by decide) (by omega) (Nat.zero_le _) ?_
  rw [List.take_zero, List.map_nil, List.nil_append]; exact ⟨rfl, rfl⟩
end IS
