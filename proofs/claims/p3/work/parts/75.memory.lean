/-! memory: how much the store takes. -/
section MEMORY
variable {Y : Nat → MethodName × ByteArray} {d : Nat} {σ : mjS}
def memW (s : Int32) : Nat := if s = 4 then 48 else if s = 3 then 24 else if s = 2 then 32 else 16
def memE (w : Nat) : List ER → Nat
  | [] => 0
  | y :: r => w + y.2.1.length + y.2.2.1.length + memE w r
def memA : List KR → Nat
  | [] => 0
  | x :: r => 64 + x.2.1.length + x.2.2.2.2.2.1.length + memE (memW x.2.2.1) x.2.2.2.2.2.2 + memA r
set_option maxRecDepth 100000 in
theorem c_mem_in (K : mjK) {hs : Nat} (x2 x3 : Int32) (w : Nat) (ty : mjTY σ) : ∀ (es : List ER) (m : Nat) (x1 x5 : Int32), x1 = nI m → x5 = nx (ids es) → FSEG σ (ids es) → (∀ y ∈ es, EOK σ hs y) →
    (∀ l5, mjY mjPP (mjQQ Y) d 20 80 [some (.ref 0), some (.int (nI (m + memE w es))), some (.int x2), some (.int x3), some (.int (nI w)), l5] [] σ K) →
    mjY mjPP (mjQQ Y) d 20 58 [some (.ref 0), some (.int x1), some (.int x2), some (.int x3), some (.int (nI w)), some (.int x5)] [] σ K := by
  intro es
  induction es with
  | nil =>
    intro m x1 x5 e1 e5 _ _ hK
    subst e1; subst e5
    refine mjZ_y rfl rfl 2 _ _ _ _ ty ?_
    exact And.intro (fun _ => hK _) (fun c => absurd (show (-1 : Int32) < 0 by decide) c)
  | cons y r ih =>
    intro m x1 x5 e1 e5 hF hE hK
    have e5 : x5 = nI y.1 := e5
    subst e1; subst e5
    have hy := hE y List.mem_cons_self
    have y10 := hy.1
    have ic : (nI y.1).toNatClampNeg = y.1 := nI_clamp (by omega)
    have iv : vp_in (nI y.1) 10000 := vp_in_nI y10 (by decide)
    obtain ⟨-, -, -, l1, -⟩ := hy.2.1
    obtain ⟨-, -, -, l2, -⟩ := hy.2.2.1
    refine mjZ_y rfl rfl 22 _ _ _ _ ty ?_
    refine And.intro (fun c => absurd (show nI y.1 < 0 from c) (nI_n0 (by omega))) (fun _ => ?_)
    refine And.intro rfl (And.intro rfl (And.intro iv (And.intro rfl (And.intro rfl (And.intro iv (And.intro (Nat.le_of_ble_eq_true rfl) ?_))))))
    refine And.intro rfl (And.intro rfl (And.intro iv (And.intro (Nat.le_of_ble_eq_true rfl) ?_)))
    refine ih (m + (w + y.2.1.length + y.2.2.1.length)) _ _ ?_ ?_ hF.2 (fun z hz => hE z (List.mem_cons_of_mem _ hz)) (fun l5 => ?_)
    · show nI m + (nI w + σ.2.2.1 r_eLen (nI y.1).toNatClampNeg + σ.2.2.1 r_vLen (nI y.1).toNatClampNeg) = _
      rw [ic, l1, l2, nI_add, nI_add, nI_add]
    · show σ.2.2.1 r_eNext (nI y.1).toNatClampNeg = _
      rw [ic]; exact hF.1
    · have := hK l5
      rw [show m + memE w (y :: r) = m + (w + y.2.1.length + y.2.2.1.length) + memE w r by show m + (w + y.2.1.length + y.2.2.1.length + memE w r) = _; omega] at this
      exact this
set_option maxRecDepth 100000 in
theorem c_mem_w (K : mjK) (k : Nat) (hk : k < 4700) (x1 x2 : Int32) (l4 l5 : Option Value) (ty : mjTY σ)
    (hK : mjY mjPP (mjQQ Y) d 20 53 [some (.ref 0), some (.int x1), some (.int x2), some (.int (nI k)), some (.int (nI (memW (σ.2.2.1 r_kSort k)))), l5] [] σ K) :
    mjY mjPP (mjQQ Y) d 20 27 [some (.ref 0), some (.int x1), some (.int x2), some (.int (nI k)), l4, l5] [] σ K := by
  have kc : (nI k).toNatClampNeg = k := nI_clamp (by omega)
  have kv : vp_in (nI k) 4700 := vp_in_nI hk (by decide)
  have s3 : ∀ z : Nat, nI z = nI (memW (σ.2.2.1 r_kSort k)) → mjY mjPP (mjQQ Y) d 20 53 [some (.ref 0), some (.int x1), some (.int x2), some (.int (nI k)), some (.int (nI z)), l5] [] σ K := fun z e => by rw [e]; exact hK
  refine mjZ_y rfl rfl 8 _ _ _ _ ty ?_
  refine And.intro (Nat.le_of_ble_eq_true rfl) (And.intro rfl (And.intro rfl (And.intro kv ?_)))
  have st4 : ∀ z : Nat, (σ.2.2.1 r_kSort k ≠ 4 → nI z = nI (memW (σ.2.2.1 r_kSort k))) → mjY mjPP (mjQQ Y) d 20 45 [some (.ref 0), some (.int x1), some (.int x2), some (.int (nI k)), some (.int (nI z)), l5] [] σ K := by
    intro z hz
    refine mjZ_y rfl rfl 6 _ _ _ _ ty ?_
    refine And.intro rfl (And.intro rfl (And.intro kv (And.intro (fun c => ?_) (fun c => ?_))))
    · have c : σ.2.2.1 r_kSort (nI k).toNatClampNeg ≠ 4 := c
      rw [kc] at c
      exact s3 z (hz c)
    · have c : σ.2.2.1 r_kSort (nI k).toNatClampNeg = 4 := Decidable.of_not_not c
      rw [kc] at c
      refine mjZ_re rfl rfl 2 ty ?_
      refine And.intro (Nat.le_of_ble_eq_true rfl) ?_
      exact s3 48 (by unfold memW; rw [if_pos c])
  have st3 : ∀ z : Nat, (σ.2.2.1 r_kSort k ≠ 4 → σ.2.2.1 r_kSort k ≠ 3 → nI z = nI (memW (σ.2.2.1 r_kSort k))) → mjY mjPP (mjQQ Y) d 20 37 [some (.ref 0), some (.int x1), some (.int x2), some (.int (nI k)), some (.int (nI z)), l5] [] σ K := by
    intro z hz
    refine mjZ_y rfl rfl 6 _ _ _ _ ty ?_
    refine And.intro rfl (And.intro rfl (And.intro kv (And.intro (fun c => ?_) (fun c => ?_))))
    · have c : σ.2.2.1 r_kSort (nI k).toNatClampNeg ≠ 3 := c
      rw [kc] at c
      exact st4 z (fun c4 => hz c4 c)
    · have c : σ.2.2.1 r_kSort (nI k).toNatClampNeg = 3 := Decidable.of_not_not c
      rw [kc] at c
      refine mjZ_re rfl rfl 2 ty ?_
      refine And.intro (Nat.le_of_ble_eq_true rfl) ?_
      exact st4 24 (fun c4 => by unfold memW; rw [if_neg c4, if_pos c])
  refine And.intro (fun c => ?_) (fun c => ?_)
  · have c : σ.2.2.1 r_kSort (nI k).toNatClampNeg ≠ 2 := c
    rw [kc] at c
    exact st3 16 (fun c4 c3 => by unfold memW; rw [if_neg c4, if_neg c3, if_neg c])
  · have c : σ.2.2.1 r_kSort (nI k).toNatClampNeg = 2 := Decidable.of_not_not c
    rw [kc] at c
    refine mjZ_re rfl rfl 2 ty ?_
    refine And.intro (Nat.le_of_ble_eq_true rfl) ?_
    exact st3 32 (fun c4 c3 => by unfold memW; rw [if_neg c4, if_neg c3, if_pos c])
end MEMORY
