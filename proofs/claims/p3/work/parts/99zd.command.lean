/-! command and arityFits. -/
section COMMAND
variable {Y : Nat → MethodName × ByteArray} {d : Nat}
def shB (a : Int64) (b : Int32) : Int64 := a <<< ((Int8.ofInt 8).toInt32.toInt64 &&& 63) ||| b.toInt64
def pkL : List Int32 → Nat → Int64 × Int64 → Option (Int64 × Int64)
  | [], _, p => some p
  | b :: r, k, p => if up b < 65 ∨ 90 < up b then none else pkL r (k + 1) (if k < 8 then (shB p.1 (up b), p.2) else (p.1, shB p.2 (up b)))
def lkF (A B : Nat → Int64) (p : Int64 × Int64) : Nat → Nat → Nat
  | 0, _ => 0
  | m + 1, i => if A i = p.1 ∧ B i = p.2 then i else lkF A B p m (i + 1)
def cmF (A B : Nat → Int64) (w : List Int32) : Nat := if 16 < w.length then 0 else match pkL w 0 (0, 0) with
  | none => 0
  | some p => lkF A B p 105 1
theorem lkF_le (A B : Nat → Int64) (p : Int64 × Int64) : ∀ m i, lkF A B p m i < i + m + 1 := by
  intro m
  induction m with
  | zero => intro i; show 0 < _; omega
  | succ m ih =>
    intro i
    show (if A i = p.1 ∧ B i = p.2 then i else lkF A B p m (i + 1)) < _
    split
    · omega
    · have := ih (i + 1); omega
set_option maxRecDepth 100000 in
theorem c_cm_look {σ : mjS} (ty : mjTY σ) (x1 : Int32) (a c : Int64) (l7 : Option Value) : ∀ (m i : Nat) (x6 : Int32), i + m = 106 → x6 = nI i → mjY mjPP (mjQQ Y) (d + 4) 57 61 [some (.ref 0), some (.int x1), some (.long a), none, some (.long c), none, some (.int x6), l7] [] σ (fun r u => r = some (.int (nI (lkF (σ.2.2.2 r_nameA) (σ.2.2.2 r_nameB) (a, c) m i))) ∧ u = σ) := by
  intro m
  induction m with
  | zero =>
    intro i x6 hi e6
    refine mjZ_y rfl rfl 3 _ _ _ _ ty ?_
    refine And.intro (fun q => ?_) (fun q => ?_)
    · refine mjZ_y rfl rfl 2 _ _ _ _ ty ?_
      refine And.intro rfl (And.intro (Or.inl rfl) ?_)
      exact ⟨rfl, rfl⟩
    · exact absurd (show nI 105 < x6 by rw [e6]; exact Int32.not_le.mp (nI_ge (by omega) (by omega))) q
  | succ m ih =>
    intro i x6 hi e6
    have v6 : vp_in x6 128 := by rw [e6]; exact vp_in_nI (by omega) (by decide)
    have c6 : x6.toNatClampNeg = i := by rw [e6]; exact nI_clamp (by omega)
    have nxt : ¬ (σ.2.2.2 r_nameA i = a ∧ σ.2.2.2 r_nameB i = c) → mjY mjPP (mjQQ Y) (d + 4) 57 80 [some (.ref 0), some (.int x1), some (.long a), none, some (.long c), none, some (.int x6), l7] [] σ (fun r u => r = some (.int (nI (lkF (σ.2.2.2 r_nameA) (σ.2.2.2 r_nameB) (a, c) (m + 1) i))) ∧ u = σ) := by
      intro n
      rw [show lkF (σ.2.2.2 r_nameA) (σ.2.2.2 r_nameB) (a, c) (m + 1) i = lkF (σ.2.2.2 r_nameA) (σ.2.2.2 r_nameB) (a, c) m (i + 1) from if_neg n]
      refine mjZ_y rfl rfl 2 _ _ _ _ ty ?_
      exact ih (i + 1) _ (by omega) (by rw [e6]; exact nI_1 i)
    refine mjZ_y rfl rfl 3 _ _ _ _ ty ?_
    refine And.intro (fun q => ?_) (fun q => ?_)
    · exact absurd (show nI 105 < x6 from q) (by rw [e6]; exact Int32.not_lt.mpr (nI_le (by omega) (by omega)))
    · refine mjZ_y rfl rfl 7 _ _ _ _ ty ?_
      refine (And.intro rfl (And.intro rfl (And.intro v6 (And.intro (fun b => ?_) (fun b => ?_)))))
      · refine nxt (fun z => b ((lg_cmp_eq _ _).mpr ?_))
        rw [c6]; exact z.1
      · have b := (lg_cmp_eq _ _).mp (Decidable.of_not_not b)
        rw [c6] at b
        refine mjZ_y rfl rfl 7 _ _ _ _ ty ?_
        refine (And.intro rfl (And.intro rfl (And.intro v6 (And.intro (fun k => ?_) (fun k => ?_)))))
        · refine nxt (fun z => k ((lg_cmp_eq _ _).mpr ?_))
          rw [c6]; exact z.2
        · have k := (lg_cmp_eq _ _).mp (Decidable.of_not_not k)
          rw [c6] at k
          rw [show lkF (σ.2.2.2 r_nameA) (σ.2.2.2 r_nameB) (a, c) (m + 1) i = i from if_pos ⟨b, k⟩]
          refine mjZ_y rfl rfl 2 _ _ _ _ ty ?_
          refine And.intro rfl (And.intro (Or.inl rfl) ?_)
          exact ⟨by rw [e6], rfl⟩
set_option maxRecDepth 100000 in
theorem c_cm_pack {σ : mjS} (K : mjK) (ty : mjTY σ) (w : List Int32) (a0 : Nat) (ha : a0 + w.length ≤ 131200) (ew : wd (σ.2.2.1 r_req) a0 w.length = w) (hc : σ.2.2.1 r_aAt 0 = nI a0) (hl : w.length ≤ 16) (x1 : Int32) (e1 : x1 = nI w.length)   : ∀ (m k : Nat) (a c : Int64) (x6 : Int32) (l7 : Option Value), k + m = w.length → x6 = nI k →
    (∀ p x6 l7, pkL (w.drop k) k (a, c) = some p → mjY mjPP (mjQQ Y) (d + 4) 57 59 [some (.ref 0), some (.int x1), some (.long p.1), none, some (.long p.2), none, some (.int x6), l7] [] σ K) →
    (pkL (w.drop k) k (a, c) = none → K (some (.int 0)) σ) →
    mjY mjPP (mjQQ Y) (d + 4) 57 16 [some (.ref 0), some (.int x1), some (.long a), none, some (.long c), none, some (.int x6), l7] [] σ K := by
  intro m
  induction m with
  | zero =>
    intro k a c x6 l7 hk e6 hK hN
    refine mjZ_y rfl rfl 3 _ _ _ _ ty ?_
    refine And.intro (fun q => ?_) (fun q => ?_)
    · exact hK (a, c) _ _ (by rw [List.drop_of_length_le (by omega)]; rfl)
    · exact absurd (show x1 ≤ x6 by rw [e1, e6]; exact nI_le (by omega) (by omega)) q
  | succ m ih =>
    intro k a c x6 l7 hk e6 hK hN
    have hkl : k < w.length := by omega
    have hb : w[k]? = some (σ.2.2.1 r_req (a0 + k)) := by have := wd_get (f := σ.2.2.1 r_req) (a := a0) hkl; rw [ew] at this; exact this
    have ed : w.drop k = σ.2.2.1 r_req (a0 + k) :: w.drop (k + 1) := by
      rw [List.drop_eq_getElem_cons hkl]
      congr 1
      have := (List.getElem?_eq_getElem hkl).symm.trans hb
      exact Option.some.inj this
    rw [ed] at hK hN
    have ei : σ.2.2.1 r_aAt (Int32.ofInt 0).toNatClampNeg + x6 = nI (a0 + k) := by
      rw [show σ.2.2.1 r_aAt (Int32.ofInt 0).toNatClampNeg = nI a0 from hc, e6]; exact nI_add _ _
    have vb : vp_in (σ.2.2.1 r_aAt (Int32.ofInt 0).toNatClampNeg + x6) 131200 := by rw [ei]; exact vp_in_nI (by omega) (by decide)
    have eb : σ.2.2.1 r_req (σ.2.2.1 r_aAt (Int32.ofInt 0).toNatClampNeg + x6).toNatClampNeg = σ.2.2.1 r_req (a0 + k) := by rw [ei, nI_clamp (by omega)]
    have v0 : vp_in (Int32.ofInt 0) 1100 := vp_in_nI (n := 0) (N := 1100) (by decide) (by decide)
    generalize σ.2.2.1 r_req (a0 + k) = b at eb hK hN
    have hup := c_upper (Y := Y) (d := d + 3) ty (σ.2.2.1 r_req (σ.2.2.1 r_aAt (Int32.ofInt 0).toNatClampNeg + x6).toNatClampNeg)
    refine mjZ_y rfl rfl 3 _ _ _ _ ty ?_
    refine And.intro (fun q => ?_) (fun q => ?_)
    · exact absurd (show x1 ≤ x6 from q) (by rw [e1, e6]; exact nI_ge (by omega) (by omega))
    · refine mjZ_y rfl rfl 11 _ _ _ _ ty ?_
      refine (And.intro rfl (And.intro rfl (And.intro rfl (And.intro v0 (And.intro (Or.inl rfl) (And.intro vb (And.intro (Nat.le_of_ble_eq_true rfl) (And.intro rfl (And.intro (Nat.le_of_ble_eq_true rfl) (And.intro (Nat.le_of_ble_eq_true rfl) (mjY_mono ty (fun q_ u1 ty1 h_ => ?_) (hup))))))))))))
      obtain ⟨rfl, rfl⟩ := h_
      intro _
      rw [eb]
      have bad : (up b < 65 ∨ 90 < up b) → mjY mjPP (mjQQ Y) (d + 4) 57 37 [some (.ref 0), some (.int x1), some (.long a), none, some (.long c), none, some (.int x6), some (.int (up b))] [] u1 K := by
        intro y
        refine mjZ_y rfl rfl 2 _ _ _ _ ty1 ?_
        refine And.intro rfl (And.intro (Or.inl rfl) ?_)
        exact hN (if_pos y)
      refine mjZ_y rfl rfl 4 _ _ _ _ ty1 ?_
      refine (And.intro (Nat.le_of_ble_eq_true rfl) (And.intro (fun g => ?_) (fun g => ?_)))
      · exact bad (Or.inl g)
      · refine mjZ_y rfl rfl 3 _ _ _ _ ty1 ?_
        refine And.intro (fun e => ?_) (fun e => ?_)
        · have y : ¬ (up b < 65 ∨ 90 < up b) := fun y => y.elim g (fun y => Int32.not_lt.mpr e y)
          rw [show pkL (b :: w.drop (k + 1)) k (a, c) = pkL (w.drop (k + 1)) (k + 1) (if k < 8 then (shB a (up b), c) else (a, shB c (up b))) from if_neg y] at hK hN
          refine mjZ_y rfl rfl 3 _ _ _ _ ty1 ?_
          refine And.intro (fun s => ?_) (fun s => ?_)
          · have s : ¬ k < 8 := fun z => by
              have s : nI 8 ≤ x6 := s
              rw [e6] at s
              have := (nI_leI (by decide) (by omega)).mp s; omega
            rw [if_neg s] at hK hN
            refine mjZ_y rfl rfl 9 _ _ _ _ ty1 ?_
            refine (And.intro (Nat.le_of_ble_eq_true rfl) ?_)
            exact ih (k + 1) a (shB c (up b)) _ _ (by omega) (by rw [e6]; exact nI_1 k) hK hN
          · have s : k < 8 := Nat.lt_of_not_le (fun z => s (show nI 8 ≤ x6 by rw [e6]; exact nI_le z (by omega)))
            rw [if_pos s] at hK hN
            refine mjZ_y rfl rfl 10 _ _ _ _ ty1 ?_
            refine (And.intro (Nat.le_of_ble_eq_true rfl) ?_)
            exact ih (k + 1) (shB a (up b)) c _ _ (by omega) (by rw [e6]; exact nI_1 k) hK hN
        · exact bad (Or.inr (Int32.not_le.mp e))
set_option maxRecDepth 100000 in
theorem c_command {σ : mjS} {ws : List (List Int32)} (har : AR σ ws) (ty : mjTY σ) {w : List Int32} (h0 : ws[0]? = some w) : mjY mjPP (mjQQ Y) (d + 4) 57 0 (mjL0 8 [.ref 0]) [] σ (fun r u => r = some (.int (nI (cmF (σ.2.2.2 r_nameA) (σ.2.2.2 r_nameB) w))) ∧ u = σ) := by
  obtain ⟨v0, a0, ea, el, ha, ew⟩ := har.clamp h0 (x := Int32.ofInt 0) rfl
  refine mjZ_y rfl rfl 8 _ _ _ _ ty ?_
  refine (And.intro rfl (And.intro rfl (And.intro v0 (And.intro (Nat.le_of_ble_eq_true rfl) (And.intro (fun c => ?_) (fun c => ?_))))))
  · have c : w.length ≤ 16 := by
      have c : σ.2.2.1 r_aLen (Int32.ofInt 0).toNatClampNeg ≤ nI 16 := c
      rw [el] at c; exact (nI_leI (by omega) (by decide)).mp c
    refine mjZ_y rfl rfl 6 _ _ _ _ ty ?_
    refine (And.intro (Nat.le_of_ble_eq_true rfl) (And.intro (Nat.le_of_ble_eq_true rfl) (And.intro (Nat.le_of_ble_eq_true rfl) ?_)))
    refine c_cm_pack _ ty w a0 ha ew ea c _ el w.length 0 0 0 _ _ (Nat.zero_add _) rfl (fun p x6 l7 hp => ?_) (fun hp => ?_)
    · rw [show cmF (σ.2.2.2 r_nameA) (σ.2.2.2 r_nameB) w = lkF (σ.2.2.2 r_nameA) (σ.2.2.2 r_nameB) p 105 1 by unfold cmF; rw [if_neg (by omega), show pkL w 0 (0, 0) = some p from hp]]
      refine mjZ_y rfl rfl 2 _ _ _ _ ty ?_
      refine (And.intro (Nat.le_of_ble_eq_true rfl) ?_)
      exact c_cm_look ty _ p.1 p.2 _ 105 1 _ rfl rfl
    · rw [show cmF (σ.2.2.2 r_nameA) (σ.2.2.2 r_nameB) w = 0 by unfold cmF; rw [if_neg (by omega), show pkL w 0 (0, 0) = none from hp]]
      exact ⟨rfl, rfl⟩
  · have c : 16 < w.length := Nat.lt_of_not_le (fun z => c (show σ.2.2.1 r_aLen (Int32.ofInt 0).toNatClampNeg ≤ nI 16 by rw [el]; exact nI_le z (by decide)))
    rw [show cmF (σ.2.2.2 r_nameA) (σ.2.2.2 r_nameB) w = 0 from if_pos c]
    refine mjZ_y rfl rfl 2 _ _ _ _ ty ?_
    refine And.intro rfl (And.intro (Or.inl rfl) ?_)
    exact ⟨rfl, rfl⟩
end COMMAND
