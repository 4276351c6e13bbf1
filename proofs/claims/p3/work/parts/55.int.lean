/-! integerAt: the integers of the document. -/
def iaD (v : Int64) (b : Int32) : Option Int64 := if b - 48 < 0 ∨ 9 < b - 48 then none else if v < -922337203685477580 ∨ (v = -922337203685477580 ∧ 8 < b - 48) then none else some (v * 10 - (b - 48).toInt64)
def iaL : List Int32 → Int64 → Option Int64
  | [], v => some v
  | b :: r, v => match iaD v b with
    | none => none
    | some v' => iaL r v'
/-- behind the sign -/
def iaB (less : Bool) (w : List Int32) : Option Int64 := if w.length < 1 ∨ 19 < w.length then none else if w.head? = some 48 ∧ (1 < w.length ∨ less = true) then none else match iaL w 0 with
  | none => none
  | some v => if less = false ∧ v = -9223372036854775808 then none else some (if less = true then v else -v)
def intF (w : List Int32) : Option Int64 := match w with
  | [] => none
  | b :: r => if b = 45 then iaB true r else iaB false (b :: r)
section INT
variable {Y : Nat → MethodName × ByteArray} {d : Nat}
/-- the end of integerAt: a number, or none -/
def iaK (σ : mjS) (o : Option Int64) : mjK := fun r u => match o with
  | some z => r = some (.int 1) ∧ Fr [f_num] [] σ u ∧ u.2.1 f_num = z
  | none => r = some (.int 0) ∧ u = σ
set_option maxRecDepth 100000 in
theorem ia_end (σ : mjS) (ty : mjTY σ) (h : Nat) (xa xn x4 x6 x9 : Int32) (less : Bool) (v : Int64) (l10 : Option Value) : mjY mjPP (mjQQ Y) d 53 87 [some (.ref 0), some (.ref h), some (.int xa), some (.int xn), some (.int x4), some (.int (if less = true then 1 else 0)), some (.int x6), some (.long v), none, some (.int x9), l10] [] σ (iaK σ (if less = false ∧ v = -9223372036854775808 then none else some (if less = true then v else -v))) := by
  cases less with
  | true =>
    have e : (if true = false ∧ v = -9223372036854775808 then none else some (if true = true then v else -v)) = some v := rfl
    rw [e]
    refine mjZ_y rfl rfl 2 _ _ _ _ ty ?_
    refine And.intro (fun _ => ?_) (fun q => absurd (show ¬ (1 : Int32) = 0 by decide) q)
    refine mjZ_re rfl rfl 5 ty ?_
    refine And.intro rfl (And.intro rfl (fun ty1 => And.intro (fun _ => ?_) (fun q => absurd (show ¬ (1 : Int32) = 0 by decide) q)))
    refine mjZ_re rfl rfl 2 ty1 ?_
    refine And.intro rfl (And.intro (Or.inr ⟨rfl, Or.inr rfl⟩) (And.intro rfl (And.intro (Fr.l (by decide)) ?_)))
    show vp_updL σ.2.1 f_num v f_num = v
    rw [pk_uLs]
  | false =>
    refine mjZ_y rfl rfl 2 _ _ _ _ ty ?_
    refine And.intro (fun q => absurd (show (0 : Int32) = 0 from rfl) q) (fun _ => ?_)
    refine mjZ_re rfl rfl 4 ty ?_
    refine And.intro (fun q => ?_) (fun q => ?_)
    · have q2 : ¬ v = -9223372036854775808 := fun z => q ((lg_cmp_eq _ _).mpr z)
      rw [if_neg (fun z => q2 z.2)]
      refine mjZ_re rfl rfl 5 ty ?_
      refine And.intro rfl (And.intro rfl (fun ty1 => And.intro (fun z => absurd (show (0 : Int32) = 0 from rfl) z) (fun _ => ?_)))
      refine mjZ_re rfl rfl 6 ty1 ?_
      refine And.intro rfl (And.intro rfl (fun ty2 => And.intro rfl (And.intro (Or.inr ⟨rfl, Or.inr rfl⟩) (And.intro rfl (And.intro ((Fr.l (by decide)).tr (Fr.l (by decide))) ?_)))))
      show vp_updL (vp_updL σ.2.1 f_num v) f_num (-v) f_num = _
      rw [pk_uLs]; rfl
    · have q2 : v = -9223372036854775808 := (lg_cmp_eq _ _).mp (Decidable.of_not_not q)
      rw [if_pos ⟨rfl, q2⟩]
      refine mjZ_re rfl rfl 2 ty ?_
      exact And.intro rfl (And.intro (Or.inr ⟨rfl, Or.inl rfl⟩) (And.intro rfl rfl))
set_option maxRecDepth 100000 in
theorem ia_loop (σ : mjS) (ty : mjTY σ) (h a n : Nat) (hh : mjKd h = 1) (ha : a + n ≤ mjLn h) (hlh : mjLn h < 2 ^ 30) (x4 x6 : Int32) (less : Bool) : ∀ (j k : Nat) (v : Int64) (x9 : Int32) (l10 : Option Value), x9 = nI k → k + j = n →
    mjY mjPP (mjQQ Y) d 53 47 [some (.ref 0), some (.ref h), some (.int (nI a)), some (.int (nI n)), some (.int x4), some (.int (if less = true then 1 else 0)), some (.int x6), some (.long v), none, some (.int x9), l10] [] σ (iaK σ (match iaL (wd (σ.2.2.1 h) (a + k) j) v with | none => none | some v => if less = false ∧ v = -9223372036854775808 then none else some (if less = true then v else -v))) := by
  intro j
  induction j with
  | zero =>
    intro k v x9 l10 e9 hk
    rw [wd_0]
    refine mjZ_y rfl rfl 3 _ _ _ _ ty ?_
    refine And.intro (fun _ => ?_) (fun q => absurd (show nI n ≤ x9 by rw [e9]; exact nI_le (by omega) (by omega)) q)
    exact ia_end σ ty h _ _ x4 x6 _ less v l10
  | succ j ih =>
    intro k v x9 l10 e9 hk
    rw [wd_s]
    have i1 : (nI a + x9).toNatClampNeg = a + k := by rw [e9, nI_add]; exact nI_clamp (by omega)
    have eL : iaL (σ.2.2.1 h (a + k) :: wd (σ.2.2.1 h) (a + k + 1) j) v = match iaD v (σ.2.2.1 h (a + k)) with | none => none | some v' => iaL (wd (σ.2.2.1 h) (a + k + 1) j) v' := rfl
    rw [eL]
    have bad : ∀ l10', mjY mjPP (mjQQ Y) d 53 63 [some (.ref 0), some (.ref h), some (.int (nI a)), some (.int (nI n)), some (.int x4), some (.int (if less = true then 1 else 0)), some (.int x6), some (.long v), none, some (.int x9), l10'] [] σ (iaK σ none) := by
      intro l10'
      refine mjZ_y rfl rfl 2 _ _ _ _ ty ?_
      exact And.intro rfl (And.intro (Or.inr ⟨rfl, Or.inl rfl⟩) (And.intro rfl rfl))
    have bad2 : ∀ l10', mjY mjPP (mjQQ Y) d 53 76 [some (.ref 0), some (.ref h), some (.int (nI a)), some (.int (nI n)), some (.int x4), some (.int (if less = true then 1 else 0)), some (.int x6), some (.long v), none, some (.int x9), l10'] [] σ (iaK σ none) := by
      intro l10'
      refine mjZ_y rfl rfl 2 _ _ _ _ ty ?_
      exact And.intro rfl (And.intro (Or.inr ⟨rfl, Or.inl rfl⟩) (And.intro rfl rfl))
    refine mjZ_y rfl rfl 13 _ _ _ _ ty ?_
    refine And.intro (fun q => absurd (show nI n ≤ x9 from q) (by rw [e9]; exact nI_ge (by omega) (by omega))) (fun _ => ?_)
    refine And.intro (Or.inl hh) (And.intro (by rw [e9, nI_add]; exact vp_in_nI (by omega) (by omega)) (And.intro (Nat.le_of_ble_eq_true rfl) ?_))
    rw [i1]
    generalize σ.2.2.1 h (a + k) = b
    refine And.intro (fun q => ?_) (fun q => ?_)
    · have q : b - 48 < 0 := q
      have eD : iaD v b = none := by unfold iaD; rw [if_pos (Or.inl q)]
      rw [eD]; exact bad _
    · have q : ¬ b - 48 < 0 := q
      refine mjZ_re rfl rfl 3 ty ?_
      refine And.intro (fun g => ?_) (fun g => ?_)
      · have g : b - 48 ≤ 9 := g
        have c1 : ¬ (b - 48 < 0 ∨ 9 < b - 48) := fun z => z.elim q (fun y => absurd g (Int32.not_le.mpr y))
        have go : iaD v b = some (v * 10 - (b - 48).toInt64) → mjY mjPP (mjQQ Y) d 53 78 [some (.ref 0), some (.ref h), some (.int (nI a)), some (.int (nI n)), some (.int x4), some (.int (if less = true then 1 else 0)), some (.int x6), some (.long v), none, some (.int x9), some (.int (b - (Int8.ofInt 48).toInt32))] [] σ (iaK σ (match (match iaD v b with | none => none | some v' => iaL (wd (σ.2.2.1 h) (a + k + 1) j) v') with | none => none | some v => if less = false ∧ v = -9223372036854775808 then none else some (if less = true then v else -v))) := by
          intro eD
          rw [eD]
          refine mjZ_y rfl rfl 9 _ _ _ _ ty ?_
          refine And.intro (Nat.le_of_ble_eq_true rfl) ?_
          exact ih (k + 1) _ _ _ (by rw [e9]; exact nI_1 k) (by omega)
        refine mjZ_re rfl rfl 4 ty ?_
        refine And.intro (fun z => ?_) (fun z => ?_)
        · have z2 : v < -922337203685477580 := (lg_cmp_lt _ _).mp z
          have eD : iaD v b = none := by unfold iaD; rw [if_neg c1, if_pos (Or.inl z2)]
          rw [eD]; exact bad2 _
        · have z2 : ¬ v < -922337203685477580 := fun y => z ((lg_cmp_lt _ _).mpr y)
          refine mjZ_re rfl rfl 4 ty ?_
          refine And.intro (fun y => ?_) (fun y => ?_)
          · have y2 : ¬ v = -922337203685477580 := fun t => y ((lg_cmp_eq _ _).mpr t)
            refine go ?_
            unfold iaD; rw [if_neg c1, if_neg (fun t => t.elim z2 (fun s => y2 s.1))]
          · have y2 : v = -922337203685477580 := (lg_cmp_eq _ _).mp (Decidable.of_not_not y)
            refine mjZ_re rfl rfl 3 ty ?_
            refine And.intro (fun t => ?_) (fun t => ?_)
            · have t : b - 48 ≤ 8 := t
              refine go ?_
              unfold iaD; rw [if_neg c1, if_neg (fun r => r.elim z2 (fun s => absurd t (Int32.not_le.mpr s.2)))]
            · have t : 8 < b - 48 := Int32.not_le.mp t
              have eD : iaD v b = none := by unfold iaD; rw [if_neg c1, if_pos (Or.inr ⟨y2, t⟩)]
              rw [eD]; exact bad2 _
      · have g : 9 < b - 48 := Int32.not_le.mp g
        have eD : iaD v b = none := by unfold iaD; rw [if_pos (Or.inr g)]
        rw [eD]; exact bad _
set_option maxRecDepth 100000 in
theorem ia_17 (σ : mjS) (ty : mjTY σ) (h a n p : Nat) (hh : mjKd h = 1) (ha : a + n ≤ mjLn h) (hlh : mjLn h < 2 ^ 30) (hp : p ≤ n) (less : Bool) (x4 : Int32) (e4 : x4 = nI p) (l6 l7 l8 l9 l10 : Option Value) : mjY mjPP (mjQQ Y) d 53 17 [some (.ref 0), some (.ref h), some (.int (nI a)), some (.int (nI n)), some (.int x4), some (.int (if less = true then 1 else 0)), l6, l7, l8, l9, l10] [] σ (iaK σ (iaB less (wd (σ.2.2.1 h) (a + p) (n - p)))) := by
  have e6 : nI n - x4 = nI (n - p) := by rw [e4]; exact pk_sub hp
  have hlen : (wd (σ.2.2.1 h) (a + p) (n - p)).length = n - p := wd_len _ _ _
  have bad : ∀ l6 l7 l8 l9 l10 : Option Value, mjY mjPP (mjQQ Y) d 53 27 [some (.ref 0), some (.ref h), some (.int (nI a)), some (.int (nI n)), some (.int x4), some (.int (if less = true then 1 else 0)), l6, l7, l8, l9, l10] [] σ (iaK σ none) := by
    intro l6 l7 l8 l9 l10
    refine mjZ_y rfl rfl 2 _ _ _ _ ty ?_
    exact And.intro rfl (And.intro (Or.inr ⟨rfl, Or.inl rfl⟩) (And.intro rfl rfl))
  have bad2 : ∀ l6 l7 l8 l9 l10 : Option Value, mjY mjPP (mjQQ Y) d 53 41 [some (.ref 0), some (.ref h), some (.int (nI a)), some (.int (nI n)), some (.int x4), some (.int (if less = true then 1 else 0)), l6, l7, l8, l9, l10] [] σ (iaK σ none) := by
    intro l6 l7 l8 l9 l10
    refine mjZ_y rfl rfl 2 _ _ _ _ ty ?_
    exact And.intro rfl (And.intro (Or.inr ⟨rfl, Or.inl rfl⟩) (And.intro rfl rfl))
  refine mjZ_y rfl rfl 7 _ _ _ _ ty ?_
  refine And.intro (Nat.le_of_ble_eq_true rfl) ?_
  rw [e6]
  refine And.intro (fun q => ?_) (fun q => ?_)
  · have q : nI (n - p) < nI 1 := q
    have q2 : n - p < 1 := (nI_ltI (by omega) (by decide)).mp q
    have eB : iaB less (wd (σ.2.2.1 h) (a + p) (n - p)) = none := by unfold iaB; rw [hlen, if_pos (Or.inl q2)]
    rw [eB]; exact bad _ _ _ _ _
  · have q2 : ¬ n - p < 1 := fun z => q (show nI (n - p) < nI 1 from nI_lt z (by decide))
    refine mjZ_re rfl rfl 3 ty ?_
    refine And.intro (fun g => ?_) (fun g => ?_)
    · have g : nI (n - p) ≤ nI 19 := g
      have g2 : n - p ≤ 19 := (nI_leI (by omega) (by decide)).mp g
      have i1 : (nI a + x4).toNatClampNeg = a + p := by rw [e4, nI_add]; exact nI_clamp (by omega)
      have c1 : ¬ ((wd (σ.2.2.1 h) (a + p) (n - p)).length < 1 ∨ 19 < (wd (σ.2.2.1 h) (a + p) (n - p)).length) := by rw [hlen]; omega
      have ehd : (wd (σ.2.2.1 h) (a + p) (n - p)).head? = some (σ.2.2.1 h (a + p)) := by rw [show n - p = (n - p - 1) + 1 by omega, wd_s]; rfl
      have go : ¬ ((wd (σ.2.2.1 h) (a + p) (n - p)).head? = some 48 ∧ (1 < (wd (σ.2.2.1 h) (a + p) (n - p)).length ∨ less = true)) → ∀ l7 l8 l9 l10 : Option Value, mjY mjPP (mjQQ Y) d 53 43 [some (.ref 0), some (.ref h), some (.int (nI a)), some (.int (nI n)), some (.int x4), some (.int (if less = true then 1 else 0)), some (.int (nI (n - p))), l7, l8, l9, l10] [] σ (iaK σ (iaB less (wd (σ.2.2.1 h) (a + p) (n - p)))) := by
        intro c2 l7 l8 l9 l10
        unfold iaB
        rw [if_neg c1, if_neg c2]
        refine mjZ_y rfl rfl 4 _ _ _ _ ty ?_
        refine And.intro (Nat.le_of_ble_eq_true rfl) (And.intro (Nat.le_of_ble_eq_true rfl) ?_)
        exact ia_loop σ ty h a n hh ha hlh x4 _ less (n - p) p 0 x4 _ e4 (by omega)
      have no : ((wd (σ.2.2.1 h) (a + p) (n - p)).head? = some 48 ∧ (1 < (wd (σ.2.2.1 h) (a + p) (n - p)).length ∨ less = true)) → iaB less (wd (σ.2.2.1 h) (a + p) (n - p)) = none := by
        intro c2; unfold iaB; rw [if_neg c1, if_pos c2]
      refine mjZ_re rfl rfl 7 ty ?_
      refine And.intro (Or.inl hh) (And.intro (by rw [e4, nI_add]; exact vp_in_nI (by omega) (by omega)) (And.intro (fun z => ?_) (fun z => ?_)))
      · have z : ¬ σ.2.2.1 h (nI a + x4).toNatClampNeg = 48 := z
        rw [i1] at z
        exact go (fun y => z (by rw [ehd] at y; exact Option.some.inj y.1)) _ _ _ _
      · have z : σ.2.2.1 h (nI a + x4).toNatClampNeg = 48 := Decidable.of_not_not z
        rw [i1] at z
        have e48 : (wd (σ.2.2.1 h) (a + p) (n - p)).head? = some 48 := by rw [ehd, z]
        refine mjZ_re rfl rfl 3 ty ?_
        refine And.intro (fun y => ?_) (fun y => ?_)
        · have y : nI 1 < nI (n - p) := y
          have y2 : 1 < n - p := (nI_ltI (by decide) (by omega)).mp y
          rw [no ⟨e48, Or.inl (by rw [hlen]; exact y2)⟩]; exact bad2 _ _ _ _ _
        · have y2 : ¬ 1 < n - p := fun t => y (show nI 1 < nI (n - p) from nI_lt t (by omega))
          refine mjZ_re rfl rfl 2 ty ?_
          cases less with
          | true =>
            refine And.intro (fun t => absurd (show (1 : Int32) = 0 from t) (by decide)) (fun _ => ?_)
            rw [no ⟨e48, Or.inr rfl⟩]; exact bad2 _ _ _ _ _
          | false =>
            refine And.intro (fun _ => go (fun t => t.2.elim (fun s => y2 (by rw [hlen] at s; exact s)) (fun s => by cases s)) _ _ _ _) (fun t => absurd (show (0 : Int32) = 0 from rfl) t)
    · have g2 : 19 < n - p := Nat.lt_of_not_le (fun z => g (show nI (n - p) ≤ nI 19 from nI_le z (by decide)))
      have eB : iaB less (wd (σ.2.2.1 h) (a + p) (n - p)) = none := by unfold iaB; rw [hlen, if_pos (Or.inr g2)]
      rw [eB]; exact bad _ _ _ _ _
set_option maxRecDepth 100000 in
theorem c_integerAt {σ : mjS} (ty : mjTY σ) (h a n : Nat) (hh : mjKd h = 1) (ha : a + n ≤ mjLn h) (hlh : mjLn h < 2 ^ 30) : mjY mjPP (mjQQ Y) d 53 0 (mjL0 11 [.ref 0, .ref h, .int (nI a), .int (nI n)]) [] σ (iaK σ (intF (wd (σ.2.2.1 h) a n))) := by
  have z0 : intF (wd (σ.2.2.1 h) a n) = iaB false (wd (σ.2.2.1 h) a n) → mjY mjPP (mjQQ Y) d 53 11 [some (.ref 0), some (.ref h), some (.int (nI a)), some (.int (nI n)), some (.int 0), none, none, none, none, none, none] [] σ (iaK σ (intF (wd (σ.2.2.1 h) a n))) := by
    intro e
    rw [e]
    refine mjZ_y rfl rfl 4 _ _ _ _ ty ?_
    refine And.intro (Nat.le_of_ble_eq_true rfl) (And.intro (fun _ => ?_) (fun t => absurd (show (0 : Int32) = 0 from rfl) t))
    exact ia_17 σ ty h a n 0 hh ha hlh (Nat.zero_le _) false 0 rfl _ _ _ _ _
  refine mjZ_y rfl rfl 4 _ _ _ _ ty ?_
  refine And.intro (Nat.le_of_ble_eq_true rfl) (And.intro (fun q => ?_) (fun q => ?_))
  · have q : nI n ≤ nI 0 := q
    have q2 : n = 0 := by have := (nI_leI (by omega) (by decide)).mp q; omega
    refine z0 ?_
    rw [q2, wd_0]; rfl
  · have q2 : 0 < n := Nat.lt_of_not_le (fun z => q (show nI n ≤ nI 0 from nI_le z (by decide)))
    have ew : wd (σ.2.2.1 h) a n = σ.2.2.1 h a :: wd (σ.2.2.1 h) (a + 1) (n - 1) := by
      conv => lhs; rw [show n = (n - 1) + 1 by omega]
      rw [wd_s]
    have i1 : (nI a).toNatClampNeg = a := nI_clamp (by omega)
    refine mjZ_re rfl rfl 5 ty ?_
    refine And.intro (Or.inl hh) (And.intro (vp_in_nI (by omega) (by omega)) (And.intro (fun z => ?_) (fun z => ?_)))
    · have z : ¬ σ.2.2.1 h (nI a).toNatClampNeg = 45 := z
      rw [i1] at z
      refine z0 ?_
      rw [ew]; exact if_neg z
    · have z : σ.2.2.1 h (nI a).toNatClampNeg = 45 := Decidable.of_not_not z
      rw [i1] at z
      have e : intF (wd (σ.2.2.1 h) a n) = iaB true (wd (σ.2.2.1 h) (a + 1) (n - 1)) := by rw [ew]; exact if_pos z
      rw [e]
      refine mjZ_re rfl rfl 7 ty ?_
      refine And.intro (Nat.le_of_ble_eq_true rfl) (And.intro (fun t => absurd (show (1 : Int32) = 0 from t) (by decide)) (fun _ => ?_))
      refine mjZ_re rfl rfl 2 ty ?_
      refine And.intro (Nat.le_of_ble_eq_true rfl) ?_
      exact ia_17 σ ty h a n 1 hh ha hlh (by omega) true _ rfl _ _ _ _ _
set_option maxRecDepth 100000 in
theorem c_integer {σ : mjS} (ty : mjTY σ) {ws : List (List Int32)} (har : AR σ ws) (i : Nat) (w : List Int32) (hw : ws[i]? = some w) : mjY mjPP (mjQQ Y) (d + 1) 54 0 (mjL0 2 [.ref 0, .int (nI i)]) [] σ (iaK σ (intF w)) := by
  obtain ⟨e0, h0, hall⟩ := har
  obtain ⟨a, e1, e2, h1, h2⟩ := hall i w hw
  have hi : i < ws.length := (List.getElem?_eq_some_iff.mp hw).1
  have vi : vp_in (nI i) 1100 := vp_in_nI (by omega) (by decide)
  refine mjZ_y rfl rfl 13 _ _ _ _ ty ?_
  refine And.intro rfl (And.intro rfl (And.intro rfl (And.intro vi (And.intro rfl (And.intro rfl (And.intro vi ?_))))))
  have hc := c_integerAt (Y := Y) (d := d) ty r_req a w.length rfl h1 (by decide)
  rw [h2, ← e1, ← e2, ← nI_clamp (n := i) (by omega)] at hc
  refine And.intro (Nat.le_of_ble_eq_true rfl) (And.intro rfl (And.intro (Nat.le_of_ble_eq_true rfl) (And.intro (Nat.le_of_ble_eq_true rfl) (mjY_mono ty (fun r u1 ty1 h1 => ?_) hc))))
  intro _
  generalize intF w = o at h1 ⊢
  cases o with
  | none => obtain ⟨rfl, rfl⟩ := h1; exact And.intro rfl (And.intro (Or.inr ⟨rfl, Or.inl rfl⟩) (And.intro rfl rfl))
  | some z => obtain ⟨rfl, f1, g1⟩ := h1; exact And.intro rfl (And.intro (Or.inr ⟨rfl, Or.inr rfl⟩) (And.intro rfl (And.intro f1 g1)))
end INT
