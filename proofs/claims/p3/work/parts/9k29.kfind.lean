/-! Words: how two words compare; where a word stands in a rising row. -/
section KFIND
variable {Y : Nat → MethodName × ByteArray} {d : Nat} {σ : kS}
theorem ushr1 {n : Nat} (h : n < 2 ^ 31) : ((nI n).toUInt32 >>> ((Int32.ofInt 1).toUInt32 &&& Int32.toUInt32 31)).toInt32 = nI (n / 2) := by
  have e : ((Int32.ofInt 1).toUInt32 &&& Int32.toUInt32 31) = 1 := by decide
  have e1 : (nI n).toUInt32.toNat = n := by
    show (BitVec.ofNat 32 n).toNat = n
    rw [BitVec.toNat_ofNat]; exact Nat.mod_eq_of_lt (by omega)
  rw [e]
  apply Int32.toBitVec_inj.mp
  apply BitVec.eq_of_toNat_eq
  show ((nI n).toUInt32 >>> 1).toNat = (BitVec.ofNat 32 (n / 2)).toNat
  rw [UInt32.toNat_shiftRight, e1, BitVec.toNat_ofNat, Nat.mod_eq_of_lt (show n / 2 < 2 ^ 32 by omega)]
  show n >>> 1 = n / 2
  exact Nat.shiftRight_eq_div_pow n 1
theorem cmpW_pre : ∀ (p a b : List Int32), cmpW (p ++ a) (p ++ b) = cmpW a b := by
  intro p
  induction p with
  | nil => intro a b; rfl
  | cons x p ih =>
    intro a b
    show (if x = x then cmpW (p ++ a) (p ++ b) else _) = _
    rw [if_pos rfl, ih]
theorem WRD.b8 (ty : kTY σ) {nm : List (List Int32)} (hw : WRD σ nm) {i : Nat} {w : List Int32} (hi : nm[i]? = some w) : ∀ x ∈ w, x.toInt8.toInt32 = x := by
  obtain ⟨rb, NB, rs, NS, rc, ⟨b1, b2, b3, b3'⟩, ⟨s1, s2, s3, s4, s5, s5'⟩, a1, a2, a3, a4, a5, a6, a7, a8⟩ := hw
  intro x hx
  rw [← a5 i w hi] at hx
  unfold wd at hx
  obtain ⟨k, -, rfl⟩ := List.mem_map.mp hx
  exact ty.2.1 rb _ (by rw [b2])
theorem k_compare_l (ty : kTY σ) {rb NB s1 s2 n m : Nat} (eb : σ.2.2.1 48 0 = some rb) (kb : σ.2.2.2.1 rb = (21, NB)) (hNB : NB ≤ 470000) (h1 : s1 + n ≤ NB) (h2 : s2 + m ≤ NB) (x1 x2 x3 x4 x5 x6 x7 : Int32) (e3 : x3 = nI s1) (e4 : x4 = nI s2) (e5 : x5 = nI n) (e6 : x6 = nI m) (e7 : x7 = nI (min n m)) :
    ∀ (f k : Nat) (x8 : Int32) (o9 : Option Value), k + f = min n m → x8 = nI k → wd (σ.1 rb) s1 k = wd (σ.1 rb) s2 k →
    kjY kPP (kQQ Y) d 81 51 [some (.ref 48), some (.int x1), some (.int x2), some (.int x3), some (.int x4), some (.int x5), some (.int x6), some (.int x7), some (.int x8), o9] [] σ (fun r u => u = σ ∧ ∃ y : Int32, r = some (.int y) ∧ y.toInt = cmpW (wd (σ.1 rb) s1 n) (wd (σ.1 rb) s2 m)) := by
  intro f
  induction f with
  | zero =>
    intro k x8 o9 hk e8 hp
    refine kjZ_y rfl rfl 3 _ _ _ _ ty ?_
    refine And.intro (fun c => ?_) (fun c => ?_)
    · refine kjZ_y rfl rfl 4 _ _ _ _ ty ?_
      refine And.intro rfl (And.intro (Or.inl rfl) ?_)
      refine ⟨rfl, _, rfl, ?_⟩
      rw [e5, e6, nI_sub_toInt (by omega) (by omega)]
      have w1 : wd (σ.1 rb) s1 n = wd (σ.1 rb) s1 k ++ wd (σ.1 rb) (s1 + k) (n - k) := by rw [← wd_app]; congr 1; omega
      have w2 : wd (σ.1 rb) s2 m = wd (σ.1 rb) s2 k ++ wd (σ.1 rb) (s2 + k) (m - k) := by rw [← wd_app]; congr 1; omega
      rw [w1, w2, ← hp, cmpW_pre]
      by_cases q : n ≤ m
      · rw [show n - k = 0 by omega, wd_0]
        show _ = -((wd _ _ _).length : Int)
        rw [wd_len]; omega
      · rw [show m - k = 0 by omega, wd_0, show n - k = (n - k - 1) + 1 by omega, wd_s]
        show _ = ((_ :: wd _ _ _).length : Int)
        rw [List.length_cons, wd_len]; omega
    · refine absurd (show x7 ≤ x8 from ?_) c
      rw [e7, e8]; exact nI_le (by omega) (by omega)
  | succ f ih =>
    intro k x8 o9 hk e8 hp
    have v1 : vp_in (x3 + x8) NB := by rw [e3, e8, nI_add]; exact vp_in_nI (by omega) (by omega)
    have v2 : vp_in (x4 + x8) NB := by rw [e4, e8, nI_add]; exact vp_in_nI (by omega) (by omega)
    have c1 : (x3 + x8).toNatClampNeg = s1 + k := by rw [e3, e8, nI_add]; exact nI_clamp (by omega)
    have c2 : (x4 + x8).toNatClampNeg = s2 + k := by rw [e4, e8, nI_add]; exact nI_clamp (by omega)
    refine kjZ_y rfl rfl 3 _ _ _ _ ty ?_
    refine And.intro (fun c => ?_) (fun c => ?_)
    · refine absurd (show x7 ≤ x8 from c) ?_
      rw [e7, e8]; exact nI_ge (by omega) (by omega)
    have y1 := ty.2.1 rb (s1 + k) (by rw [kb])
    have y2 := ty.2.1 rb (s2 + k) (by rw [kb])
    refine kjZ_y rfl rfl 20 _ _ _ _ ty ?_
    refine (And.intro (ty.k (by decide) rfl) (Exists.intro _ (And.intro eb (Or.inl (And.intro (kdk kb) (And.intro (kdv kb v1) (And.intro (ty.k (by decide) rfl) (Exists.intro _ (And.intro eb (Or.inl (And.intro (kdk kb) (And.intro (kdv kb v2) (And.intro (Nat.le_of_ble_eq_true rfl) (And.intro (fun c3 => ?_) (fun c3 => ?_)))))))))))))))
    · have c3 : (σ.1 rb (x3 + x8).toNatClampNeg &&& (Int16.ofInt 255).toInt32) - (σ.1 rb (x4 + x8).toNatClampNeg &&& (Int16.ofInt 255).toInt32) = 0 := c3
      rw [c1, c2] at c3
      have c4 := congrArg Int32.toInt c3
      have c4 : ((σ.1 rb (s1 + k) &&& 255) - (σ.1 rb (s2 + k) &&& 255)).toInt = 0 := c4
      rw [u8_sub] at c4
      have c5 := u8_inj y1 y2 (by omega)
      refine kjZ_y rfl rfl 2 _ _ _ _ ty ?_
      exact ih (k + 1) _ _ (by omega) (by rw [e8]; exact nI_1 k) (by rw [wd_snoc, wd_snoc, hp, c5])
    · have c3 : ¬ (σ.1 rb (x3 + x8).toNatClampNeg &&& (Int16.ofInt 255).toInt32) - (σ.1 rb (x4 + x8).toNatClampNeg &&& (Int16.ofInt 255).toInt32) = 0 := c3
      refine kjZ_y rfl rfl 2 _ _ _ _ ty ?_
      refine And.intro rfl (And.intro (Or.inl rfl) ?_)
      refine ⟨rfl, _, rfl, ?_⟩
      show ((σ.1 rb (x3 + x8).toNatClampNeg &&& (Int16.ofInt 255).toInt32) - (σ.1 rb (x4 + x8).toNatClampNeg &&& (Int16.ofInt 255).toInt32)).toInt = _
      rw [c1, c2] at c3 ⊢
      have w1 : wd (σ.1 rb) s1 n = wd (σ.1 rb) s1 k ++ σ.1 rb (s1 + k) :: wd (σ.1 rb) (s1 + k + 1) (n - k - 1) := by rw [← wd_s, ← wd_app]; congr 1; omega
      have w2 : wd (σ.1 rb) s2 m = wd (σ.1 rb) s2 k ++ σ.1 rb (s2 + k) :: wd (σ.1 rb) (s2 + k + 1) (m - k - 1) := by rw [← wd_s, ← wd_app]; congr 1; omega
      rw [w1, w2, ← hp, cmpW_pre]
      have e := u8_sub (σ.1 rb (s1 + k)) (σ.1 rb (s2 + k))
      refine Eq.trans e ?_
      show _ = if _ then _ else _
      rw [if_neg]
      intro z
      refine c3 ?_
      rw [z]; exact Int32.sub_self _
/-- two words: what is said of any two numbers -/
theorem k_compare (ty : kTY σ) {nm : List (List Int32)} (hw : WRD σ nm) (x1 x2 : Int32) :
    kjY kPP (kQQ Y) (d + 1) 81 0 (mjL0 10 [.ref 48, .int x1, .int x2]) [] σ (fun r u => u = σ ∧ ∃ y : Int32, r = some (.int y) ∧ ∀ i j w v, x1 = nI i → x2 = nI j → nm[i]? = some w → nm[j]? = some v → y.toInt = cmpW w v) := by
  obtain ⟨rb, NB, rs, NS, rc, ⟨b1, b2, b3, b3'⟩, ⟨s1, s2, s3, s4, s5, s5'⟩, a1, a2, a3, a4, a5, a6, a7, a8⟩ := hw
  have hno : (∀ i j w v, x1 = nI i → x2 = nI j → nm[i]? = some w → nm[j]? = some v → i = j) → kjY kPP (kQQ Y) (d + 1) 81 15 [some (.ref 48), some (.int x1), some (.int x2), none, none, none, none, none, none, none] [] σ (fun r u => u = σ ∧ ∃ y : Int32, r = some (.int y) ∧ ∀ i j w v, x1 = nI i → x2 = nI j → nm[i]? = some w → nm[j]? = some v → y.toInt = cmpW w v) := by
    intro q
    refine kjZ_y rfl rfl 2 _ _ _ _ ty ?_
    refine And.intro rfl (And.intro (Or.inl rfl) ?_)
    refine ⟨rfl, _, rfl, fun i j w v h1 h2 h3 h4 => ?_⟩
    have e := q i j w v h1 h2 h3 h4
    rw [e, h4] at h3; cases h3
    rw [cmpW_self]; rfl
  have lt : ∀ {i : Nat} {w : List Int32}, nm[i]? = some w → i < nm.length := fun h => (List.getElem?_eq_some_iff.mp h).1
  refine kjZ_y rfl rfl 3 _ _ _ _ ty ?_
  refine And.intro (fun c => ?_) (fun c => ?_)
  · refine hno (fun i j w v h1 h2 h3 h4 => ?_)
    have c : x1 = x2 := c
    rw [h1, h2] at c
    have := lt h3; have := lt h4
    exact (nI_eq (by omega) (by omega)).mp c
  refine kjZ_y rfl rfl 2 _ _ _ _ ty ?_
  refine And.intro (fun c1 => ?_) (fun c1 => ?_)
  · refine hno (fun i j w v h1 h2 h3 h4 => ?_)
    have := lt h3
    exact absurd (show x1 < 0 from c1) (by rw [h1]; exact nI_n0 (by omega))
  refine kjZ_y rfl rfl 2 _ _ _ _ ty ?_
  refine And.intro (fun c2 => ?_) (fun c2 => ?_)
  · refine hno (fun i j w v h1 h2 h3 h4 => ?_)
    have := lt h4
    exact absurd (show x2 < 0 from c2) (by rw [h2]; exact nI_n0 (by omega))
  refine kjZ_y rfl rfl 4 _ _ _ _ ty ?_
  refine (And.intro (ty.k (by decide) rfl) (And.intro (fun c3 => ?_) (fun c3 => ?_)))
  · refine hno (fun i j w v h1 h2 h3 h4 => ?_)
    have := lt h3
    exact absurd (show σ.1 48 4 ≤ x1 from c3) (by rw [h1, a2]; exact nI_ge (by omega) (by omega))
  refine kjZ_y rfl rfl 4 _ _ _ _ ty ?_
  refine (And.intro (ty.k (by decide) rfl) (And.intro (fun c4 => ?_) (fun c4 => ?_)))
  rotate_left
  · refine hno (fun i j w v h1 h2 h3 h4 => ?_)
    have := lt h4
    exact absurd (show x2 < σ.1 48 4 from by rw [h2, a2]; exact nI_lt this (by omega)) c4
  have nat : ∀ x : Int32, ¬ x < 0 → x < nI nm.length → x = nI x.toNatClampNeg ∧ x.toNatClampNeg < nm.length := by
    intro x q1 q2
    have c5 := Int32.lt_iff_toInt_lt.mp q2
    rw [nI_toInt (by omega)] at c5
    have c6 : 0 ≤ x.toInt := Int32.le_iff_toInt_le.mp (Int32.not_lt.mp q1)
    have e : (x.toNatClampNeg : Int) = x.toInt := by unfold Int32.toNatClampNeg; exact Int.toNat_of_nonneg c6
    refine ⟨Int32.toInt_inj.mp ?_, by omega⟩
    rw [nI_toInt (by omega)]; exact e.symm
  obtain ⟨p1, p2⟩ := nat x1 c1 (by have z := Int32.not_le.mp (show ¬ σ.1 48 4 ≤ x1 from c3); rw [a2] at z; exact z)
  obtain ⟨p3, p4⟩ := nat x2 c2 (by have z : x2 < σ.1 48 4 := c4; rw [a2] at z; exact z)
  obtain ⟨i, ei⟩ : ∃ i, i = x1.toNatClampNeg := ⟨_, rfl⟩
  obtain ⟨j, ej⟩ : ∃ j, j = x2.toNatClampNeg := ⟨_, rfl⟩
  rw [← ei] at p1 p2
  rw [← ej] at p3 p4
  have w1 : nm[i]? = some nm[i] := List.getElem?_eq_getElem p2
  have w2 : nm[j]? = some nm[j] := List.getElem?_eq_getElem p4
  have q1 := sl_take_s w1
  have q2 := sl_take_s w2
  have q3 := sl_take_le nm (i + 1)
  have q4 := sl_take_le nm (j + 1)
  have v1 : vp_in x1 NS := by rw [p1]; exact vp_in_nI (by omega) (by omega)
  have v2 : vp_in x2 NS := by rw [p3]; exact vp_in_nI (by omega) (by omega)
  have n1 : x1 + Int32.ofInt 1 = nI (i + 1) := by rw [p1]; exact nI_1 i
  have n2 : x2 + Int32.ofInt 1 = nI (j + 1) := by rw [p3]; exact nI_1 j
  have v3 : vp_in (x1 + Int32.ofInt 1) NS := by rw [n1]; exact vp_in_nI (by omega) (by omega)
  have v4 : vp_in (x2 + Int32.ofInt 1) NS := by rw [n2]; exact vp_in_nI (by omega) (by omega)
  have d1 : (x1 + Int32.ofInt 1).toNatClampNeg = i + 1 := by rw [n1]; exact nI_clamp (by omega)
  have d2 : (x2 + Int32.ofInt 1).toNatClampNeg = j + 1 := by rw [n2]; exact nI_clamp (by omega)
  have f1 : σ.1 rs x1.toNatClampNeg = nI (sl (nm.take i)) := by rw [← ei]; exact a3 i (by omega)
  have f2 : σ.1 rs x2.toNatClampNeg = nI (sl (nm.take j)) := by rw [← ej]; exact a3 j (by omega)
  have f3 : σ.1 rs (x1 + Int32.ofInt 1).toNatClampNeg - σ.1 rs x1.toNatClampNeg = nI nm[i].length := by rw [d1, f1, a3 (i + 1) (by omega), q1, pk_sub (by omega)]; congr 1; omega
  have f4 : σ.1 rs (x2 + Int32.ofInt 1).toNatClampNeg - σ.1 rs x2.toNatClampNeg = nI nm[j].length := by rw [d2, f2, a3 (j + 1) (by omega), q2, pk_sub (by omega)]; congr 1; omega
  refine kjZ_y rfl rfl 31 _ _ _ _ ty ?_
  refine (And.intro (ty.k (by decide) rfl) (Exists.intro _ (And.intro s1 (Or.inl (And.intro (kdk s2) (And.intro (kdv s2 v1) (And.intro (Nat.le_of_ble_eq_true rfl) (And.intro (ty.k (by decide) rfl) (Exists.intro _ (And.intro s1 (Or.inl (And.intro (kdk s2) (And.intro (kdv s2 v2) (And.intro (Nat.le_of_ble_eq_true rfl) (And.intro (ty.k (by decide) rfl) (Exists.intro _ (And.intro s1 (Or.inl (And.intro (kdk s2) (And.intro (kdv s2 v3) (And.intro (Nat.le_of_ble_eq_true rfl) (And.intro (ty.k (by decide) rfl) (Exists.intro _ (And.intro s1 (Or.inl (And.intro (kdk s2) (And.intro (kdv s2 v4) (And.intro (Nat.le_of_ble_eq_true rfl) (And.intro (Nat.le_of_ble_eq_true rfl) (And.intro (Nat.le_of_ble_eq_true rfl) (And.intro (Nat.le_of_ble_eq_true rfl) (kjY_mono ty (fun q_ u1 ty1 xu1 h_ => ?_) (k_min ty _ _)))))))))))))))))))))))))))))))))
  obtain ⟨rfl, rfl⟩ := h_
  intro _ _
  refine kjZ_y rfl rfl 3 _ _ _ _ ty1 ?_
  refine (And.intro (Nat.le_of_ble_eq_true rfl) (And.intro (Nat.le_of_ble_eq_true rfl) ?_))
  have g5 := a5 i _ w1
  have g6 := a5 j _ w2
  have e7 : (if u1.1 rs (x2 + Int32.ofInt 1).toNatClampNeg - u1.1 rs x2.toNatClampNeg < u1.1 rs (x1 + Int32.ofInt 1).toNatClampNeg - u1.1 rs x1.toNatClampNeg then u1.1 rs (x2 + Int32.ofInt 1).toNatClampNeg - u1.1 rs x2.toNatClampNeg else u1.1 rs (x1 + Int32.ofInt 1).toNatClampNeg - u1.1 rs x1.toNatClampNeg) = nI (min nm[i].length nm[j].length) := by
    rw [f3, f4]
    by_cases q : nm[j].length < nm[i].length
    · rw [if_pos (nI_lt q (by omega))]; congr 1; omega
    · rw [if_neg (Int32.not_lt.mpr (nI_le (by omega) (by omega)))]; congr 1; omega
  have k := k_compare_l (Y := Y) (d := d + 1) (n := nm[i].length) (m := nm[j].length) ty1 b1 b2 b3 (by omega) (by omega) x1 x2 _ _ _ _ _ f1 f2 f3 f4 e7 (min nm[i].length nm[j].length) 0 _ none (by omega) rfl rfl
  refine kjY_mono ty1 (fun r u _ _ z => ?_) k
  obtain ⟨z1, y, z2, z3⟩ := z
  refine ⟨z1, y, z2, fun i' j' w v h1 h2 h3 h4 => ?_⟩
  have := lt h3; have := lt h4
  have t1 : i' = i := (nI_eq (by omega) (by omega)).mp (h1.symm.trans p1)
  have t2 : j' = j := (nI_eq (by omega) (by omega)).mp (h2.symm.trans p3)
  rw [t1, w1] at h3; rw [t2, w2] at h4
  cases h3; cases h4
  rw [z3, g5, g6]
/-- a row of numbers of words -/
def IDS (f : Nat → Int32) (nm : List (List Int32)) (ns : List (List Int32)) : Prop := ∀ i q, ns[i]? = some q → ∃ k, f i = nI k ∧ nm[k]? = some q
/-- where a word stands among rising ones, or would -/
def fdR (ns : List (List Int32)) (w : List Int32) : Int32 := match ns[plF ns w]? with
  | some q => if cmpW q w = 0 then nI (plF ns w) else -1 - nI (plF ns w)
  | none => -1 - nI (plF ns w)
theorem k_find_l (ty : kTY σ) {nm : List (List Int32)} (hw : WRD σ nm) {h N : Nat} (kh : σ.2.2.2.1 h = (20, N)) {ns : List (List Int32)} (hs : SRN ns) (hid : IDS (σ.1 h) nm ns) (hN : ns.length ≤ N) (hN2 : N < 2 ^ 29) {w : List Int32} {kw : Nat} (hk : nm[kw]? = some w) (x2 x3 : Int32) (e3 : x3 = nI kw) : ∀ (f lo hi : Nat) (x4 x5 : Int32) (o6 o7 : Option Value), x4 = nI lo → x5 = nI hi → hi - lo < f → lo ≤ hi → hi ≤ ns.length → (∀ i, i < lo → cmpW (ns.getD i []) w < 0) → (∀ i, hi ≤ i → i < ns.length → 0 < cmpW (ns.getD i []) w) →
    kjY kPP (kQQ Y) (d + 2) 82 7 [some (.ref 48), some (.ref h), some (.int x2), some (.int x3), some (.int x4), some (.int x5), o6, o7] [] σ (fun r u => u = σ ∧ r = some (.int (fdR ns w))) := by
  intro f
  induction f with
  | zero => intro lo hi x4 x5 o6 o7 _ _ hf; omega
  | succ f ih =>
    intro lo hi x4 x5 o6 o7 e4 e5 hf h1 h2 hl hh
    refine kjZ_y rfl rfl 3 _ _ _ _ ty ?_
    refine And.intro (fun c => ?_) (fun c => ?_)
    · have c : x5 ≤ x4 := c
      rw [e4, e5, nle (by omega) (by omega)] at c
      refine kjZ_y rfl rfl 4 _ _ _ _ ty ?_
      refine And.intro rfl (And.intro (Or.inl rfl) ?_)
      refine ⟨rfl, ?_⟩
      have ep : plF ns w = lo := plF_uniq hs w lo (by omega) hl (fun i a b => by have := hh i (by omega) b; omega)
      unfold fdR
      rw [ep, e4]
      cases q : ns[lo]? with
      | none => rfl
      | some z =>
        have ql := (List.getElem?_eq_some_iff.mp q).1
        have g := hh lo (by omega) ql
        rw [List.getD_eq_getElem?_getD, q] at g
        have g : 0 < cmpW z w := g
        show _ = some (Value.int (if cmpW z w = 0 then _ else _))
        rw [if_neg (by omega)]; rfl
    · have c : ¬ x5 ≤ x4 := c
      rw [e4, e5, nle (by omega) (by omega)] at c
      have em : ((x4 + x5).toUInt32 >>> ((Int32.ofInt 1).toUInt32 &&& Int32.toUInt32 31)).toInt32 = nI ((lo + hi) / 2) := by rw [e4, e5, nI_add]; exact ushr1 (by omega)
      have hml : (lo + hi) / 2 < ns.length := by omega
      have vm : vp_in ((x4 + x5).toUInt32 >>> ((Int32.ofInt 1).toUInt32 &&& Int32.toUInt32 31)).toInt32 N := by rw [em]; exact vp_in_nI (by omega) (by omega)
      have cm : ((x4 + x5).toUInt32 >>> ((Int32.ofInt 1).toUInt32 &&& Int32.toUInt32 31)).toInt32.toNatClampNeg = (lo + hi) / 2 := by rw [em]; exact nI_clamp (by omega)
      obtain ⟨km, g1, g2⟩ := hid _ _ (List.getElem?_eq_getElem hml)
      refine kjZ_y rfl rfl 12 _ _ _ _ ty ?_
      refine (And.intro (Nat.le_of_ble_eq_true rfl) (Or.inl (And.intro (kdk kh) (And.intro (kdv kh vm) (And.intro (Nat.le_of_ble_eq_true rfl) (And.intro (Or.inl ⟨(Nat.le_of_ble_eq_true rfl), (ty.k (by decide) rfl)⟩) (And.intro (Nat.le_of_ble_eq_true rfl) (And.intro (Nat.le_of_ble_eq_true rfl) (kjY_mono ty (fun q_ u1 ty1 xu1 h_ => ?_) (k_compare ty hw _ _))))))))))
      obtain ⟨rfl, y, rfl, q1⟩ := h_
      intro _ _
      have q2 := q1 km kw _ _ (by rw [cm]; exact g1) e3 g2 hk
      have gd : ns.getD ((lo + hi) / 2) [] = ns[(lo + hi) / 2] := by rw [List.getD_eq_getElem?_getD, List.getElem?_eq_getElem hml]; rfl
      refine kjZ_y rfl rfl 3 _ _ _ _ ty1 ?_
      refine (And.intro (Nat.le_of_ble_eq_true rfl) (And.intro (fun c2 => ?_) (fun c2 => ?_)))
      · have c2 : ¬ y = 0 := c2
        refine kjZ_y rfl rfl 2 _ _ _ _ ty1 ?_
        refine And.intro (fun c3 => ?_) (fun c3 => ?_)
        · have c3 : (0 : Int32) ≤ y := c3
          have c4 := Int32.le_iff_toInt_le.mp c3
          have c4 : 0 ≤ y.toInt := c4
          have c5 : ¬ y.toInt = 0 := fun z => c2 (Int32.toInt_inj.mp z)
          refine kjZ_y rfl rfl 3 _ _ _ _ ty1 ?_
          refine (And.intro (Nat.le_of_ble_eq_true rfl) ?_)
          refine ih lo ((lo + hi) / 2) _ _ _ _ e4 em (by omega) (by omega) (by omega) hl (fun i a b => ?_)
          by_cases z : i = (lo + hi) / 2
          · rw [z, gd, ← q2]; omega
          · have s1 := hs ((lo + hi) / 2) i (by omega) b
            rw [gd] at s1
            rw [cmpW_anti]
            have s2 : cmpW w ns[(lo + hi) / 2] < 0 := by rw [cmpW_anti, ← q2]; omega
            have := cmpW_trans _ _ _ s2 s1
            omega
        · have c3 : ¬ (0 : Int32) ≤ y := c3
          have c4 : ¬ (0 : Int) ≤ y.toInt := fun z => c3 (Int32.le_iff_toInt_le.mpr z)
          refine kjZ_y rfl rfl 6 _ _ _ _ ty1 ?_
          refine (And.intro (Nat.le_of_ble_eq_true rfl) ?_)
          refine ih ((lo + hi) / 2 + 1) hi _ _ _ _ (by rw [em]; exact nI_1 _) e5 (by omega) (by omega) h2 (fun i a => ?_) hh
          by_cases z : i = (lo + hi) / 2
          · rw [z, gd, ← q2]; omega
          · have s1 := hs i ((lo + hi) / 2) (by omega) hml
            rw [gd] at s1
            exact cmpW_trans _ _ _ s1 (by rw [← q2]; omega)
      · have c2 : y = 0 := Decidable.not_not.mp c2
        refine kjZ_y rfl rfl 2 _ _ _ _ ty1 ?_
        refine And.intro rfl (And.intro (Or.inl rfl) ?_)
        refine ⟨rfl, ?_⟩
        have q3 : cmpW ns[(lo + hi) / 2] w = 0 := by rw [← q2, c2]; rfl
        have eqw : ns[(lo + hi) / 2] = w := cmpW_eq _ _ (hw.b8 ty1 g2) (hw.b8 ty1 hk) q3
        have ep : plF ns w = (lo + hi) / 2 := plF_uniq hs w _ (by omega) (fun i a => by
          have s1 := hs i ((lo + hi) / 2) a hml
          rw [gd, eqw] at s1; exact s1) (fun i a b => by
          by_cases z : i = (lo + hi) / 2
          · rw [z, gd, q3]; decide
          · have s1 := hs ((lo + hi) / 2) i (by omega) b
            rw [gd, eqw] at s1
            rw [cmpW_anti]; omega)
        unfold fdR
        rw [ep, List.getElem?_eq_getElem hml]
        show _ = some (Value.int (if cmpW ns[(lo + hi) / 2] w = 0 then _ else _))
        rw [if_pos q3, em]
theorem k_find (ty : kTY σ) {nm : List (List Int32)} (hw : WRD σ nm) {h N : Nat} (kh : σ.2.2.2.1 h = (20, N)) {ns : List (List Int32)} (hs : SRN ns) (hid : IDS (σ.1 h) nm ns) (hN : ns.length ≤ N) (hN2 : N < 2 ^ 29) {w : List Int32} {kw : Nat} (hk : nm[kw]? = some w) (x2 x3 : Int32) (e2 : x2 = nI ns.length) (e3 : x3 = nI kw) :
    kjY kPP (kQQ Y) (d + 2) 82 0 (mjL0 8 [.ref 48, .ref h, .int x2, .int x3]) [] σ (fun r u => u = σ ∧ r = some (.int (fdR ns w))) := by
  refine kjZ_y rfl rfl 6 _ _ _ _ ty ?_
  refine (And.intro (Nat.le_of_ble_eq_true rfl) (Or.inl (And.intro (kdq kh) (And.intro (Nat.le_of_ble_eq_true rfl) (And.intro (Nat.le_of_ble_eq_true rfl) (And.intro (Nat.le_of_ble_eq_true rfl) (kjY_mono ty (fun q_ u1 ty1 xu1 h_ => ?_) (k_min ty _ _))))))))
  obtain ⟨rfl, rfl⟩ := h_
  intro _ _
  have e5 : (if nI (u1.2.2.2.1 h).2 < x2 then nI (u1.2.2.2.1 h).2 else x2) = nI ns.length := by
    rw [kh, e2, if_neg (Int32.not_lt.mpr (nI_le hN (by omega)))]
  refine kjZ_y rfl rfl 1 _ _ _ _ ty1 ?_
  refine (And.intro (Nat.le_of_ble_eq_true rfl) ?_)
  exact k_find_l ty1 hw kh hs hid hN hN2 hk x2 x3 e3 (ns.length + 1) 0 ns.length _ _ none none rfl e5 (by omega) (Nat.zero_le _) (Nat.le_refl _) (fun i z => absurd z (Nat.not_lt_zero i)) (fun i a b => by omega)
/-- of any row: a place, or -1 less one -/
def fdS (s : Nat) : kS → kK := fun σ r u => u = σ ∧ ∃ y, r = some (.int y) ∧ ((∃ m, m < s ∧ y = nI m) ∨ ∃ m, m ≤ s ∧ y = -1 - nI m)
theorem k_findS_l (ty : kTY σ) {nm : List (List Int32)} (hw : WRD σ nm) {h N s : Nat} (kh : σ.2.2.2.1 h = (20, N)) (hN : s ≤ N) (hN2 : N < 2 ^ 29) (x2 x3 : Int32) : ∀ (f lo hi : Nat) (x4 x5 : Int32) (o6 o7 : Option Value), x4 = nI lo → x5 = nI hi → hi - lo < f → lo ≤ hi → hi ≤ s →
    kjY kPP (kQQ Y) (d + 2) 82 7 [some (.ref 48), some (.ref h), some (.int x2), some (.int x3), some (.int x4), some (.int x5), o6, o7] [] σ (fdS s σ) := by
  intro f
  induction f with
  | zero => intro lo hi x4 x5 o6 o7 _ _ hf; omega
  | succ f ih =>
    intro lo hi x4 x5 o6 o7 e4 e5 hf h1 h2
    refine kjZ_y rfl rfl 3 _ _ _ _ ty ?_
    refine And.intro (fun c => ?_) (fun c => ?_)
    · refine kjZ_y rfl rfl 4 _ _ _ _ ty ?_
      refine And.intro rfl (And.intro (Or.inl rfl) ?_)
      exact ⟨rfl, _, rfl, Or.inr ⟨lo, by omega, by rw [e4]; rfl⟩⟩
    · have c : ¬ x5 ≤ x4 := c
      rw [e4, e5, nle (by omega) (by omega)] at c
      have em : ((x4 + x5).toUInt32 >>> ((Int32.ofInt 1).toUInt32 &&& Int32.toUInt32 31)).toInt32 = nI ((lo + hi) / 2) := by rw [e4, e5, nI_add]; exact ushr1 (by omega)
      have vm : vp_in ((x4 + x5).toUInt32 >>> ((Int32.ofInt 1).toUInt32 &&& Int32.toUInt32 31)).toInt32 N := by rw [em]; exact vp_in_nI (by omega) (by omega)
      refine kjZ_y rfl rfl 12 _ _ _ _ ty ?_
      refine (And.intro (Nat.le_of_ble_eq_true rfl) (Or.inl (And.intro (kdk kh) (And.intro (kdv kh vm) (And.intro (Nat.le_of_ble_eq_true rfl) (And.intro (Or.inl ⟨(Nat.le_of_ble_eq_true rfl), (ty.k (by decide) rfl)⟩) (And.intro (Nat.le_of_ble_eq_true rfl) (And.intro (Nat.le_of_ble_eq_true rfl) (kjY_mono ty (fun q_ u1 ty1 xu1 h_ => ?_) (k_compare ty hw _ _))))))))))
      obtain ⟨rfl, y, rfl, q1⟩ := h_
      intro _ _
      refine kjZ_y rfl rfl 3 _ _ _ _ ty1 ?_
      refine (And.intro (Nat.le_of_ble_eq_true rfl) (And.intro (fun c2 => ?_) (fun c2 => ?_)))
      · refine kjZ_y rfl rfl 2 _ _ _ _ ty1 ?_
        refine And.intro (fun c3 => ?_) (fun c3 => ?_)
        · refine kjZ_y rfl rfl 3 _ _ _ _ ty1 ?_
          refine (And.intro (Nat.le_of_ble_eq_true rfl) ?_)
          exact ih lo ((lo + hi) / 2) _ _ _ _ e4 em (by omega) (by omega) (by omega)
        · refine kjZ_y rfl rfl 6 _ _ _ _ ty1 ?_
          refine (And.intro (Nat.le_of_ble_eq_true rfl) ?_)
          exact ih ((lo + hi) / 2 + 1) hi _ _ _ _ (by rw [em]; exact nI_1 _) e5 (by omega) (by omega) h2
      · refine kjZ_y rfl rfl 2 _ _ _ _ ty1 ?_
        refine And.intro rfl (And.intro (Or.inl rfl) ?_)
        exact ⟨rfl, _, rfl, Or.inl ⟨(lo + hi) / 2, by omega, em⟩⟩
theorem k_findS (ty : kTY σ) {nm : List (List Int32)} (hw : WRD σ nm) {h N s : Nat} (kh : σ.2.2.2.1 h = (20, N)) (hN : s ≤ N) (hN2 : N < 2 ^ 29) (x2 x3 : Int32) (e2 : x2 = nI s) :
    kjY kPP (kQQ Y) (d + 2) 82 0 (mjL0 8 [.ref 48, .ref h, .int x2, .int x3]) [] σ (fdS s σ) := by
  refine kjZ_y rfl rfl 6 _ _ _ _ ty ?_
  refine (And.intro (Nat.le_of_ble_eq_true rfl) (Or.inl (And.intro (kdq kh) (And.intro (Nat.le_of_ble_eq_true rfl) (And.intro (Nat.le_of_ble_eq_true rfl) (And.intro (Nat.le_of_ble_eq_true rfl) (kjY_mono ty (fun q_ u1 ty1 xu1 h_ => ?_) (k_min ty _ _))))))))
  obtain ⟨rfl, rfl⟩ := h_
  intro _ _
  have e5 : (if nI (u1.2.2.2.1 h).2 < x2 then nI (u1.2.2.2.1 h).2 else x2) = nI s := by
    rw [kh, e2, if_neg (Int32.not_lt.mpr (nI_le hN (by omega)))]
  refine kjZ_y rfl rfl 1 _ _ _ _ ty1 ?_
  refine (And.intro (Nat.le_of_ble_eq_true rfl) ?_)
  exact k_findS_l ty1 hw kh hN hN2 x2 x3 (s + 1) 0 s _ _ none none rfl e5 (by omega) (Nat.zero_le _) (Nat.le_refl _)
end KFIND
