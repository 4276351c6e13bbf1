/-! Words: all words, each once, and how they are found. -/
def mixF (w : List Int32) : Int32 := w.foldl (fun m x => 31 * m + x) (nI w.length)
def hB (w : List Int32) : Int32 := (mixF w ^^^ ((mixF w).toUInt32 >>> ((Int8.ofInt 15).toInt32.toUInt32 &&& Int32.toUInt32 31)).toInt32) &&& (Int16.ofInt 1023).toInt32
theorem hB_lt (w : List Int32) : vp_in (hB w) 1024 := pk_andIn _ 10 (by decide) (by decide)
/-- the last word ahead of a place that has this head -/
def lastB (nm : List (List Int32)) (b : Nat) : Nat → Int32
  | 0 => -1
  | k + 1 => if (hB (nm.getD k [])).toNatClampNeg = b then nI k else lastB nm b k
def WRD (σ : kS) (nm : List (List Int32)) : Prop := ∃ rb NB rs NS rc, (σ.2.2.1 48 0 = some rb ∧ σ.2.2.2.1 rb = (21, NB) ∧ NB ≤ 470000 ∧ 64 ≤ NB) ∧ (σ.2.2.1 48 1 = some rs ∧ σ.2.2.2.1 rs = (20, NS) ∧ σ.2.2.1 48 2 = some rc ∧ σ.2.2.2.1 rc = (20, NS) ∧ NS ≤ 72000 ∧ 64 ≤ NS) ∧ nm.length + 1 ≤ NS ∧ σ.1 48 4 = nI nm.length ∧
  (∀ i, i ≤ nm.length → σ.1 rs i = nI (sl (nm.take i))) ∧ sl nm ≤ NB ∧ (∀ i w, nm[i]? = some w → wd (σ.1 rb) (sl (nm.take i)) w.length = w) ∧ nm.Nodup ∧ (∀ b, b < 1024 → σ.1 52 b = lastB nm b nm.length + 1) ∧ (∀ i, i < nm.length → σ.1 rc i = lastB nm (hB (nm.getD i [])).toNatClampNeg i)
theorem lastB_x (nm : List (List Int32)) (b : Nat) : ∀ k, (lastB nm b k = -1 ∧ ∀ j, j < k → ¬ (hB (nm.getD j [])).toNatClampNeg = b) ∨ ∃ j, j < k ∧ lastB nm b k = nI j ∧ (hB (nm.getD j [])).toNatClampNeg = b ∧ ∀ i, j < i → i < k → ¬ (hB (nm.getD i [])).toNatClampNeg = b := by
  intro k
  induction k with
  | zero => exact Or.inl ⟨rfl, fun j h => absurd h (Nat.not_lt_zero _)⟩
  | succ k ih =>
    have e : lastB nm b (k + 1) = if (hB (nm.getD k [])).toNatClampNeg = b then nI k else lastB nm b k := rfl
    by_cases c : (hB (nm.getD k [])).toNatClampNeg = b
    · rw [e, if_pos c]
      exact Or.inr ⟨k, Nat.lt_succ_self _, rfl, c, fun i h1 h2 => by omega⟩
    · rw [e, if_neg c]
      rcases ih with ⟨h1, h2⟩ | ⟨j, h1, h2, h3, h4⟩
      · refine Or.inl ⟨h1, fun j hj => ?_⟩
        by_cases q : j = k
        · rw [q]; exact c
        · exact h2 j (by omega)
      · refine Or.inr ⟨j, by omega, h2, h3, fun i g1 g2 => ?_⟩
        by_cases q : i = k
        · rw [q]; exact c
        · exact h4 i g1 (by omega)
theorem sl_take_s {nm : List (List Int32)} {i : Nat} {w : List Int32} (h : nm[i]? = some w) : sl (nm.take (i + 1)) = sl (nm.take i) + w.length := by
  rw [List.take_succ, h]
  show sl (nm.take i ++ [w]) = _
  rw [sl_app]; rfl
theorem sl_take_le (nm : List (List Int32)) (i : Nat) : sl (nm.take i) ≤ sl nm := by
  have e := List.take_append_drop i nm
  have : sl nm = sl (nm.take i) + sl (nm.drop i) := by rw [← sl_app, e]
  omega
section KWRD
variable {Y : Nat → MethodName × ByteArray} {d : Nat} {σ : kS}
/-- whether a word is these bytes -/
theorem k_same_l (ty : kTY σ) (rb NB h M s a n : Nat) (eb : σ.2.2.1 48 0 = some rb) (kb : σ.2.2.2.1 rb = (21, NB)) (kh : σ.2.2.2.1 h = (21, M)) (hb : s + n ≤ NB) (hM : a + n ≤ M) (hNB : NB ≤ 470000) (hMM : M ≤ 600000) (x1 x3 x4 x5 : Int32) (e3 : x3 = nI a) (e4 : x4 = nI n) (e5 : x5 = nI s) : ∀ (f k : Nat) (x6 : Int32), k + f = n → x6 = nI k → wd (σ.1 rb) s k = wd (σ.1 h) a k →
    kjY kPP (kQQ Y) d 77 19 [some (.ref 48), some (.int x1), some (.ref h), some (.int x3), some (.int x4), some (.int x5), some (.int x6)] [] σ (fun r u => u = σ ∧ ((r = some (.int 1) ∧ wd (σ.1 rb) s n = wd (σ.1 h) a n) ∨ (r = some (.int 0) ∧ ¬ wd (σ.1 rb) s n = wd (σ.1 h) a n))) := by
  intro f
  induction f with
  | zero =>
    intro k x6 hk e6 hw
    refine kjZ_y rfl rfl 3 _ _ _ _ ty ?_
    refine And.intro (fun c => ?_) (fun c => ?_)
    · refine kjZ_y rfl rfl 2 _ _ _ _ ty ?_
      refine And.intro rfl (And.intro (Or.inr (Or.inl ⟨rfl, Or.inr rfl⟩)) ?_)
      exact ⟨rfl, Or.inl ⟨rfl, by rw [show n = k by omega]; exact hw⟩⟩
    · refine absurd (show x4 ≤ x6 from ?_) c
      rw [e4, e6]; exact nI_le (by omega) (by omega)
  | succ f ih =>
    intro k x6 hk e6 hw
    have v1 : vp_in (x5 + x6) NB := by rw [e5, e6, nI_add]; exact vp_in_nI (by omega) (by omega)
    have v2 : vp_in (x3 + x6) M := by rw [e3, e6, nI_add]; exact vp_in_nI (by omega) (by omega)
    have c1 : (x5 + x6).toNatClampNeg = s + k := by rw [e5, e6, nI_add]; exact nI_clamp (by omega)
    have c2 : (x3 + x6).toNatClampNeg = a + k := by rw [e3, e6, nI_add]; exact nI_clamp (by omega)
    refine kjZ_y rfl rfl 3 _ _ _ _ ty ?_
    refine And.intro (fun c => ?_) (fun c => ?_)
    · refine absurd (show x4 ≤ x6 from c) ?_
      rw [e4, e6]; exact nI_ge (by omega) (by omega)
    · refine kjZ_y rfl rfl 12 _ _ _ _ ty ?_
      refine (And.intro (ty.k (by decide) rfl) (Exists.intro _ (And.intro eb (Or.inl (And.intro (kdk kb) (And.intro (kdv kb v1) (Or.inl (And.intro (kdk kh) (And.intro (kdv kh v2) (And.intro (fun c3 => ?_) (fun c3 => ?_)))))))))))
      · have c3 : σ.1 rb (x5 + x6).toNatClampNeg = σ.1 h (x3 + x6).toNatClampNeg := c3
        rw [c1, c2] at c3
        refine kjZ_y rfl rfl 2 _ _ _ _ ty ?_
        exact ih (k + 1) _ (by omega) (by rw [e6]; exact nI_1 k) (by rw [wd_snoc, wd_snoc, hw, c3])
      · refine kjZ_y rfl rfl 2 _ _ _ _ ty ?_
        refine And.intro rfl (And.intro (Or.inr (Or.inl ⟨rfl, Or.inl rfl⟩)) ?_)
        refine ⟨rfl, Or.inr ⟨rfl, fun z => c3 ?_⟩⟩
        show σ.1 rb (x5 + x6).toNatClampNeg = σ.1 h (x3 + x6).toNatClampNeg
        rw [c1, c2]
        have z1 := congrArg (fun l => l[k]?) z
        have z1 : (wd (σ.1 rb) s n)[k]? = (wd (σ.1 h) a n)[k]? := z1
        rw [wd_get (by omega), wd_get (by omega)] at z1
        exact Option.some.inj z1
theorem k_same (ty : kTY σ) {nm : List (List Int32)} (hw : WRD σ nm) {i h M a n : Nat} {w : List Int32} (hi : nm[i]? = some w) (kh : σ.2.2.2.1 h = (21, M)) (hM : a + n ≤ M) (hMM : M ≤ 600000) (x1 x3 x4 : Int32) (e1 : x1 = nI i) (e3 : x3 = nI a) (e4 : x4 = nI n) : kjY kPP (kQQ Y) d 77 0 (mjL0 7 [.ref 48, .int x1, .ref h, .int x3, .int x4]) [] σ (fun r u => u = σ ∧ ((r = some (.int 1) ∧ w = wd (σ.1 h) a n) ∨ (r = some (.int 0) ∧ ¬ w = wd (σ.1 h) a n))) := by
  obtain ⟨rb, NB, rs, NS, rc, ⟨b1, b2, b3, b3'⟩, ⟨s1, s2, s3, s4, s5, s5'⟩, a1, a2, a3, a4, a5, a6, a7, a8⟩ := hw
  have hil : i < nm.length := (List.getElem?_eq_some_iff.mp hi).1
  have v1 : vp_in x1 NS := by rw [e1]; exact vp_in_nI (by omega) (by omega)
  have v2 : vp_in (x1 + Int32.ofInt 1) NS := by rw [e1, show nI i + Int32.ofInt 1 = nI (i + 1) from nI_1 i]; exact vp_in_nI (by omega) (by omega)
  have c1 : x1.toNatClampNeg = i := by rw [e1]; exact nI_clamp (by omega)
  have c2 : (x1 + Int32.ofInt 1).toNatClampNeg = i + 1 := by rw [e1, show nI i + Int32.ofInt 1 = nI (i + 1) from nI_1 i]; exact nI_clamp (by omega)
  have q1 := a3 i (by omega)
  have q2 := a3 (i + 1) (by omega)
  have q3 := sl_take_s hi
  have q4 := sl_take_le nm (i + 1)
  have q5 := a5 i w hi
  have ed : σ.1 rs (x1 + Int32.ofInt 1).toNatClampNeg - σ.1 rs x1.toNatClampNeg = nI w.length := by
    rw [c1, c2, q1, q2, q3, pk_sub (by omega)]; congr 1; omega
  refine kjZ_y rfl rfl 15 _ _ _ _ ty ?_
  refine (And.intro (ty.k (by decide) rfl) (Exists.intro _ (And.intro s1 (Or.inl (And.intro (kdk s2) (And.intro (kdv s2 v1) (And.intro (Nat.le_of_ble_eq_true rfl) (And.intro (ty.k (by decide) rfl) (Exists.intro _ (And.intro s1 (Or.inl (And.intro (kdk s2) (And.intro (kdv s2 v2) (And.intro (fun c => ?_) (fun c => ?_)))))))))))))))
  · have c : σ.1 rs (x1 + Int32.ofInt 1).toNatClampNeg - σ.1 rs x1.toNatClampNeg = x4 := c
    rw [ed, e4] at c
    have c' := (nI_eq (by omega) (by omega)).mp c
    refine kjZ_y rfl rfl 2 _ _ _ _ ty ?_
    refine (And.intro (Nat.le_of_ble_eq_true rfl) ?_)
    have k := k_same_l (Y := Y) (d := d) ty rb NB h M (sl (nm.take i)) a n b1 b2 kh (by omega) hM b3 hMM x1 x3 x4 (σ.1 rs x1.toNatClampNeg) e3 e4 (by rw [c1, q1]) n 0 _ (by omega) rfl rfl
    refine kjY_mono ty (fun r u _ _ z => ?_) k
    rw [← c'] at z
    rw [q5] at z
    rw [← c']
    exact z
  · refine kjZ_y rfl rfl 2 _ _ _ _ ty ?_
    refine And.intro rfl (And.intro (Or.inr (Or.inl ⟨rfl, Or.inl rfl⟩)) ?_)
    refine ⟨rfl, Or.inr ⟨rfl, fun z => c ?_⟩⟩
    show σ.1 rs (x1 + Int32.ofInt 1).toNatClampNeg - σ.1 rs x1.toNatClampNeg = x4
    rw [ed, e4, z, wd_len]
end KWRD
