/-! Words, and how they are compared. -/
/-- n bytes of a row from a place on -/
def wd (f : Nat → Int32) (a n : Nat) : List Int32 := (List.range n).map (fun k => f (a + k))
theorem wd_0 (f : Nat → Int32) (a : Nat) : wd f a 0 = [] := rfl
theorem wd_s (f : Nat → Int32) (a n : Nat) : wd f a (n + 1) = f a :: wd f (a + 1) n := by
  unfold wd
  rw [List.range_succ_eq_map, List.map_cons, List.map_map]
  refine congrArg (List.cons (f a)) (List.map_congr_left fun k _ => ?_)
  show f (a + (k + 1)) = f (a + 1 + k)
  exact congrArg f (by omega)
theorem wd_len (f : Nat → Int32) (a n : Nat) : (wd f a n).length = n := by unfold wd; rw [List.length_map, List.length_range]
theorem wd_congr {f g : Nat → Int32} {a b n : Nat} (h : ∀ k, k < n → f (a + k) = g (b + k)) : wd f a n = wd g b n := by
  unfold wd; exact List.map_congr_left fun k hk => h k (List.mem_range.mp hk)
theorem wd_get {f : Nat → Int32} {a n k : Nat} (h : k < n) : (wd f a n)[k]? = some (f (a + k)) := by
  unfold wd; rw [List.getElem?_map, List.getElem?_range h]; rfl
def u8 (x : Int32) : Int := (x &&& 255).toInt
theorem u8_lt (x : Int32) : 0 ≤ u8 x ∧ u8 x ≤ 255 := by
  obtain ⟨j, hj, e⟩ := pk_andE x (m := 255) 8 (by decide)
  unfold u8; rw [e, nI_toInt (by omega)]; omega
/-- below 0, 0 or above it, as a word is ahead of another, the same, or behind it -/
def cmpW : List Int32 → List Int32 → Int
  | [], b => -(b.length : Int)
  | x :: a, [] => (x :: a).length
  | x :: a, y :: b => if x = y then cmpW a b else u8 x - u8 y
section CMP
variable {Y : Nat → MethodName × ByteArray} {d : Nat} {K : mjK}
theorem nI_sub_toInt {a b : Nat} (ha : a < 2 ^ 30) (hb : b < 2 ^ 30) : (nI a - nI b).toInt = (a : Int) - b := pk_sub_toInt ha hb
theorem u8_sub (x y : Int32) : ((x &&& 255) - (y &&& 255)).toInt = u8 x - u8 y := by
  obtain ⟨j, hj, e⟩ := pk_andE x (m := 255) 8 (by decide)
  obtain ⟨i, hi, e2⟩ := pk_andE y (m := 255) 8 (by decide)
  unfold u8; rw [e, e2, pk_sub_toInt (by omega) (by omega), nI_toInt (by omega), nI_toInt (by omega)]
set_option maxRecDepth 100000 in
theorem c_compare_loop (h1 h2 a n b m : Nat) (k1 : mjKd h1 = 1) (k2 : mjKd h2 = 1) (ha : a + n ≤ mjLn h1) (hb : b + m ≤ mjLn h2) (l1 : mjLn h1 < 2 ^ 30) (l2 : mjLn h2 < 2 ^ 30) (σ : mjS) (ty : mjTY σ)
    (hK : ∀ r : Int32, r.toInt = cmpW (wd (σ.2.2.1 h1) a n) (wd (σ.2.2.1 h2) b m) → K (some (.int r)) σ) :
    ∀ (j k : Nat) (x : Int32), x = nI k → k + j = n → k ≤ m → cmpW (wd (σ.2.2.1 h1) a n) (wd (σ.2.2.1 h2) b m) = cmpW (wd (σ.2.2.1 h1) (a + k) (n - k)) (wd (σ.2.2.1 h2) (b + k) (m - k)) →
      mjY mjPP (mjQQ Y) d 8 2 [some (.ref h1), some (.int (nI a)), some (.int (nI n)), some (.ref h2), some (.int (nI b)), some (.int (nI m)), some (.int x)] [] σ K := by
  intro j
  induction j with
  | zero =>
    intro k x ex hk hm hc
    have ek : k = n := by omega
    refine mjZ_y rfl rfl 3 _ _ _ _ ty ?_
    refine And.intro (fun _ => ?_) (fun c => absurd (show nI n ≤ x by rw [ex]; exact nI_le (by omega) (by omega)) c)
    refine mjZ_re rfl rfl 7 ty ?_
    refine And.intro (fun _ => ?_) (fun c => absurd (show nI n ≤ x by rw [ex]; exact nI_le (by omega) (by omega)) c)
    refine And.intro rfl (And.intro (Or.inl rfl) (hK _ ?_))
    rw [pk_sub_toInt (by omega) (by omega), hc, show n - k = 0 by omega, wd_0]
    show (n : Int) - m = -((wd _ _ _).length : Int)
    rw [wd_len]; omega
  | succ j ih =>
    intro k x ex hk hm hc
    have e1 : wd (σ.2.2.1 h1) (a + k) (n - k) = σ.2.2.1 h1 (a + k) :: wd (σ.2.2.1 h1) (a + (k + 1)) (n - (k + 1)) := by
      rw [show n - k = (n - (k + 1)) + 1 by omega, wd_s]; rfl
    refine mjZ_y rfl rfl 6 _ _ _ _ ty ?_
    refine And.intro (fun c => absurd (show nI n ≤ x from c) (by rw [ex]; exact nI_ge (by omega) (by omega))) (fun _ => ?_)
    refine And.intro (fun c => ?_) (fun c => ?_)
    · have c2 : m ≤ k := by
        have c : nI m ≤ x := c
        rw [ex] at c
        exact (nI_leI (by omega) (by omega)).mp c
      refine mjZ_re rfl rfl 10 ty ?_
      refine And.intro (fun c => absurd (show nI n ≤ x from c) (by rw [ex]; exact nI_ge (by omega) (by omega))) (fun _ => ?_)
      refine And.intro (fun _ => ?_) (fun c0 => absurd c c0)
      refine And.intro rfl (And.intro (Or.inl rfl) (hK _ ?_))
      rw [pk_sub_toInt (by omega) (by omega), hc, show m - k = 0 by omega, wd_0, e1]
      show (n : Int) - m = ((_ :: wd _ _ _).length : Int)
      rw [List.length_cons, wd_len]; omega
    · have c2 : k < m := by
        have c : ¬ nI m ≤ x := c
        rw [ex] at c
        exact Nat.lt_of_not_le (fun q => c (nI_le q (by omega)))
      have e2 : wd (σ.2.2.1 h2) (b + k) (m - k) = σ.2.2.1 h2 (b + k) :: wd (σ.2.2.1 h2) (b + (k + 1)) (m - (k + 1)) := by
        rw [show m - k = (m - (k + 1)) + 1 by omega, wd_s]; rfl
      have i1 : (nI a + x).toNatClampNeg = a + k := by rw [ex, nI_add]; exact nI_clamp (by omega)
      have i2 : (nI b + x).toNatClampNeg = b + k := by rw [ex, nI_add]; exact nI_clamp (by omega)
      have v1 : vp_in (nI a + x) (mjLn h1) := by rw [ex, nI_add]; exact vp_in_nI (by omega) (by omega)
      have v2 : vp_in (nI b + x) (mjLn h2) := by rw [ex, nI_add]; exact vp_in_nI (by omega) (by omega)
      refine mjZ_re rfl rfl 13 ty ?_
      refine And.intro (Or.inl k1) (And.intro v1 (And.intro (Or.inl k2) (And.intro v2 (And.intro (fun cn => ?_) (fun cn => ?_)))))
      · refine mjZ_re rfl rfl 22 ty ?_
        refine And.intro (fun c => absurd (show nI n ≤ x from c) (by rw [ex]; exact nI_ge (by omega) (by omega))) (fun _ => ?_)
        refine And.intro (fun c3 => absurd c3 c) (fun _ => ?_)
        refine And.intro (Or.inl k1) (And.intro v1 (And.intro (Or.inl k2) (And.intro v2 (And.intro rfl (And.intro (Or.inl rfl) (hK _ ?_))))))
        show ((σ.2.2.1 h1 (nI a + x).toNatClampNeg &&& 255) - (σ.2.2.1 h2 (nI b + x).toNatClampNeg &&& 255)).toInt = _
        have cn : ¬ σ.2.2.1 h1 (nI a + x).toNatClampNeg = σ.2.2.1 h2 (nI b + x).toNatClampNeg := cn
        rw [i1, i2] at cn ⊢
        rw [u8_sub, hc, e1, e2]
        exact (if_neg cn).symm
      · have cn : σ.2.2.1 h1 (nI a + x).toNatClampNeg = σ.2.2.1 h2 (nI b + x).toNatClampNeg := Decidable.of_not_not cn
        rw [i1, i2] at cn
        refine mjZ_re rfl rfl 2 ty ?_
        refine ih (k + 1) _ (by rw [ex]; exact nI_1 k) (by omega) (by omega) ?_
        rw [hc, e1, e2]
        exact if_pos cn
set_option maxRecDepth 100000 in
theorem c_compare (h1 h2 a n b m : Nat) (k1 : mjKd h1 = 1) (k2 : mjKd h2 = 1) (ha : a + n ≤ mjLn h1) (hb : b + m ≤ mjLn h2) (l1 : mjLn h1 < 2 ^ 30) (l2 : mjLn h2 < 2 ^ 30) {σ : mjS} (ty : mjTY σ) :
    mjY mjPP (mjQQ Y) d 8 0 (mjL0 7 [.ref h1, .int (nI a), .int (nI n), .ref h2, .int (nI b), .int (nI m)]) [] σ (fun v u => u = σ ∧ ∃ r : Int32, v = some (.int r) ∧ r.toInt = cmpW (wd (σ.2.2.1 h1) a n) (wd (σ.2.2.1 h2) b m)) := by
  refine mjZ_y rfl rfl 2 _ _ _ _ ty ?_
  refine And.intro (Nat.le_of_ble_eq_true rfl) ?_
  exact c_compare_loop h1 h2 a n b m k1 k2 ha hb l1 l2 σ ty (fun r hr => ⟨rfl, r, rfl, hr⟩) n 0 _ rfl (by omega) (by omega) rfl
end CMP
