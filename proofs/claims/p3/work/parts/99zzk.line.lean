/-! lineAt: the line of a number. -/
section LINE
variable {Y : Nat → MethodName × ByteArray} {d : Nat}
/-- how far the line goes -/
def lsc (b : Nat → Int32) (p e : Nat) : Nat → Nat → Nat
  | 0, q => q
  | f + 1, q => if q + 1 < e ∧ q + 1 < p + 16 ∧ ¬ (b q = 13 ∧ b (q + 1) = 10) then lsc b p e f (q + 1) else q
def ldg (b : Nat → Int32) : Nat → Nat → Int32 → Option Int32
  | 0, _, v => some v
  | n + 1, k, v => if b k < 48 ∨ 57 < b k then none else ldg b n (k + 1) (v * 10 + b k - 48)
def lnS (b : Nat → Int32) (p q : Nat) : Bool := decide (p + 1 < q ∧ b (p + 1) = 45)
def lnV (b : Nat → Int32) (p q : Nat) : Option Int32 := if q - (if lnS b p q = true then p + 2 else p + 1) < 1 ∨ 6 < q - (if lnS b p q = true then p + 2 else p + 1) then none else (ldg b (q - (if lnS b p q = true then p + 2 else p + 1)) (if lnS b p q = true then p + 2 else p + 1) 0).map (fun v => if lnS b p q = true then -v else v)
/-- the line's number and its end; none for a line that waits, some none for a wrong one -/
def lnF (b : Nat → Int32) (p e : Nat) : Option (Option (Int32 × Nat)) := if lsc b p e 16 (p + 1) + 1 < e ∧ lsc b p e 16 (p + 1) + 1 < p + 16 then some ((lnV b p (lsc b p e 16 (p + 1))).map (fun v => (v, lsc b p e 16 (p + 1) + 2))) else if p + 16 ≤ e then some none else none
theorem lsc_ge (b : Nat → Int32) (p e : Nat) : ∀ f q, q ≤ lsc b p e f q := by
  intro f
  induction f with
  | zero => intro q; exact Nat.le_refl _
  | succ f ih =>
    intro q
    show q ≤ if _ then lsc b p e f (q + 1) else q
    split
    · exact Nat.le_trans (Nat.le_succ q) (ih (q + 1))
    · exact Nat.le_refl _
theorem nI_sub3 {a b : Nat} (h : b ≤ a) : nI a - nI b = nI (a - b) := pk_sub h
set_option maxRecDepth 100000 in
theorem c_line_scan (K : mjK) (h p e : Nat) (hh : mjKd h = 1) (he : e ≤ mjLn h) (hl : mjLn h < 2 ^ 30) (hp : p < 2 ^ 29) {σ : mjS} (ty : mjTY σ) (x2 x3 : Int32) (e2 : x2 = nI p) (e3 : x3 = nI e) : ∀ (f q : Nat) (x4 : Int32), x4 = nI q → p + 1 ≤ q → q ≤ p + 17 → p + 17 ≤ q + f →
    (∀ x4, x4 = nI (lsc (σ.2.2.1 h) p e f q) → mjY mjPP (mjQQ Y) d 166 30 [some (.ref 0), some (.ref h), some (.int x2), some (.int x3), some (.int x4), none, none, none, none] [] σ K) →
    mjY mjPP (mjQQ Y) d 166 4 [some (.ref 0), some (.ref h), some (.int x2), some (.int x3), some (.int x4), none, none, none, none] [] σ K := by
  intro f
  induction f with
  | zero =>
    intro q x4 e4 h1 h3 h2 hK
    have i1 : x4 + Int32.ofInt 1 = nI (q + 1) := by rw [e4]; exact nI_1 q
    refine mjZ_y rfl rfl 5 _ _ _ _ ty ?_
    refine And.intro (fun c => ?_) (fun c => ?_)
    · exact hK x4 e4
    · have c : ¬ e ≤ q + 1 := fun z => c (show x3 ≤ x4 + Int32.ofInt 1 by rw [i1, e3]; exact nI_le z (by omega))
      refine mjZ_y rfl rfl 7 _ _ _ _ ty ?_
      refine And.intro (fun g => ?_) (fun g => ?_)
      · exact hK x4 e4
      · refine absurd (show (Int8.ofInt 16).toInt32 ≤ x4 + Int32.ofInt 1 - x2 from ?_) g
        rw [i1, e2, nI_sub3 (by omega)]; exact nI_le (a := 16) (by omega) (by omega)
  | succ f ih =>
    intro q x4 e4 h1 h3 h2 hK
    have i1 : x4 + Int32.ofInt 1 = nI (q + 1) := by rw [e4]; exact nI_1 q
    have hs : lsc (σ.2.2.1 h) p e (f + 1) q = if q + 1 < e ∧ q + 1 < p + 16 ∧ ¬ ((σ.2.2.1 h) q = 13 ∧ (σ.2.2.1 h) (q + 1) = 10) then lsc (σ.2.2.1 h) p e f (q + 1) else q := rfl
    rw [hs] at hK
    refine mjZ_y rfl rfl 5 _ _ _ _ ty ?_
    refine And.intro (fun c => ?_) (fun c => ?_)
    · have c : e ≤ q + 1 := Nat.le_of_not_lt (fun z => absurd (show x3 ≤ x4 + Int32.ofInt 1 from c) (by rw [i1, e3]; exact nI_ge z (by omega)))
      rw [if_neg (fun z => by omega)] at hK
      exact hK x4 e4
    · have c : q + 1 < e := Nat.lt_of_not_le (fun z => c (show x3 ≤ x4 + Int32.ofInt 1 by rw [i1, e3]; exact nI_le z (by omega)))
      have i2 : x4 + Int32.ofInt 1 - x2 = nI (q + 1 - p) := by rw [i1, e2, nI_sub3 (by omega)]
      have cq : x4.toNatClampNeg = q := by rw [e4]; exact nI_clamp (by omega)
      have cq1 : (x4 + Int32.ofInt 1).toNatClampNeg = q + 1 := by rw [i1]; exact nI_clamp (by omega)
      refine mjZ_y rfl rfl 7 _ _ _ _ ty ?_
      refine And.intro (fun g => ?_) (fun g => ?_)
      · have g : ¬ q + 1 < p + 16 := fun z => absurd (show (Int8.ofInt 16).toInt32 ≤ x4 + Int32.ofInt 1 - x2 from g) (by rw [i2]; exact nI_ge (b := 16) (by omega) (by decide))
        rw [if_neg (fun z => g z.2.1)] at hK
        exact hK x4 e4
      · have g : q + 1 < p + 16 := Nat.lt_of_not_le (fun z => g (show (Int8.ofInt 16).toInt32 ≤ x4 + Int32.ofInt 1 - x2 by rw [i2]; exact nI_le (a := 16) (by omega) (by omega)))
        have nxt : ¬ ((σ.2.2.1 h) q = 13 ∧ (σ.2.2.1 h) (q + 1) = 10) → mjY mjPP (mjQQ Y) d 166 28 [some (.ref 0), some (.ref h), some (.int x2), some (.int x3), some (.int x4), none, none, none, none] [] σ K := by
          intro n
          rw [if_pos ⟨c, g, n⟩] at hK
          refine mjZ_y rfl rfl 2 _ _ _ _ ty ?_
          exact ih (q + 1) _ i1 (by omega) (by omega) (by omega) hK
        refine mjZ_y rfl rfl 5 _ _ _ _ ty ?_
        refine (And.intro (Or.inl hh) (And.intro (show vp_in x4 (mjLn h) by rw [e4]; exact vp_in_nI (by omega) (by omega)) (And.intro (fun r => ?_) (fun r => ?_))))
        · exact nxt (fun z => r (show σ.2.2.1 h x4.toNatClampNeg = (Int8.ofInt 13).toInt32 by rw [cq]; exact z.1))
        · have r : (σ.2.2.1 h) q = 13 := by
            have := Decidable.of_not_not r
            rw [show σ.2.2.1 h x4.toNatClampNeg = σ.2.2.1 h q by rw [cq]] at this; exact this
          refine mjZ_y rfl rfl 7 _ _ _ _ ty ?_
          refine (And.intro (Or.inl hh) (And.intro (show vp_in (x4 + Int32.ofInt 1) (mjLn h) by rw [i1]; exact vp_in_nI (by omega) (by omega)) (And.intro (fun s => ?_) (fun s => ?_))))
          · have s : (σ.2.2.1 h) (q + 1) = 10 := by
              have s : σ.2.2.1 h (x4 + Int32.ofInt 1).toNatClampNeg = (Int8.ofInt 10).toInt32 := s
              rw [cq1] at s; exact s
            rw [if_neg (fun z => z.2.2 ⟨r, s⟩)] at hK
            exact hK x4 e4
          · exact nxt (fun z => s (show σ.2.2.1 h (x4 + Int32.ofInt 1).toNatClampNeg = (Int8.ofInt 10).toInt32 by rw [cq1]; exact z.2))
/-- what lineAt answers -/
def lnK (σ : mjS) (o : Option (Option (Int32 × Nat))) : mjK := fun r u => match o with
  | none => r = some (.int (-1)) ∧ u = σ
  | some none => r = some (.int (-2)) ∧ Fr [f_lineEnd] [] σ u
  | some (some z) => r = some (.int 1) ∧ Fr [f_lineEnd, f_lineNumber] [] σ u ∧ u.1 f_lineEnd = nI z.2 ∧ u.1 f_lineNumber = z.1
set_option maxRecDepth 100000 in
theorem c_line_dig (K : mjK) (h : Nat) (hh : mjKd h = 1) (hl : mjLn h < 2 ^ 30) {σ : mjS} (ty : mjTY σ) (q : Nat) (hq : q ≤ mjLn h) (x2 x3 x4 x5 x7 : Int32) (e4 : x4 = nI q) : ∀ (n k : Nat) (x6 x8 : Int32), x6 = nI k → k + n = q →
    (match ldg (σ.2.2.1 h) n k x8 with
      | none => K (some (.int (-2))) σ
      | some v => ∀ x6, mjY mjPP (mjQQ Y) d 166 122 [some (.ref 0), some (.ref h), some (.int x2), some (.int x3), some (.int x4), some (.int x5), some (.int x6), some (.int x7), some (.int v)] [] σ K) →
    mjY mjPP (mjQQ Y) d 166 95 [some (.ref 0), some (.ref h), some (.int x2), some (.int x3), some (.int x4), some (.int x5), some (.int x6), some (.int x7), some (.int x8)] [] σ K := by
  intro n
  induction n with
  | zero =>
    intro k x6 x8 e6 hk hK
    refine mjZ_y rfl rfl 3 _ _ _ _ ty ?_
    refine And.intro (fun c => ?_) (fun c => ?_)
    · exact hK x6
    · exact absurd (show x4 ≤ x6 by rw [e4, e6]; exact nI_le (by omega) (by omega)) c
  | succ n ih =>
    intro k x6 x8 e6 hk hK
    have ck : x6.toNatClampNeg = k := by rw [e6]; exact nI_clamp (by omega)
    have vk : vp_in x6 (mjLn h) := by rw [e6]; exact vp_in_nI (by omega) (by omega)
    have hs : ldg (σ.2.2.1 h) (n + 1) k x8 = if (σ.2.2.1 h) k < 48 ∨ 57 < (σ.2.2.1 h) k then none else ldg (σ.2.2.1 h) n (k + 1) (x8 * 10 + (σ.2.2.1 h) k - 48) := rfl
    rw [hs] at hK
    have bad : ((σ.2.2.1 h) k < 48 ∨ 57 < (σ.2.2.1 h) k) → mjY mjPP (mjQQ Y) d 166 108 [some (.ref 0), some (.ref h), some (.int x2), some (.int x3), some (.int x4), some (.int x5), some (.int x6), some (.int x7), some (.int x8)] [] σ K := by
      intro z
      rw [if_pos z] at hK
      refine mjZ_y rfl rfl 2 _ _ _ _ ty ?_
      refine And.intro rfl (And.intro (Or.inl rfl) ?_)
      exact hK
    refine mjZ_y rfl rfl 3 _ _ _ _ ty ?_
    refine And.intro (fun c => ?_) (fun c => ?_)
    · exact absurd (show x4 ≤ x6 from c) (by rw [e4, e6]; exact nI_ge (by omega) (by omega))
    · refine mjZ_y rfl rfl 5 _ _ _ _ ty ?_
      refine (And.intro (Or.inl hh) (And.intro vk (And.intro (fun r => ?_) (fun r => ?_))))
      · have r : σ.2.2.1 h x6.toNatClampNeg < (Int8.ofInt 48).toInt32 := r
        rw [ck] at r
        exact bad (Or.inl r)
      · have r : ¬ (σ.2.2.1 h) k < 48 := fun z => r (show σ.2.2.1 h x6.toNatClampNeg < (Int8.ofInt 48).toInt32 by rw [ck]; exact z)
        refine mjZ_y rfl rfl 5 _ _ _ _ ty ?_
        refine (And.intro (Or.inl hh) (And.intro vk (And.intro (fun s => ?_) (fun s => ?_))))
        · have s : σ.2.2.1 h x6.toNatClampNeg ≤ (Int8.ofInt 57).toInt32 := s
          rw [ck] at s
          rw [if_neg (fun z => z.elim r (fun y => absurd y (Int32.not_lt.mpr s)))] at hK
          refine mjZ_y rfl rfl 12 _ _ _ _ ty ?_
          refine (And.intro (Or.inl hh) (And.intro vk (And.intro (Nat.le_of_ble_eq_true rfl) ?_)))
          have go : ∀ y : Int32, y = x8 * 10 + (σ.2.2.1 h) k - 48 → mjY mjPP (mjQQ Y) d 166 95 [some (.ref 0), some (.ref h), some (.int x2), some (.int x3), some (.int x4), some (.int x5), some (.int (x6 + Int32.ofInt 1)), some (.int x7), some (.int y)] [] σ K := by
            intro y ey
            rw [← ey] at hK
            exact ih (k + 1) _ y (by rw [e6]; exact nI_1 k) (by omega) hK
          exact go _ (by rw [ck]; rfl)
        · have s : 57 < (σ.2.2.1 h) k := Int32.not_le.mp (fun z => s (show σ.2.2.1 h x6.toNatClampNeg ≤ (Int8.ofInt 57).toInt32 by rw [ck]; exact z))
          exact bad (Or.inr s)
set_option maxRecDepth 100000 in
theorem c_lineAt {σ : mjS} (ty : mjTY σ) (h p e : Nat) (hh : mjKd h = 1) (he : e ≤ mjLn h) (hl : mjLn h < 2 ^ 29) (hp : p < e) {x2 x3 : Int32} (e2 : x2 = nI p) (e3 : x3 = nI e) : mjY mjPP (mjQQ Y) d 166 0 (mjL0 9 [.ref 0, .ref h, .int x2, .int x3]) [] σ (lnK σ (lnF (σ.2.2.1 h) p e)) := by
  have e21 : x2 + Int32.ofInt 1 = nI (p + 1) := by rw [e2]; exact nI_1 p
  refine mjZ_y rfl rfl 4 _ _ _ _ ty ?_
  refine (And.intro (Nat.le_of_ble_eq_true rfl) ?_)
  refine c_line_scan _ h p e hh he (by omega) (by omega) ty x2 x3 e2 e3 16 (p + 1) _ e21 (Nat.le_refl _) (by omega) (by omega) (fun x4 e4 => ?_)
  have hge := lsc_ge (σ.2.2.1 h) p e 16 (p + 1)
  unfold lnF
  generalize hq : lsc (σ.2.2.1 h) p e 16 (p + 1) = q at e4 hge
  have hq30 : q ≤ p + 17 := by
    have : ∀ f r, lsc (σ.2.2.1 h) p e f r ≤ r + f := by
      intro f
      induction f with
      | zero => intro r; exact Nat.le_refl _
      | succ f ih =>
        intro r
        show (if _ then lsc (σ.2.2.1 h) p e f (r + 1) else r) ≤ r + (f + 1)
        split
        · have := ih (r + 1); omega
        · omega
    have := this 16 (p + 1); omega
  have i1 : x4 + Int32.ofInt 1 = nI (q + 1) := by rw [e4]; exact nI_1 q
  have i2 : x4 + Int32.ofInt 1 - x2 = nI (q + 1 - p) := by rw [i1, e2, nI_sub3 (by omega)]
  have no : ¬ (q + 1 < e ∧ q + 1 < p + 16) → mjY mjPP (mjQQ Y) d 166 44 [some (.ref 0), some (.ref h), some (.int x2), some (.int x3), some (.int x4), none, none, none, none] [] σ (lnK σ (if q + 1 < e ∧ q + 1 < p + 16 then some ((lnV (σ.2.2.1 h) p q).map (fun v => (v, q + 2))) else if p + 16 ≤ e then some none else none)) := by
    intro n
    rw [if_neg n]
    refine mjZ_y rfl rfl 3 _ _ _ _ ty ?_
    refine (And.intro (Nat.le_of_ble_eq_true rfl) ?_)
    refine mjZ_y rfl rfl 1 _ _ _ _ ty ?_
    refine And.intro (fun c => ?_) (fun c => ?_)
    · exact absurd rfl c
    · have i3 : x3 - x2 = nI (e - p) := by rw [e3, e2, nI_sub3 (by omega)]
      refine mjZ_y rfl rfl 5 _ _ _ _ ty ?_
      refine And.intro (fun g => ?_) (fun g => ?_)
      · have g : ¬ p + 16 ≤ e := fun z => absurd (show x3 - x2 < (Int8.ofInt 16).toInt32 from g) (by rw [i3]; exact Int32.not_lt.mpr (nI_le (a := 16) (by omega) (by omega)))
        rw [if_neg g]
        refine mjZ_y rfl rfl 2 _ _ _ _ ty ?_
        refine And.intro rfl (And.intro (Or.inl rfl) ?_)
        exact ⟨rfl, rfl⟩
      · have g : p + 16 ≤ e := Nat.le_of_not_lt (fun z => g (show x3 - x2 < (Int8.ofInt 16).toInt32 by rw [i3]; exact Int32.not_le.mp (nI_ge (b := 16) (by omega) (by decide))))
        rw [if_pos g]
        refine mjZ_y rfl rfl 2 _ _ _ _ ty ?_
        refine And.intro rfl (And.intro (Or.inl rfl) ?_)
        exact ⟨rfl, Fr.rf⟩
  refine mjZ_y rfl rfl 5 _ _ _ _ ty ?_
  refine And.intro (fun c => ?_) (fun c => ?_)
  · exact no (fun z => absurd (show x3 ≤ x4 + Int32.ofInt 1 from c) (by rw [i1, e3]; exact nI_ge z.1 (by omega)))
  · have c : q + 1 < e := Nat.lt_of_not_le (fun z => c (show x3 ≤ x4 + Int32.ofInt 1 by rw [i1, e3]; exact nI_le z (by omega)))
    refine mjZ_y rfl rfl 7 _ _ _ _ ty ?_
    refine And.intro (fun g => ?_) (fun g => ?_)
    · exact no (fun z => absurd (show (Int8.ofInt 16).toInt32 ≤ x4 + Int32.ofInt 1 - x2 from g) (by rw [i2]; exact nI_ge (b := 16) (by omega) (by decide)))
    · have g : q + 1 < p + 16 := Nat.lt_of_not_le (fun z => g (show (Int8.ofInt 16).toInt32 ≤ x4 + Int32.ofInt 1 - x2 by rw [i2]; exact nI_le (a := 16) (by omega) (by omega)))
      rw [if_pos ⟨c, g⟩]
      have i4 : x4 + Int32.ofInt 2 = nI (q + 2) := by rw [e4, show Int32.ofInt 2 = nI 2 from rfl, nI_add]
      refine mjZ_y rfl rfl 3 _ _ _ _ ty ?_
      refine (And.intro (Nat.le_of_ble_eq_true rfl) ?_)
      refine mjZ_y rfl rfl 2 _ _ _ _ ty ?_
      refine And.intro (fun r => ?_) (fun r => ?_)
      · refine mjZ_y rfl rfl 9 _ _ _ _ ty ?_
        refine (And.intro rfl (And.intro (Or.inl rfl) (fun ty' => (And.intro (Nat.le_of_ble_eq_true rfl) ?_))))
        have go : ∀ u : mjS, mjTY u → u = (upd σ.1 f_lineEnd (nI (q + 2)), σ.2) → mjY mjPP (mjQQ Y) d 166 66 [some (.ref 0), some (.ref h), some (.int x2), some (.int x3), some (.int x4), some (.int (Int32.ofInt 1)), some (.int (x2 + Int32.ofInt 1)), none, none] [] u (lnK σ (some ((lnV (σ.2.2.1 h) p q).map (fun v => (v, q + 2))))) := by
          intro u tu eu
          have fu : Fr [f_lineEnd] [] σ u := by rw [eu]; exact Fr.i (by decide)
          have er : u.2.2.1 h = σ.2.2.1 h := by rw [eu]
          have eE : u.1 f_lineEnd = nI (q + 2) := by rw [eu]; exact pk_us (f := σ.1) (k := f_lineEnd) (x := nI (q + 2))
          have cp1 : (x2 + Int32.ofInt 1).toNatClampNeg = p + 1 := by rw [e21]; exact nI_clamp (by omega)
          have s81 : ∀ (x6 x7 : Int32), x6 = nI (if lnS (σ.2.2.1 h) p q = true then p + 2 else p + 1) → (x7 = if lnS (σ.2.2.1 h) p q = true then 1 else 0) → (if lnS (σ.2.2.1 h) p q = true then p + 2 else p + 1) ≤ q → mjY mjPP (mjQQ Y) d 166 81 [some (.ref 0), some (.ref h), some (.int x2), some (.int x3), some (.int x4), some (.int (Int32.ofInt 1)), some (.int x6), some (.int x7), none] [] u (lnK σ (some ((lnV (σ.2.2.1 h) p q).map (fun v => (v, q + 2))))) := by
            intro x6 x7 e6 e7 hkq
            unfold lnV
            generalize hk : (if lnS (σ.2.2.1 h) p q = true then p + 2 else p + 1) = k at e6 hkq
            have i5 : x4 - x6 = nI (q - k) := by rw [e4, e6, nI_sub3 hkq]
            have bad : (q - k < 1 ∨ 6 < q - k) → mjY mjPP (mjQQ Y) d 166 91 [some (.ref 0), some (.ref h), some (.int x2), some (.int x3), some (.int x4), some (.int (Int32.ofInt 1)), some (.int x6), some (.int x7), none] [] u (lnK σ (some ((if q - k < 1 ∨ 6 < q - k then none else (ldg (σ.2.2.1 h) (q - k) k 0).map (fun v => if lnS (σ.2.2.1 h) p q = true then -v else v)).map (fun v => (v, q + 2))))) := by
              intro z
              rw [if_pos z]
              refine mjZ_y rfl rfl 2 _ _ _ _ tu ?_
              refine And.intro rfl (And.intro (Or.inl rfl) ?_)
              exact ⟨rfl, fu⟩
            refine mjZ_y rfl rfl 5 _ _ _ _ tu ?_
            refine And.intro (fun a => ?_) (fun a => ?_)
            · exact bad (Or.inl (Nat.lt_of_not_le (fun z => absurd (show x4 - x6 < Int32.ofInt 1 from a) (by rw [i5]; exact Int32.not_lt.mpr (nI_le (a := 1) z (by omega))))))
            · have a : ¬ q - k < 1 := fun z => a (show x4 - x6 < Int32.ofInt 1 by rw [i5]; exact Int32.not_le.mp (nI_ge (b := 1) z (by decide)))
              refine mjZ_y rfl rfl 5 _ _ _ _ tu ?_
              refine And.intro (fun b => ?_) (fun b => ?_)
              · have b : ¬ 6 < q - k := fun z => absurd (show x4 - x6 ≤ (Int8.ofInt 6).toInt32 from b) (by rw [i5]; exact nI_ge (a := 6) z (by omega))
                rw [if_neg (fun z => z.elim a b)]
                refine mjZ_y rfl rfl 2 _ _ _ _ tu ?_
                refine (And.intro (Nat.le_of_ble_eq_true rfl) ?_)
                refine c_line_dig _ h hh (by omega) tu q (by omega) x2 x3 x4 _ x7 e4 (q - k) k x6 _ e6 (by omega) ?_
                rw [er]
                show (match ldg (σ.2.2.1 h) (q - k) k 0 with | none => _ | some v => _)
                cases hv : ldg (σ.2.2.1 h) (q - k) k 0 with
                | none => exact ⟨rfl, fu⟩
                | some v =>
                  intro x6
                  have fin : ∀ y : Int32, (y = if lnS (σ.2.2.1 h) p q = true then -v else v) → mjY mjPP (mjQQ Y) d 166 129 [some (.ref 0), some (.ref h), some (.int x2), some (.int x3), some (.int x4), some (.int (Int32.ofInt 1)), some (.int x6), some (.int x7), some (.int v)] [.int y, .ref 0] u (lnK σ (some (((some v).map (fun v => if lnS (σ.2.2.1 h) p q = true then -v else v)).map (fun v => (v, q + 2))))) := by
                    intro y ey
                    refine mjZ_y rfl rfl 3 _ _ _ _ tu ?_
                    refine (And.intro rfl (And.intro (Or.inl rfl) (fun tu' => And.intro rfl (And.intro (Or.inl rfl) ?_))))
                    refine ⟨rfl, (fu.up (by decide) (by decide)).tr (Fr.i (by decide)), ?_, ?_⟩
                    · show upd u.1 f_lineNumber y f_lineEnd = _
                      rw [pk_un (by decide)]; exact eE
                    · exact (pk_us (f := u.1) (k := f_lineNumber) (x := y)).trans ey
                  refine mjZ_y rfl rfl 3 _ _ _ _ tu ?_
                  refine And.intro (fun s => ?_) (fun s => ?_)
                  · have s : x7 = 0 := s
                    have hS : ¬ lnS (σ.2.2.1 h) p q = true := fun z => by rw [if_pos z] at e7; rw [e7] at s; exact absurd s (by decide)
                    refine mjZ_y rfl rfl 1 _ _ _ _ tu ?_
                    exact fin v (by rw [if_neg hS])
                  · have hS : lnS (σ.2.2.1 h) p q = true := Decidable.of_not_not (fun z => by rw [if_neg z] at e7; exact s (show x7 = 0 from e7))
                    refine mjZ_y rfl rfl 3 _ _ _ _ tu ?_
                    exact fin (-v) (by rw [if_pos hS])
              · exact bad (Or.inr (Nat.lt_of_not_le (fun z => b (show x4 - x6 ≤ (Int8.ofInt 6).toInt32 by rw [i5]; exact nI_le (b := 6) z (by decide)))))
          have sno : ¬ (p + 1 < q ∧ (σ.2.2.1 h) (p + 1) = 45) → mjY mjPP (mjQQ Y) d 166 76 [some (.ref 0), some (.ref h), some (.int x2), some (.int x3), some (.int x4), some (.int (Int32.ofInt 1)), some (.int (x2 + Int32.ofInt 1)), none, none] [] u (lnK σ (some ((lnV (σ.2.2.1 h) p q).map (fun v => (v, q + 2))))) := by
            intro n
            have hS : ¬ lnS (σ.2.2.1 h) p q = true := fun z => n (of_decide_eq_true z)
            refine mjZ_y rfl rfl 3 _ _ _ _ tu ?_
            refine (And.intro (Nat.le_of_ble_eq_true rfl) ?_)
            refine mjZ_y rfl rfl 1 _ _ _ _ tu ?_
            refine And.intro (fun a => ?_) (fun a => ?_)
            · exact s81 _ _ (by rw [if_neg hS]; exact e21) (by rw [if_neg hS]; rfl) (by rw [if_neg hS]; omega)
            · exact absurd rfl a
          refine mjZ_y rfl rfl 3 _ _ _ _ tu ?_
          refine And.intro (fun a => ?_) (fun a => ?_)
          · exact sno (fun z => absurd (show x4 ≤ x2 + Int32.ofInt 1 from a) (by rw [e4, e21]; exact nI_ge z.1 (by omega)))
          · have a : p + 1 < q := Nat.lt_of_not_le (fun z => a (show x4 ≤ x2 + Int32.ofInt 1 by rw [e4, e21]; exact nI_le z (by omega)))
            refine mjZ_y rfl rfl 5 _ _ _ _ tu ?_
            refine (And.intro (Or.inl hh) (And.intro (show vp_in (x2 + Int32.ofInt 1) (mjLn h) by rw [e21]; exact vp_in_nI (by omega) (by omega)) (And.intro (fun b => ?_) (fun b => ?_))))
            · exact sno (fun z => b (show u.2.2.1 h (x2 + Int32.ofInt 1).toNatClampNeg = (Int8.ofInt 45).toInt32 by rw [cp1, er]; exact z.2))
            · have b : (σ.2.2.1 h) (p + 1) = 45 := by
                have := Decidable.of_not_not b
                rw [show u.2.2.1 h (x2 + Int32.ofInt 1).toNatClampNeg = σ.2.2.1 h (p + 1) by rw [cp1, er]] at this; exact this
              have hS : lnS (σ.2.2.1 h) p q = true := decide_eq_true ⟨a, b⟩
              refine mjZ_y rfl rfl 3 _ _ _ _ tu ?_
              refine (And.intro (Nat.le_of_ble_eq_true rfl) ?_)
              refine mjZ_y rfl rfl 2 _ _ _ _ tu ?_
              refine And.intro (fun m => ?_) (fun m => ?_)
              · exact absurd (show (1 : Int32) = 0 from m) (by decide)
              · refine mjZ_y rfl rfl 1 _ _ _ _ tu ?_
                refine s81 _ _ ?_ (by rw [if_pos hS]; rfl) (by rw [if_pos hS]; omega)
                rw [if_pos hS, e21]; exact nI_1 (p + 1)
        refine go _ ty' ?_
        rw [← i4]
      · exact absurd (show ¬ (1 : Int32) = 0 by decide) r
end LINE
