/-! noteName and what stands on it. -/
/-- a byte of a long, from a place on -/
def lb (w : Int64) (s : Nat) : Int32 := (w >>> ((nI s).toInt64 &&& 63)).toInt32.toInt8.toInt32
/-- the bytes of a long that aren't 0, the highest first -/
def nm8 (w : Int64) : Nat → List Int32
  | 0 => []
  | j + 1 => (if lb w (8 * j) = 0 then [] else [lb w (8 * j)]) ++ nm8 w j
theorem nm8_len (w : Int64) : ∀ j, (nm8 w j).length ≤ j := by
  intro j
  induction j with
  | zero => exact Nat.le_refl _
  | succ j ih =>
    show ((if lb w (8 * j) = 0 then [] else [lb w (8 * j)]) ++ nm8 w j).length ≤ _
    rw [List.length_append]
    by_cases c : lb w (8 * j) = 0
    · rw [if_pos c]; show 0 + _ ≤ _; omega
    · rw [if_neg c]; show 1 + _ ≤ _; omega
section NAME
variable {Y : Nat → MethodName × ByteArray} {d : Nat} {σ : mjS}
set_option maxRecDepth 100000 in
theorem c_noteName_a (K : mjK) (i : Nat) (hi : i < 128) (w : Int64) : ∀ (j : Nat) (l : List Int32) (σ : mjS) (x : Int32), x = nI (8 * j) - 8 → mjTY σ → j ≤ 8 → l.length + j ≤ 16 → σ.2.2.2 r_nameA i = w → wd (σ.2.2.1 r_spelt) 0 l.length = l →
    (∀ u y, mjTY u → Fr [] [r_spelt] σ u → wd (u.2.2.1 r_spelt) 0 (l ++ nm8 w j).length = l ++ nm8 w j → mjY mjPP (mjQQ Y) d 45 26 [some (.ref 0), some (.int (nI i)), some (.int (nI (l ++ nm8 w j).length)), some (.int y)] [] u K) → mjY mjPP (mjQQ Y) d 45 4 [some (.ref 0), some (.int (nI i)), some (.int (nI l.length)), some (.int x)] [] σ K := by
  intro j
  induction j with
  | zero =>
    intro l σ x ex ty hj hl ew hp hK
    rw [show nm8 w 0 = [] from rfl, List.append_nil] at hK
    refine mjZ_y rfl rfl 2 _ _ _ _ ty ?_
    exact And.intro (fun _ => hK σ x ty Fr.rf hp) (fun c => absurd (show x < 0 by rw [ex]; decide) c)
  | succ j ih =>
    intro l σ x ex ty hj hl ew hp hK
    have e8 : x = nI (8 * j) := by
      rw [ex, show (8 : Int32) = nI 8 from rfl, pk_sub (by omega)]; exact congrArg nI (by omega)
    have e9 : x + Int32.ofInt (-8) = nI (8 * j) - 8 := by
      rw [e8, show Int32.ofInt (-8) = -8 by decide, Int32.sub_eq_add_neg]
    have cl : (nI l.length).toNatClampNeg = l.length := nI_clamp (by omega)
    have eb : (σ.2.2.2 r_nameA (nI i).toNatClampNeg >>> (x.toInt64 &&& 63)).toInt32.toInt8.toInt32 = lb w (8 * j) := by
      rw [nI_clamp (by omega), ew, e8]; rfl
    have vi : vp_in (nI l.length) 32 := vp_in_nI (by omega) (by decide)
    refine mjZ_y rfl rfl 19 _ _ _ _ ty ?_
    refine And.intro (fun c => absurd c (by rw [e8]; exact nI_pos (by omega))) (fun _ => ?_)
    refine And.intro rfl (And.intro rfl (And.intro rfl (And.intro (vp_in_nI (by show i < 128; exact hi) (by decide)) ?_)))
    refine And.intro (Or.inl ⟨rfl, b8 _⟩) (And.intro vi (fun ty1 => ?_))
    refine And.intro rfl (And.intro (Or.inl rfl) (And.intro vi ?_))
    have ev : mjIu σ.2.2.1 r_spelt (nI l.length).toNatClampNeg (σ.2.2.2 r_nameA (nI i).toNatClampNeg >>> (x.toInt64 &&& 63)).toInt32.toInt8.toInt32 r_spelt (nI l.length).toNatClampNeg = lb w (8 * j) := by
      rw [mjIu_at, if_pos ⟨rfl, rfl⟩]; exact eb
    have en : nm8 w (j + 1) = (if lb w (8 * j) = 0 then [] else [lb w (8 * j)]) ++ nm8 w j := rfl
    refine And.intro (fun c => ?_) (fun c => ?_)
    · have c : mjIu σ.2.2.1 r_spelt (nI l.length).toNatClampNeg (σ.2.2.2 r_nameA (nI i).toNatClampNeg >>> (x.toInt64 &&& 63)).toInt32.toInt8.toInt32 r_spelt (nI l.length).toNatClampNeg = 0 := c
      rw [ev] at c
      rw [en, if_pos c, List.nil_append] at hK
      refine mjZ_re rfl rfl 2 ty1 ?_
      refine ih l _ _ e9 ty1 (by omega) (by omega) ew ?_ (fun u y tu fu pu => hK u y tu ((Fr.a (by decide)).tr fu) pu)
      refine Eq.trans (wd_congr fun k hk => ?_) hp
      show mjIu σ.2.2.1 r_spelt (nI l.length).toNatClampNeg _ r_spelt (0 + k) = _
      rw [mjIu_at, cl, if_neg (fun q => by omega)]
    · have c : ¬ mjIu σ.2.2.1 r_spelt (nI l.length).toNatClampNeg (σ.2.2.2 r_nameA (nI i).toNatClampNeg >>> (x.toInt64 &&& 63)).toInt32.toInt8.toInt32 r_spelt (nI l.length).toNatClampNeg = 0 := c
      rw [ev] at c
      rw [en, if_neg c, ← List.append_assoc] at hK
      refine mjZ_re rfl rfl 3 ty1 ?_
      have hl2 : (l ++ [lb w (8 * j)]).length = l.length + 1 := by rw [List.length_append]; rfl
      have key := ih (l ++ [lb w (8 * j)]) _ _ e9 ty1 (by omega) (by omega) ew ?_ (fun u y tu fu pu => hK u y tu ((Fr.a (by decide)).tr fu) pu)
      · rw [hl2, ← nI_1] at key; exact key
      · rw [hl2]
        show wd (mjIu σ.2.2.1 r_spelt (nI l.length).toNatClampNeg _ r_spelt) 0 (l.length + 1) = _
        rw [cl, wd_iu, hp]; exact congrArg (fun t => l ++ [t]) eb
set_option maxRecDepth 100000 in
theorem c_noteName_b (K : mjK) (i : Nat) (hi : i < 128) (w : Int64) : ∀ (j : Nat) (l : List Int32) (σ : mjS) (x : Int32), x = nI (8 * j) - 8 → mjTY σ → j ≤ 8 → l.length + j ≤ 16 → σ.2.2.2 r_nameB i = w → wd (σ.2.2.1 r_spelt) 0 l.length = l →
    (∀ u y, mjTY u → Fr [] [r_spelt] σ u → wd (u.2.2.1 r_spelt) 0 (l ++ nm8 w j).length = l ++ nm8 w j → mjY mjPP (mjQQ Y) d 45 50 [some (.ref 0), some (.int (nI i)), some (.int (nI (l ++ nm8 w j).length)), some (.int y)] [] u K) → mjY mjPP (mjQQ Y) d 45 28 [some (.ref 0), some (.int (nI i)), some (.int (nI l.length)), some (.int x)] [] σ K := by
  intro j
  induction j with
  | zero =>
    intro l σ x ex ty hj hl ew hp hK
    rw [show nm8 w 0 = [] from rfl, List.append_nil] at hK
    refine mjZ_y rfl rfl 2 _ _ _ _ ty ?_
    exact And.intro (fun _ => hK σ x ty Fr.rf hp) (fun c => absurd (show x < 0 by rw [ex]; decide) c)
  | succ j ih =>
    intro l σ x ex ty hj hl ew hp hK
    have e8 : x = nI (8 * j) := by
      rw [ex, show (8 : Int32) = nI 8 from rfl, pk_sub (by omega)]; exact congrArg nI (by omega)
    have e9 : x + Int32.ofInt (-8) = nI (8 * j) - 8 := by
      rw [e8, show Int32.ofInt (-8) = -8 by decide, Int32.sub_eq_add_neg]
    have cl : (nI l.length).toNatClampNeg = l.length := nI_clamp (by omega)
    have eb : (σ.2.2.2 r_nameB (nI i).toNatClampNeg >>> (x.toInt64 &&& 63)).toInt32.toInt8.toInt32 = lb w (8 * j) := by
      rw [nI_clamp (by omega), ew, e8]; rfl
    have vi : vp_in (nI l.length) 32 := vp_in_nI (by omega) (by decide)
    refine mjZ_y rfl rfl 19 _ _ _ _ ty ?_
    refine And.intro (fun c => absurd c (by rw [e8]; exact nI_pos (by omega))) (fun _ => ?_)
    refine And.intro rfl (And.intro rfl (And.intro rfl (And.intro (vp_in_nI (by show i < 128; exact hi) (by decide)) ?_)))
    refine And.intro (Or.inl ⟨rfl, b8 _⟩) (And.intro vi (fun ty1 => ?_))
    refine And.intro rfl (And.intro (Or.inl rfl) (And.intro vi ?_))
    have ev : mjIu σ.2.2.1 r_spelt (nI l.length).toNatClampNeg (σ.2.2.2 r_nameB (nI i).toNatClampNeg >>> (x.toInt64 &&& 63)).toInt32.toInt8.toInt32 r_spelt (nI l.length).toNatClampNeg = lb w (8 * j) := by
      rw [mjIu_at, if_pos ⟨rfl, rfl⟩]; exact eb
    have en : nm8 w (j + 1) = (if lb w (8 * j) = 0 then [] else [lb w (8 * j)]) ++ nm8 w j := rfl
    refine And.intro (fun c => ?_) (fun c => ?_)
    · have c : mjIu σ.2.2.1 r_spelt (nI l.length).toNatClampNeg (σ.2.2.2 r_nameB (nI i).toNatClampNeg >>> (x.toInt64 &&& 63)).toInt32.toInt8.toInt32 r_spelt (nI l.length).toNatClampNeg = 0 := c
      rw [ev] at c
      rw [en, if_pos c, List.nil_append] at hK
      refine mjZ_re rfl rfl 2 ty1 ?_
      refine ih l _ _ e9 ty1 (by omega) (by omega) ew ?_ (fun u y tu fu pu => hK u y tu ((Fr.a (by decide)).tr fu) pu)
      refine Eq.trans (wd_congr fun k hk => ?_) hp
      show mjIu σ.2.2.1 r_spelt (nI l.length).toNatClampNeg _ r_spelt (0 + k) = _
      rw [mjIu_at, cl, if_neg (fun q => by omega)]
    · have c : ¬ mjIu σ.2.2.1 r_spelt (nI l.length).toNatClampNeg (σ.2.2.2 r_nameB (nI i).toNatClampNeg >>> (x.toInt64 &&& 63)).toInt32.toInt8.toInt32 r_spelt (nI l.length).toNatClampNeg = 0 := c
      rw [ev] at c
      rw [en, if_neg c, ← List.append_assoc] at hK
      refine mjZ_re rfl rfl 3 ty1 ?_
      have hl2 : (l ++ [lb w (8 * j)]).length = l.length + 1 := by rw [List.length_append]; rfl
      have key := ih (l ++ [lb w (8 * j)]) _ _ e9 ty1 (by omega) (by omega) ew ?_ (fun u y tu fu pu => hK u y tu ((Fr.a (by decide)).tr fu) pu)
      · rw [hl2, ← nI_1] at key; exact key
      · rw [hl2]
        show wd (mjIu σ.2.2.1 r_spelt (nI l.length).toNatClampNeg _ r_spelt) 0 (l.length + 1) = _
        rw [cl, wd_iu, hp]; exact congrArg (fun t => l ++ [t]) eb
/-- a command's name -/
def nmOf (σ : mjS) (i : Nat) : List Int32 := nm8 (σ.2.2.2 r_nameA i) 8 ++ nm8 (σ.2.2.2 r_nameB i) 8
theorem nmOf_len (i : Nat) : (nmOf σ i).length ≤ 16 := by
  unfold nmOf; rw [List.length_append]
  have := nm8_len (σ.2.2.2 r_nameA i) 8; have := nm8_len (σ.2.2.2 r_nameB i) 8; omega
set_option maxRecDepth 100000 in
theorem c_noteName (ty : mjTY σ) {l : List Int32} (hp : pnd σ l) (i : Nat) (hi : i < 128) (hl : l.length + 42 ≤ 420000) : mjY mjPP (mjQQ Y) (d + 3) 45 0 (mjL0 4 [.ref 0, .int (nI i)]) [] σ (fun r u => r = none ∧ Fr nF (r_spelt :: nH) σ u ∧ pnd u (l ++ wordL (nmOf σ i))) := by
  refine mjZ_y rfl rfl 4 _ _ _ _ ty ?_
  refine And.intro (Nat.le_of_ble_eq_true rfl) (And.intro (Nat.le_of_ble_eq_true rfl) ?_)
  refine c_noteName_a _ i hi (σ.2.2.2 r_nameA i) 8 [] σ _ (by decide) ty (by omega) (by decide) rfl rfl (fun u1 y ty1 f1 w1 => ?_)
  rw [List.nil_append] at w1 ⊢
  have hA := nm8_len (σ.2.2.2 r_nameA i) 8
  have eB : u1.2.2.2 r_nameB i = σ.2.2.2 r_nameB i := by rw [(f1.2.2 r_nameB (by decide)).2]
  refine mjZ_y rfl rfl 2 _ _ _ _ ty1 ?_
  refine And.intro (Nat.le_of_ble_eq_true rfl) ?_
  refine c_noteName_b _ i hi (σ.2.2.2 r_nameB i) 8 (nm8 (σ.2.2.2 r_nameA i) 8) u1 _ (by decide) ty1 (by omega) (by omega) eB w1 (fun u2 y2 ty2 f2 w2 => ?_)
  have hp2 : pnd u2 l := pnd_fr (pnd_fr hp f1 (by decide) (by decide)) f2 (by decide) (by decide)
  have hN := nmOf_len (σ := σ) i
  refine mjZ_y rfl rfl 7 _ _ _ _ ty2 ?_
  refine And.intro rfl ?_
  refine And.intro (Nat.le_of_ble_eq_true rfl) (And.intro rfl (And.intro (Nat.le_of_ble_eq_true rfl) (And.intro (Nat.le_of_ble_eq_true rfl) (mjY_mono ty2 (fun r u3 ty3 h3 => ?_) (c_noteWord (Y := Y) (d := d) ty2 hp2 r_spelt 0 (nmOf σ i).length rfl (by decide) (by decide) (by show 0 + _ ≤ 32; omega) (by decide) (by omega))))))
  obtain ⟨rfl, f3, p3⟩ := h3
  intro _
  refine And.intro rfl (And.intro rfl (And.intro rfl (And.intro (((f1.up (by decide) (by decide)).tr (f2.up (by decide) (by decide))).tr (f3.up (by decide) (by decide))) ?_)))
  have w2 : wd (u2.2.2.1 r_spelt) 0 (nmOf σ i).length = nmOf σ i := w2
  rw [w2] at p3
  exact p3
end NAME
