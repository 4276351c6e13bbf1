/-! The constructor's end; a new object. -/
section START
variable {Y : Nat → MethodName × ByteArray} {d : Nat}
/-- all rows made, nothing set but two fields -/
def Z0 : mjS := (fun k => if k = f_burning then -1 else if k = f_up then 1 else 0, fun _ => 0, fun _ _ => 0, fun _ _ => 0)
theorem Z0_ty : mjTY Z0 := by
  refine ⟨fun k hk => ?_, fun h j _ => rfl, fun h j _ => Or.inl rfl⟩
  show (if k = f_burning then (-1 : Int32) else if k = f_up then 1 else 0) = 0 ∨ (if k = f_burning then (-1 : Int32) else if k = f_up then 1 else 0) = 1
  by_cases c : k = f_burning
  · subst c; exact absurd hk (by decide)
  · rw [if_neg c]
    by_cases c2 : k = f_up
    · rw [if_pos c2]; exact Or.inr rfl
    · rw [if_neg c2]; exact Or.inl rfl
set_option maxRecDepth 100000 in
theorem c_in_open (K : mjK) : ∀ (j c : Nat) (σ : mjS) (x1 : Int32), x1 = nI c → c + j = 4 → mjTY σ → (∀ i, i < c → σ.2.2.1 r_opened i = 1) → (∀ u x1, mjTY u → Fr [] [r_opened] σ u → (∀ i, i < 4 → u.2.2.1 r_opened i = 1) → mjY mjPP (mjQQ Y) d 1 424 [some (.ref 0), some (.int x1)] [] u K) →
    mjY mjPP (mjQQ Y) d 1 414 [some (.ref 0), some (.int x1)] [] σ K := by
  intro j
  induction j with
  | zero =>
    intro c σ x1 e1 hc ty h hK
    refine mjZ_y rfl rfl 3 _ _ _ _ ty ?_
    refine And.intro (fun q => ?_) (fun q => ?_)
    · exact hK σ _ ty Fr.rf (fun i hi => h i (by omega))
    · exact absurd (show Int32.ofInt 4 ≤ x1 by rw [e1]; exact nI_le (a := 4) (by omega) (by omega)) q
  | succ j ih =>
    intro c σ x1 e1 hc ty h hK
    have c1 : x1.toNatClampNeg = c := by rw [e1]; exact nI_clamp (by omega)
    refine mjZ_y rfl rfl 3 _ _ _ _ ty ?_
    refine And.intro (fun q => ?_) (fun q => ?_)
    · exact absurd (show Int32.ofInt 4 ≤ x1 from q) (by rw [e1]; exact nI_ge (b := 4) (by omega) (by omega))
    refine mjZ_y rfl rfl 7 _ _ _ _ ty ?_
    refine (And.intro rfl (And.intro (Or.inr ⟨rfl, Or.inr rfl⟩) (And.intro (show vp_in x1 4 by rw [e1]; exact vp_in_nI (by omega) (by decide)) (fun ty' => ?_))))
    refine ih (c + 1) _ _ (by rw [e1]; exact nI_1 c) (by omega) ty' (fun i hi => ?_) (fun u x1 tu fu hu => hK u x1 tu ((Fr.a (by decide)).tr fu) hu)
    show mjIu σ.2.2.1 r_opened x1.toNatClampNeg 1 r_opened i = 1
    rw [c1, mjIu_s]
    by_cases z : i = c
    · rw [if_pos z]
    · rw [if_neg z]; exact h i (by omega)
set_option maxRecDepth 100000 in
theorem c_in_next (K : mjK) : ∀ (j c : Nat) (σ : mjS) (x1 : Int32), x1 = nI c → c + j = 10000 → mjTY σ → (∀ i, i < c → σ.2.2.1 r_eNext i = nI (i + 1)) → (∀ u x1, mjTY u → Fr [] [r_eNext] σ u → (∀ i, i < 10000 → u.2.2.1 r_eNext i = nI (i + 1)) → mjY mjPP (mjQQ Y) d 1 438 [some (.ref 0), some (.int x1)] [] u K) →
    mjY mjPP (mjQQ Y) d 1 426 [some (.ref 0), some (.int x1)] [] σ K := by
  intro j
  induction j with
  | zero =>
    intro c σ x1 e1 hc ty h hK
    refine mjZ_y rfl rfl 3 _ _ _ _ ty ?_
    refine And.intro (fun q => ?_) (fun q => ?_)
    · exact hK σ _ ty Fr.rf (fun i hi => h i (by omega))
    · exact absurd (show (Int16.ofInt 10000).toInt32 ≤ x1 by rw [e1]; exact nI_le (a := 10000) (by omega) (by omega)) q
  | succ j ih =>
    intro c σ x1 e1 hc ty h hK
    have c1 : x1.toNatClampNeg = c := by rw [e1]; exact nI_clamp (by omega)
    have i1 : x1 + Int32.ofInt 1 = nI (c + 1) := by rw [e1]; exact nI_1 c
    refine mjZ_y rfl rfl 3 _ _ _ _ ty ?_
    refine And.intro (fun q => ?_) (fun q => ?_)
    · exact absurd (show (Int16.ofInt 10000).toInt32 ≤ x1 from q) (by rw [e1]; exact nI_ge (b := 10000) (by omega) (by omega))
    refine mjZ_y rfl rfl 9 _ _ _ _ ty ?_
    refine (And.intro rfl (And.intro rfl (And.intro (show vp_in x1 10000 by rw [e1]; exact vp_in_nI (by omega) (by decide)) (fun ty' => ?_))))
    refine ih (c + 1) _ _ i1 (by omega) ty' (fun i hi => ?_) (fun u x1 tu fu hu => hK u x1 tu ((Fr.a (by decide)).tr fu) hu)
    show mjIu σ.2.2.1 r_eNext x1.toNatClampNeg (x1 + Int32.ofInt 1) r_eNext i = _
    rw [c1, i1, mjIu_s]
    by_cases z : i = c
    · rw [if_pos z, z]
    · rw [if_neg z]; exact h i (by omega)
set_option maxRecDepth 100000 in
theorem c_in_free (K : mjK) : ∀ (j c : Nat) (σ : mjS) (x1 : Int32), x1 = nI c → c + j = 4700 → mjTY σ → (∀ i, i < c → σ.2.2.1 r_kFree i = nI i) → (∀ u x1, mjTY u → Fr [] [r_kFree] σ u → (∀ i, i < 4700 → u.2.2.1 r_kFree i = nI i) → mjY mjPP (mjQQ Y) d 1 455 [some (.ref 0), some (.int x1)] [] u K) →
    mjY mjPP (mjQQ Y) d 1 445 [some (.ref 0), some (.int x1)] [] σ K := by
  intro j
  induction j with
  | zero =>
    intro c σ x1 e1 hc ty h hK
    refine mjZ_y rfl rfl 3 _ _ _ _ ty ?_
    refine And.intro (fun q => ?_) (fun q => ?_)
    · exact hK σ _ ty Fr.rf (fun i hi => h i (by omega))
    · exact absurd (show (Int16.ofInt 4700).toInt32 ≤ x1 by rw [e1]; exact nI_le (a := 4700) (by omega) (by omega)) q
  | succ j ih =>
    intro c σ x1 e1 hc ty h hK
    have c1 : x1.toNatClampNeg = c := by rw [e1]; exact nI_clamp (by omega)
    refine mjZ_y rfl rfl 3 _ _ _ _ ty ?_
    refine And.intro (fun q => ?_) (fun q => ?_)
    · exact absurd (show (Int16.ofInt 4700).toInt32 ≤ x1 from q) (by rw [e1]; exact nI_ge (b := 4700) (by omega) (by omega))
    refine mjZ_y rfl rfl 7 _ _ _ _ ty ?_
    refine (And.intro rfl (And.intro rfl (And.intro (show vp_in x1 4700 by rw [e1]; exact vp_in_nI (by omega) (by decide)) (fun ty' => ?_))))
    refine ih (c + 1) _ _ (by rw [e1]; exact nI_1 c) (by omega) ty' (fun i hi => ?_) (fun u x1 tu fu hu => hK u x1 tu ((Fr.a (by decide)).tr fu) hu)
    show mjIu σ.2.2.1 r_kFree x1.toNatClampNeg x1 r_kFree i = _
    rw [c1, e1, mjIu_s]
    by_cases z : i = c
    · rw [if_pos z, z]
    · rw [if_neg z]; exact h i (by omega)
/-- a new object -/
def INI (u : mjS) : Prop := (∀ k, k ≠ f_burning → k ≠ f_up → k ≠ f_defined → k ≠ f_kFrees → u.1 k = 0) ∧ (u.1 f_burning = -1 ∧ u.1 f_up = 1 ∧ u.1 f_kFrees = nI 4700) ∧ u.2.1 f_now0 = 0 ∧ TB u ∧ (∀ i, i < 4 → u.2.2.1 r_opened i = 1) ∧ (∀ i, i < 9999 → u.2.2.1 r_eNext i = nI (i + 1)) ∧ u.2.2.1 r_eNext 9999 = -1 ∧ (∀ i, i < 4700 → u.2.2.1 r_kFree i = nI i) ∧ ∀ h, h ∉ tbH ++ [r_opened, r_eNext, r_kFree] → ∀ i, u.2.2.1 h i = 0
theorem seg_rng {u : mjS} (h1 : ∀ i, i < 9999 → u.2.2.1 r_eNext i = nI (i + 1)) (h2 : u.2.2.1 r_eNext 9999 = -1) : ∀ (n e : Nat), e + n = 10000 → FSEG u (List.range' e n) := by
  intro n
  induction n with
  | zero => intro e _; exact trivial
  | succ n ih =>
    intro e he
    refine ⟨?_, ih (e + 1) (by omega)⟩
    cases n with
    | zero =>
      have : e = 9999 := by omega
      subst this; exact h2
    | succ n => rw [h1 e (by omega)]; rfl
theorem GI_0 {u : mjS} (h : INI u) : GI u 10240 := by
  obtain ⟨z, ⟨b1, b2, b3⟩, z2, tb, o1, e1, e2, k1, zr⟩ := h
  have f0 : ∀ k, k ≠ f_burning → k ≠ f_up → k ≠ f_defined → k ≠ f_kFrees → u.1 k = nI 0 := fun k a b c d => z k a b c d
  have r0 : ∀ h, h ∉ tbH ++ [r_opened, r_eNext, r_kFree] → ∀ i, u.2.2.1 h i = nI 0 := fun h hh i => zr h hh i
  have ga : ∀ h, h ∉ tbH ++ [r_opened, r_eNext, r_kFree] → ∀ i, GA u h i := fun h hh i => ⟨0, Nat.zero_le _, r0 h hh i⟩
  have rk : List.range' 0 4700 = List.range 4700 := List.range_eq_range'.symm
  have hks : KS u 0 [] (List.range' 0 4700) (List.range' 0 10000) := by
    refine ⟨f0 _ (by decide) (by decide) (by decide) (by decide), Nat.zero_le _, f0 _ (by decide) (by decide) (by decide) (by decide), fun i x hx => (by simp at hx), fun x hx => (by cases hx), ?_, fun i k hk => ?_, ?_, fun k hk => ?_, ?_, ?_, fun e he => ?_, ?_, ?_, ?_, fun e _ => ⟨ga _ (by decide) e, ga _ (by decide) e⟩, fun k _ => ⟨ga _ (by decide) k, ga _ (by decide) k⟩⟩
    · rw [List.length_range']; exact b3
    · have hl : i < 4700 := by have := (List.getElem?_eq_some_iff.mp hk).1; rw [List.length_range'] at this; exact this
      rw [List.getElem?_range' hl] at hk
      have : 0 + 1 * i = k := Option.some.inj hk
      rw [k1 i hl]; exact congrArg nI (by omega)
    · exact List.nodup_range'
    · have := List.mem_range'_1.mp (show k ∈ List.range' 0 4700 from hk); omega
    · show (List.range' 0 4700).length = _; rw [List.length_range']
    · exact List.nodup_range'
    · have := List.mem_range'_1.mp (show e ∈ List.range' 0 10000 from he); omega
    · show (List.range' 0 10000).length = _; rw [List.length_range']
    · show u.1 f_eFree = nI 0
      exact f0 _ (by decide) (by decide) (by decide) (by decide)
    · exact seg_rng e1 e2 10000 0 rfl
  have hW : Wd u [] [] [] := by
    refine ⟨⟨0, _, _, hks⟩, ⟨f0 _ (by decide) (by decide) (by decide) (by decide), Nat.zero_le _, fun i w hw => (by simp at hw)⟩, ⟨f0 _ (by decide) (by decide) (by decide) (by decide), Nat.zero_le _, rfl⟩, ⟨⟨0, Nat.zero_le _, f0 _ (by decide) (by decide) (by decide) (by decide)⟩, trivial⟩, fun c hc => ⟨0, Nat.zero_le _, r0 _ (by decide) c, fun w hw => absurd hw (Nat.not_lt_zero w)⟩⟩
  have hX : CX u 0 0 0 (fun _ => 0) (fun _ => []) := by
    refine ⟨fun c hc => ⟨⟨r0 _ (by decide) c, Nat.zero_le _, fun _ => rfl⟩, ⟨0, Nat.zero_le _, r0 _ (by decide) c⟩, ⟨r0 _ (by decide) c, Nat.zero_le _, fun k q hq => (by simp at hq)⟩, 0, Nat.zero_le _, r0 _ (by decide) c, fun i hi => absurd hi (Nat.not_lt_zero i)⟩, ⟨f0 _ (by decide) (by decide) (by decide) (by decide), Nat.zero_le _⟩, ⟨f0 _ (by decide) (by decide) (by decide) (by decide), Nat.zero_le _⟩, f0 _ (by decide) (by decide) (by decide) (by decide), Nat.zero_le _⟩
  have hH : HI u (strip []) 10240 := ⟨[], ⟨f0 _ (by decide) (by decide) (by decide) (by decide), Nat.zero_le _, rfl⟩, rfl, LI_nil 10240 (Nat.le_refl _), by show 0 + (0 + 50 * 10240) ≤ _; omega⟩
  refine ⟨[], [], [], 0, 0, 0, fun _ => 0, fun _ => [], 10240, 0, hW, hX, ⟨tb, z _ (by decide) (by decide) (by decide) (by decide), z _ (by decide) (by decide) (by decide) (by decide), by rw [z2]; exact Int64.le_refl _, Or.inl b1, fun k q hq => (by cases hq)⟩, ⟨f0 _ (by decide) (by decide) (by decide) (by decide), by show 10240 + 0 + 0 + 0 ≤ _; omega⟩, Or.inl ⟨by rw [b2]; decide, hH⟩, by show 0 + 3 * (10240 + 0 + 0) ≤ _; omega, by show 0 + (10240 + 0 + 0) ≤ _; omega, by show 0 + (10240 + 0 + 0) ≤ _; omega⟩
set_option maxRecDepth 100000 in
/-- from the call of names1 on -/
theorem c_init_tail : mjY mjPP (mjQQ Y) (d + 2) 1 410 [some (.ref 0), none] [] Z0 (fun r u => r = none ∧ INI u) := by
  have t0 : TBk Z0 0 := ⟨rfl, fun i h1 h2 => absurd h1 (by omega)⟩
  refine mjZ_y rfl rfl 2 _ _ _ _ Z0_ty ?_
  refine (And.intro (Nat.le_of_ble_eq_true rfl) (And.intro rfl (And.intro (Nat.le_of_ble_eq_true rfl) (And.intro (Nat.le_of_ble_eq_true rfl) (mjY_mono Z0_ty (fun q_ u1 ty1 h_ => ?_) (c_names1 (d := d) Z0_ty t0))))))
  obtain ⟨rfl, f1, h1⟩ := h_
  intro _
  refine mjZ_y rfl rfl 2 _ _ _ _ ty1 ?_
  refine (And.intro (Nat.le_of_ble_eq_true rfl) ?_)
  refine c_in_open _ 4 0 u1 _ rfl rfl ty1 (fun i hi => absurd hi (Nat.not_lt_zero i)) (fun u2 x2 ty2 f2 h2 => ?_)
  refine mjZ_y rfl rfl 2 _ _ _ _ ty2 ?_
  refine (And.intro (Nat.le_of_ble_eq_true rfl) ?_)
  refine c_in_next _ 10000 0 u2 _ rfl rfl ty2 (fun i hi => absurd hi (Nat.not_lt_zero i)) (fun u3 x3 ty3 f3 h3 => ?_)
  refine mjZ_y rfl rfl 7 _ _ _ _ ty3 ?_
  refine (And.intro rfl (And.intro rfl (And.intro (by unfold vp_in; decide) (fun ty3' => (And.intro (Nat.le_of_ble_eq_true rfl) ?_)))))
  have go : ∀ u4 : mjS, mjTY u4 → Fr [] [r_eNext] u3 u4 → u4.2.2.1 r_eNext = upd (u3.2.2.1 r_eNext) 9999 (-1) → mjY mjPP (mjQQ Y) (d + 2) 1 445 [some (.ref 0), some (.int (Int32.ofInt 0))] [] u4 (fun r u => r = none ∧ INI u) := by
    intro u4 ty4 f4 e4
    refine c_in_free _ 4700 0 u4 _ rfl rfl ty4 (fun i hi => absurd hi (Nat.not_lt_zero i)) (fun u5 x5 ty5 f5 h5 => ?_)
    refine mjZ_y rfl rfl 4 _ _ _ _ ty5 ?_
    refine (And.intro rfl (And.intro (Or.inl rfl) (fun ty5' => And.intro rfl (And.intro rfl ?_))))
    refine ⟨rfl, ?_⟩
    have fin : ∀ u : mjS, Fr [f_kFrees] [] u5 u → u.1 f_kFrees = nI 4700 → INI u := by
      intro u fu eu
      have g1 : Fr [f_defined, f_kFrees] (tbH ++ [r_opened, r_eNext, r_kFree]) Z0 u1 := f1.up (by decide) (by decide)
      have g2 : Fr [f_defined, f_kFrees] (tbH ++ [r_opened, r_eNext, r_kFree]) u1 u2 := f2.up (by decide) (by decide)
      have g3 : Fr [f_defined, f_kFrees] (tbH ++ [r_opened, r_eNext, r_kFree]) u2 u3 := f3.up (by decide) (by decide)
      have g4 : Fr [f_defined, f_kFrees] (tbH ++ [r_opened, r_eNext, r_kFree]) u3 u4 := f4.up (by decide) (by decide)
      have g5 : Fr [f_defined, f_kFrees] (tbH ++ [r_opened, r_eNext, r_kFree]) u4 u5 := f5.up (by decide) (by decide)
      have g6 : Fr [f_defined, f_kFrees] (tbH ++ [r_opened, r_eNext, r_kFree]) u5 u := fu.up (by decide) (by decide)
      have fa := ((((g1.tr g2).tr g3).tr g4).tr g5).tr g6
      have k2u : Fr [f_kFrees] [r_opened, r_eNext, r_kFree] u1 u := ((((f2.up (by decide) (by decide)).tr (f3.up (by decide) (by decide))).tr (f4.up (by decide) (by decide))).tr (f5.up (by decide) (by decide))).tr (fu.up (by decide) (by decide))
      have tb1 : TB u1 := fun i a b => h1.2 i a b
      refine ⟨fun k a b c e => ?_, ⟨?_, ?_, eu⟩, ?_, tb1.fr k2u (by decide), fun i hi => ?_, fun i hi => ?_, ?_, fun i hi => ?_, fun g hg i => ?_⟩
      · rw [fa.1 k (fun y => by
          rcases List.mem_cons.mp y with y | y
          · exact c y
          · exact e (List.mem_singleton.mp y))]
        show (if k = f_burning then (-1 : Int32) else if k = f_up then 1 else 0) = 0
        rw [if_neg a, if_neg b]
      · rw [fa.1 _ (by decide)]; rfl
      · rw [fa.1 _ (by decide)]; rfl
      · rw [fa.2.1 _ (by decide)]; rfl
      · rw [(fu.2.2 _ (by decide)).1, (f5.2.2 _ (by decide)).1, (f4.2.2 _ (by decide)).1, (f3.2.2 _ (by decide)).1]; exact h2 i hi
      · rw [(fu.2.2 _ (by decide)).1, (f5.2.2 _ (by decide)).1, e4, pk_un (by omega)]; exact h3 i (by omega)
      · rw [(fu.2.2 _ (by decide)).1, (f5.2.2 _ (by decide)).1, e4]; exact pk_us (f := u3.2.2.1 r_eNext) (k := 9999) (x := -1)
      · rw [(fu.2.2 _ (by decide)).1]; exact h5 i hi
      · rw [(fa.2.2 g hg).1]; rfl
    exact fin _ (Fr.i (by decide)) (pk_us (f := u5.1) (k := f_kFrees) (x := nI 4700))
  refine go _ ty3' (Fr.a (by decide)) ?_
  show mjIu u3.2.2.1 r_eNext _ _ r_eNext = _
  rw [mjIu_self]; rfl
end START
