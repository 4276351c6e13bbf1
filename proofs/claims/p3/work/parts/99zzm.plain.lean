/-! plainAt: a request in its short form; what a parsed request takes. -/
section PLAIN
variable {Y : Nat → MethodName × ByteArray} {d : Nat}
theorem rw_snoc (ws : Req) (w : List Int32) : rw (ws ++ [w]) = rw ws + rw1 w := by
  induction ws with
  | nil => show rw1 w + 0 = 0 + rw1 w; omega
  | cons v r ih => show rw1 v + rw (r ++ [w]) = rw1 v + rw r + rw1 w; rw [ih]; omega
set_option maxRecDepth 100000 in
theorem c_plain_scan (K : mjK) (h p e : Nat) (hh : mjKd h = 1) (he : e ≤ mjLn h) (hl : mjLn h < 2 ^ 29) (hp : p ≤ e) {σ : mjS} (ty : mjTY σ) (x2 x3 : Int32) (e2 : x2 = nI p) (e3 : x3 = nI e) : ∀ (j q : Nat) (x4 : Int32), x4 = nI q → p ≤ q → q ≤ e → q ≤ p + 2048 → q + j = p + 2048 →
    (∀ q x4, x4 = nI q → p ≤ q → q ≤ e → q ≤ p + 2048 → mjY mjPP (mjQQ Y) d 169 23 [some (.ref 0), some (.ref h), some (.int x2), some (.int x3), some (.int x4), none, none, none] [] σ K) →
    mjY mjPP (mjQQ Y) d 169 8 [some (.ref 0), some (.ref h), some (.int x2), some (.int x3), some (.int x4), none, none, none] [] σ K := by
  intro j
  induction j with
  | zero =>
    intro q x4 e4 h1 h2 h3 h4 hK
    refine mjZ_y rfl rfl 3 _ _ _ _ ty ?_
    refine And.intro (fun c => ?_) (fun c => ?_)
    · exact hK q x4 e4 h1 h2 h3
    · refine mjZ_y rfl rfl 5 _ _ _ _ ty ?_
      refine And.intro (fun g => ?_) (fun g => ?_)
      · exact hK q x4 e4 h1 h2 h3
      · refine absurd (show (Int16.ofInt 2048).toInt32 ≤ x4 - x2 from ?_) g
        rw [e4, e2, nI_sub3 h1]; exact nI_le (a := 2048) (by omega) (by omega)
  | succ j ih =>
    intro q x4 e4 h1 h2 h3 h4 hK
    refine mjZ_y rfl rfl 3 _ _ _ _ ty ?_
    refine And.intro (fun c => ?_) (fun c => ?_)
    · exact hK q x4 e4 h1 h2 h3
    · have c : q < e := Nat.lt_of_not_le (fun z => c (show x3 ≤ x4 by rw [e3, e4]; exact nI_le z (by omega)))
      refine mjZ_y rfl rfl 5 _ _ _ _ ty ?_
      refine And.intro (fun g => ?_) (fun g => ?_)
      · exact hK q x4 e4 h1 h2 h3
      · refine mjZ_y rfl rfl 5 _ _ _ _ ty ?_
        refine (And.intro (Or.inl hh) (And.intro (show vp_in x4 (mjLn h) by rw [e4]; exact vp_in_nI (by omega) (by omega)) (And.intro (fun r => ?_) (fun r => ?_))))
        · exact hK q x4 e4 h1 h2 h3
        · refine mjZ_y rfl rfl 2 _ _ _ _ ty ?_
          exact ih (q + 1) _ (by rw [e4]; exact nI_1 q) (by omega) (by omega) (by omega) (by omega) hK
/-- a word's end -/
theorem c_plain_word (K : mjK) (h : Nat) (hh : mjKd h = 1) (hl : mjLn h < 2 ^ 29) {σ : mjS} (ty : mjTY σ) (x2 x3 x4 x5 x7 : Int32) (stop : Nat) (hs : stop ≤ mjLn h) (e5 : x5 = nI stop) : ∀ (j k : Nat) (x6 : Int32), x6 = nI k → k + j = stop →
    (∀ k' x6, x6 = nI k' → k ≤ k' → k' ≤ stop → (k' = stop ∨ (σ.2.2.1 h) k' = 32) → (∀ i, k ≤ i → i < k' → ¬ (σ.2.2.1 h) i = 32) → mjY mjPP (mjQQ Y) d 169 67 [some (.ref 0), some (.ref h), some (.int x2), some (.int x3), some (.int x4), some (.int x5), some (.int x6), some (.int x7)] [] σ K) →
    mjY mjPP (mjQQ Y) d 169 57 [some (.ref 0), some (.ref h), some (.int x2), some (.int x3), some (.int x4), some (.int x5), some (.int x6), some (.int x7)] [] σ K := by
  intro j
  induction j with
  | zero =>
    intro k x6 e6 hk hK
    refine mjZ_y rfl rfl 3 _ _ _ _ ty ?_
    refine And.intro (fun c => ?_) (fun c => ?_)
    · exact hK k x6 e6 (Nat.le_refl _) (by omega) (Or.inl (by omega)) (fun i a b => by omega)
    · exact absurd (show x5 ≤ x6 by rw [e5, e6]; exact nI_le (by omega) (by omega)) c
  | succ j ih =>
    intro k x6 e6 hk hK
    have ck : x6.toNatClampNeg = k := by rw [e6]; exact nI_clamp (by omega)
    refine mjZ_y rfl rfl 3 _ _ _ _ ty ?_
    refine And.intro (fun c => ?_) (fun c => ?_)
    · exact absurd (show x5 ≤ x6 from c) (by rw [e5, e6]; exact nI_ge (by omega) (by omega))
    · refine mjZ_y rfl rfl 5 _ _ _ _ ty ?_
      refine (And.intro (Or.inl hh) (And.intro (show vp_in x6 (mjLn h) by rw [e6]; exact vp_in_nI (by omega) (by omega)) (And.intro (fun g => ?_) (fun g => ?_))))
      · have g : σ.2.2.1 h x6.toNatClampNeg = (Int8.ofInt 32).toInt32 := g
        rw [ck] at g
        exact hK k x6 e6 (Nat.le_refl _) (by omega) (Or.inr g) (fun i a b => by omega)
      · have g : ¬ (σ.2.2.1 h) k = 32 := fun z => g (show σ.2.2.1 h x6.toNatClampNeg = (Int8.ofInt 32).toInt32 by rw [ck]; exact z)
        refine mjZ_y rfl rfl 2 _ _ _ _ ty ?_
        refine ih (k + 1) _ (by rw [e6]; exact nI_1 k) (by omega) (fun k' x6 a b c d n => hK k' x6 a (by omega) c d (fun i i1 i2 => ?_))
        by_cases z : i = k
        · rw [z]; exact g
        · exact n i (by omega) i2
abbrev plFs : List Nat := [f_words, f_reqSize, f_faultWord]
/-- what plainAt answers -/
def plK (σ : mjS) (p e : Nat) : mjK := fun r u => Fr plFs awH σ u ∧ ((r = some (.int (-1)) ∧ ∃ ws, AR u ws) ∨ (r = some (.int (-2)) ∧ ∃ ws, AR u ws) ∨ ∃ p' ws, r = some (.int (nI p')) ∧ p < p' ∧ p' ≤ e ∧ AR u ws ∧ p + rw ws ≤ p' ∧ ∀ w ∈ ws, w.length ≤ 2048)
set_option maxRecDepth 100000 in
theorem c_plain_loop (h p e stop : Nat) (hh : mjKd h = 1) (hn1 : h ≠ r_req) (hn2 : h ≠ r_aAt) (hn3 : h ≠ r_aLen) (hl : mjLn h < 2 ^ 29) (hs : stop ≤ mjLn h) (q : Nat) (hq : q < e) (he : e ≤ mjLn h) (hsq : stop ≤ q) (hps : p ≤ stop) (hq2 : q < p + 2048) {σ0 : mjS} (x2 x3 x4 x5 : Int32) (e4 : x4 = nI q) (e5 : x5 = nI stop) : ∀ (j k rs : Nat) (ws : Req) (σ : mjS) (x6 : Int32) (l7 : Option Value), x6 = nI k → p ≤ k → k ≤ stop → 2 * (stop - k) ≤ j → mjTY σ → Fr plFs awH σ0 σ → σ.2.2.1 h = σ0.2.2.1 h → ARr σ rs ws → rs ≤ k - p → (∀ w ∈ ws, w.length ≤ 2048) → (p + rw ws ≤ k ∨ (p + rw ws ≤ k + 1 ∧ (k = stop ∨ (σ.2.2.1 h) k = 32))) →
    mjY mjPP (mjQQ Y) (d + 1) 169 52 [some (.ref 0), some (.ref h), some (.int x2), some (.int x3), some (.int x4), some (.int x5), some (.int x6), l7] [] σ (plK σ0 p e) := by
  intro j
  induction j with
  | zero =>
    intro k rs ws σ x6 l7 e6 h1 h2 h3 ty f0 er ha hr hw hI
    refine mjZ_y rfl rfl 3 _ _ _ _ ty ?_
    refine And.intro (fun c => ?_) (fun c => ?_)
    · refine mjZ_y rfl rfl 4 _ _ _ _ ty ?_
      refine And.intro rfl (And.intro (Or.inl rfl) ?_)
      refine ⟨f0, Or.inr (Or.inr ⟨q + 1, ws, ?_, by omega, by omega, ha.ar, ?_, hw⟩)⟩
      · rw [e4]; exact congrArg (fun z => some (Value.int z)) (nI_1 q)
      · rcases hI with z | z <;> omega
    · exact absurd (show x5 ≤ x6 by rw [e5, e6]; exact nI_le (by omega) (by omega)) c
  | succ j ih =>
    intro k rs ws σ x6 l7 e6 h1 h2 h3 ty f0 er ha hr hw hI
    refine mjZ_y rfl rfl 3 _ _ _ _ ty ?_
    refine And.intro (fun c => ?_) (fun c => ?_)
    · have c : stop ≤ k := Nat.le_of_not_lt (fun z => absurd (show x5 ≤ x6 from c) (by rw [e5, e6]; exact nI_ge z (by omega)))
      refine mjZ_y rfl rfl 4 _ _ _ _ ty ?_
      refine And.intro rfl (And.intro (Or.inl rfl) ?_)
      refine ⟨f0, Or.inr (Or.inr ⟨q + 1, ws, ?_, by omega, by omega, ha.ar, ?_, hw⟩)⟩
      · rw [e4]; exact congrArg (fun z => some (Value.int z)) (nI_1 q)
      · rcases hI with z | z <;> omega
    · have c : k < stop := Nat.lt_of_not_le (fun z => c (show x5 ≤ x6 by rw [e5, e6]; exact nI_le z (by omega)))
      refine mjZ_y rfl rfl 2 _ _ _ _ ty ?_
      refine (And.intro (Nat.le_of_ble_eq_true rfl) ?_)
      refine c_plain_word _ h hh hl ty x2 x3 x4 x5 x6 stop hs e5 (stop - k) k x6 e6 (by omega) (fun k' x6' e6' a1 a2 a3 a4 => ?_)
      refine mjZ_y rfl rfl 3 _ _ _ _ ty ?_
      refine And.intro (fun g => ?_) (fun g => ?_)
      · have g : k' ≤ k := Nat.le_of_not_lt (fun z => absurd (show x6' ≤ x6 from g) (by rw [e6, e6']; exact nI_ge z (by omega)))
        have ek : k' = k := by omega
        subst ek
        refine mjZ_y rfl rfl 2 _ _ _ _ ty ?_
        refine ih (k' + 1) rs ws σ _ _ (by rw [e6']; exact nI_1 k') (by omega) (by omega) (by omega) ty f0 er ha (by omega) hw (Or.inl ?_)
        rcases hI with z | z <;> omega
      · have g : k < k' := Nat.lt_of_not_le (fun z => g (show x6' ≤ x6 by rw [e6, e6']; exact nI_le z (by omega)))
        have hI2 : p + rw ws ≤ k := by
          rcases hI with z | ⟨z1, z2⟩
          · exact z
          · rcases z2 with z2 | z2
            · omega
            · exact absurd z2 (a4 k (Nat.le_refl _) g)
        have ri := rw_ge ws
        have haw := c_addWord (Y := Y) (d := d) ty ha (by omega) h k (k' - k) hh hn1 hn2 hn3 (by omega) (by omega) (by omega)
        have ed : x6' - x6 = nI (k' - k) := by rw [e6, e6', nI_sub3 (by omega)]
        rw [← e6, ← ed] at haw
        refine mjZ_y rfl rfl 7 _ _ _ _ ty ?_
        refine (And.intro (Nat.le_of_ble_eq_true rfl) (And.intro rfl (And.intro (Nat.le_of_ble_eq_true rfl) (And.intro (Nat.le_of_ble_eq_true rfl) (mjY_mono ty (fun q_ u1 ty1 h_ => ?_) (haw))))))
        obtain ⟨rfl, f1, a1⟩ := h_
        intro _
        refine mjZ_y rfl rfl 2 _ _ _ _ ty1 ?_
        have er1 : u1.2.2.1 h = σ.2.2.1 h := (f1.2.2 h (by simp [awH, hn1, hn2, hn3])).1
        have hwl : (wd (σ.2.2.1 h) k (k' - k)).length = k' - k := wd_len _ _ _
        refine ih k' (rs + (k' - k)) (ws ++ [wd (σ.2.2.1 h) k (k' - k)]) u1 _ _ e6' (by omega) a2 (by omega) ty1 (f0.tr (f1.up (by decide) (by decide))) (by rw [er1]; exact er) a1 (by omega) (fun w hw' => ?_) (Or.inr ⟨?_, by rw [er1]; exact a3⟩)
        · rcases List.mem_append.mp hw' with z | z
          · exact hw w z
          · rw [List.mem_singleton.mp z, hwl]; omega
        · rw [rw_snoc]; unfold rw1; rw [hwl, if_neg (by omega)]; omega
set_option maxRecDepth 100000 in
theorem c_plainAt {σ : mjS} (ty : mjTY σ) (h p e : Nat) (hh : mjKd h = 1) (hn1 : h ≠ r_req) (hn2 : h ≠ r_aAt) (hn3 : h ≠ r_aLen) (he : e ≤ mjLn h) (hl : mjLn h < 2 ^ 29) (hp : p < e) {x2 x3 : Int32} (e2 : x2 = nI p) (e3 : x3 = nI e) : mjY mjPP (mjQQ Y) (d + 1) 169 0 (mjL0 8 [.ref 0, .ref h, .int x2, .int x3]) [] σ (plK σ p e) := by
  refine mjZ_y rfl rfl 8 _ _ _ _ ty ?_
  refine (And.intro rfl (And.intro (Or.inl rfl) (fun ty' => (And.intro rfl (And.intro (Or.inl rfl) (fun ty'' => (And.intro (Nat.le_of_ble_eq_true rfl) ?_)))))))
  have go : ∀ u : mjS, mjTY u → u = (upd (upd σ.1 f_words 0) f_reqSize 0, σ.2) → mjY mjPP (mjQQ Y) (d + 1) 169 8 [some (.ref 0), some (.ref h), some (.int x2), some (.int x3), some (.int x2), none, none, none] [] u (plK σ p e) := by
    intro u tu eu
    have fu : Fr plFs awH σ u := by rw [eu]; exact (Fr.i (by decide)).tr (Fr.i (by decide))
    have er : u.2.2.1 h = σ.2.2.1 h := by rw [eu]
    have a0 : ARr u 0 [] := by
      refine ARr_0 (σ := σ) ?_ ?_
      · rw [eu]; show upd (upd σ.1 f_words 0) f_reqSize 0 f_words = _; rw [pk_un (by decide)]; exact pk_us (f := σ.1) (k := f_words) (x := 0)
      · rw [eu]; exact pk_us (f := upd σ.1 f_words 0) (k := f_reqSize) (x := 0)
    refine c_plain_scan _ h p e hh he hl (by omega) tu x2 x3 e2 e3 2048 p x2 e2 (Nat.le_refl _) (by omega) (by omega) rfl (fun q x4 e4 q1 q2 q3 => ?_)
    have i1 : x4 - x2 = nI (q - p) := by rw [e4, e2, nI_sub3 q1]
    refine mjZ_y rfl rfl 5 _ _ _ _ tu ?_
    refine And.intro (fun c => ?_) (fun c => ?_)
    · have c : ¬ q - p = 2048 := fun z => c (show x4 - x2 = (Int16.ofInt 2048).toInt32 by rw [i1, z]; rfl)
      refine mjZ_y rfl rfl 3 _ _ _ _ tu ?_
      refine And.intro (fun g => ?_) (fun g => ?_)
      · have g : q < e := by
          have : ¬ q = e := fun z => g (show x4 = x3 by rw [e4, e3, z])
          omega
        have s50 : ∀ (stop : Nat) (x5 : Int32), x5 = nI stop → p ≤ stop → stop ≤ q → mjY mjPP (mjQQ Y) (d + 1) 169 50 [some (.ref 0), some (.ref h), some (.int x2), some (.int x3), some (.int x4), some (.int x5), none, none] [] u (plK σ p e) := by
          intro stop x5 e5 s1 s2
          refine mjZ_y rfl rfl 2 _ _ _ _ tu ?_
          refine (And.intro (Nat.le_of_ble_eq_true rfl) ?_)
          exact c_plain_loop h p e stop hh hn1 hn2 hn3 hl (by omega) q g he s2 s1 (by omega) x2 x3 x4 x5 e4 e5 (2 * (stop - p)) p 0 [] u _ _ e2 (Nat.le_refl _) s1 (Nat.le_refl _) tu fu er a0 (Nat.zero_le _) (fun w hw => by cases hw) (Or.inl (by show p + 0 ≤ p; omega))
        refine mjZ_y rfl rfl 5 _ _ _ _ tu ?_
        refine (And.intro (Nat.le_of_ble_eq_true rfl) (And.intro (fun k => ?_) (fun k => ?_)))
        · exact s50 q _ e4 q1 (Nat.le_refl _)
        · have k : p < q := Nat.lt_of_not_le (fun z => k (show x4 ≤ x2 by rw [e4, e2]; exact nI_le z (by omega)))
          have i2 : x4 - Int32.ofInt 1 = nI (q - 1) := by rw [e4, show Int32.ofInt 1 = nI 1 from rfl, pk_sub (by omega)]
          refine mjZ_y rfl rfl 7 _ _ _ _ tu ?_
          refine (And.intro (Or.inl hh) (And.intro (show vp_in (x4 - Int32.ofInt 1) (mjLn h) by rw [i2]; exact vp_in_nI (by omega) (by omega)) (And.intro (fun r => ?_) (fun r => ?_))))
          · exact s50 q _ e4 q1 (Nat.le_refl _)
          · refine mjZ_y rfl rfl 1 _ _ _ _ tu ?_
            refine s50 (q - 1) _ ?_ (by omega) (by omega)
            show x4 + Int32.ofInt (-1) = _
            rw [← i2, Int32.sub_eq_add_neg, show -(Int32.ofInt 1) = Int32.ofInt (-1) from by decide]
      · refine mjZ_y rfl rfl 2 _ _ _ _ tu ?_
        refine And.intro rfl (And.intro (Or.inl rfl) ?_)
        exact ⟨fu, Or.inl ⟨rfl, [], a0.ar⟩⟩
    · refine mjZ_y rfl rfl 3 _ _ _ _ tu ?_
      refine (And.intro (Nat.le_of_ble_eq_true rfl) (And.intro rfl (And.intro (Nat.le_of_ble_eq_true rfl) (And.intro (Nat.le_of_ble_eq_true rfl) (mjY_mono tu (fun q_ u1 ty1 h_ => ?_) (c_bad tu _))))))
      obtain ⟨rfl, f1⟩ := h_
      intro _
      refine mjZ_y rfl rfl 1 _ _ _ _ ty1 ?_
      refine And.intro rfl (And.intro (Or.inl rfl) ?_)
      exact ⟨fu.tr (f1.up (by decide) (by decide)), Or.inr (Or.inl ⟨rfl, [], a0.ar.fr f1 (by decide) (by decide) (by decide) (by decide)⟩)⟩
  exact go _ ty'' rfl
/-- the words of a request are bytes -/
theorem AR_b {σ : mjS} {ws : Req} (h : AR σ ws) (ty : mjTY σ) : ∀ w ∈ ws, ∀ x ∈ w, x.toInt8.toInt32 = x := by
  intro w hw x hx
  obtain ⟨i, hi, e⟩ := List.mem_iff_getElem.mp hw
  obtain ⟨a, -, -, -, a4⟩ := h.2.2 i w (by rw [List.getElem?_eq_getElem hi, e])
  rw [← a4] at hx
  unfold wd at hx
  obtain ⟨k, -, rfl⟩ := List.mem_map.mp hx
  exact ty.2.1 r_req _ rfl
theorem swd_rw {b : Nat → Int32} {e : Nat} : ∀ (m p : Nat) (r : Req × Nat), p ≤ e → swdF b e m p = some (some r) → p + rw r.1 ≤ r.2 ∧ r.2 ≤ e ∧ r.1.length = m ∧ ∀ w ∈ r.1, w.length ≤ 16384 := by
  intro m
  induction m with
  | zero => intro p r hp h; unfold swdF at h; cases h; exact ⟨Nat.le_refl _, hp, rfl, fun w hw => by cases hw⟩
  | succ m ih =>
    intro p r hp h
    unfold swdF at h
    by_cases c1 : e ≤ p
    · rw [if_pos c1] at h; cases h
    rw [if_neg c1] at h
    by_cases c2 : ¬ b p = 36
    · rw [if_pos c2] at h; cases h
    rw [if_neg c2] at h
    cases hln : lnF b p e with
    | none => rw [hln] at h; cases h
    | some o =>
      cases o with
      | none => rw [hln] at h; cases h
      | some z =>
        rw [hln, mz_z] at h
        have lz := lnF_le hln
        by_cases c3 : z.1 < 0 ∨ 16384 < z.1
        · rw [if_pos c3] at h; cases h
        rw [if_neg c3] at h
        have m1 : ¬ z.1 < 0 := fun y => c3 (Or.inl y)
        have m2 : ¬ 16384 < z.1 := fun y => c3 (Or.inr y)
        obtain ⟨ez, hz31⟩ := i32_nn m1
        generalize hL : z.1.toNatClampNeg = L at ez hz31 h
        have hL16 : L ≤ 16384 := Nat.le_of_not_lt (fun y => m2 (show nI 16384 < z.1 by rw [ez]; exact Int32.not_le.mp (nI_ge y (by omega))))
        by_cases c4 : (z.2 + L < e ∧ ¬ b (z.2 + L) = 13) ∨ (z.2 + L + 1 < e ∧ ¬ b (z.2 + L + 1) = 10)
        · rw [if_pos c4] at h; cases h
        rw [if_neg c4] at h
        by_cases c5 : e < z.2 + L + 2
        · rw [if_pos c5] at h; cases h
        rw [if_neg c5] at h
        cases hst : swdF b e m (z.2 + L + 2) with
        | none => rw [hst] at h; cases h
        | some o =>
          cases o with
          | none => rw [hst] at h; cases h
          | some y =>
            rw [hst, mz_z] at h
            have h := Option.some.inj (Option.some.inj h)
            obtain ⟨k1, k2, k3, k4⟩ := ih _ y (by omega) hst
            rw [← h]
            have hwl : (wd b z.2 L).length = L := wd_len _ _ _
            refine ⟨?_, k2, by show y.1.length + 1 = m + 1; omega, fun w hw => ?_⟩
            · show p + (rw1 (wd b z.2 L) + rw y.1) ≤ y.2
              unfold rw1; rw [hwl]
              split <;> omega
            · rcases List.mem_cons.mp hw with rfl | hw
              · rw [hwl]; exact hL16
              · exact k4 w hw
theorem star_rw {b : Nat → Int32} {p e : Nat} {r : Req × Nat} (h : starF b p e = some (some r)) : p + rw r.1 ≤ r.2 ∧ p < r.2 ∧ r.2 ≤ e ∧ r.1.length ≤ 1024 ∧ ∀ w ∈ r.1, w.length ≤ 16384 := by
  unfold starF at h
  cases hln : lnF b p e with
  | none => rw [hln] at h; cases h
  | some o =>
    cases o with
    | none => rw [hln] at h; cases h
    | some z =>
      rw [hln, mz_z] at h
      have lz := lnF_le hln
      by_cases c : 1024 < z.1
      · rw [if_pos c] at h; cases h
      · rw [if_neg c] at h
        obtain ⟨k1, k2, k3, k4⟩ := swd_rw _ _ r lz.2 h
        refine ⟨by omega, by omega, k2, ?_, k4⟩
        rw [k3]
        by_cases n : z.1 < 0
        · rw [if_pos n]; exact Nat.zero_le _
        · rw [if_neg n]
          obtain ⟨ez, hz31⟩ := i32_nn n
          exact Nat.le_of_not_lt (fun y => c (show nI 1024 < z.1 by rw [ez]; exact Int32.not_le.mp (nI_ge y (by omega))))
end PLAIN
