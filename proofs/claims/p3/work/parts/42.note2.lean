section NOTE2
variable {Y : Nat → MethodName × ByteArray} {d : Nat} {σ : mjS}
/-- a word as the log has it -/
def wordL (w : List Int32) : List Int32 := 36 :: dec (lN w.length) ++ [13, 10] ++ w ++ [13, 10]
theorem decN_len : ∀ f m, (decN f m).length ≤ f + 1 := by
  intro f
  induction f with
  | zero => intro m; exact Nat.le_refl _
  | succ f ih =>
    intro m
    show (if m < 10 then [nI (48 + m)] else decN f (m / 10) ++ [nI (48 + m % 10)]).length ≤ _
    by_cases c : m < 10
    · rw [if_pos c]; show 1 ≤ _; omega
    · rw [if_neg c, List.length_append]; have := ih (m / 10); show _ + 1 ≤ _; omega
theorem dec_len (v : Int64) : (dec v).length ≤ 21 := by
  unfold dec
  rw [List.length_append]
  have h := decN_len 19 (mg v)
  by_cases c : v < 0
  · rw [if_pos c]; show 1 + _ ≤ _; omega
  · rw [if_neg c]; show 0 + _ ≤ _; omega
theorem wordL_len (w : List Int32) : (wordL w).length ≤ w.length + 26 := by
  unfold wordL
  have h := dec_len (lN w.length)
  simp only [List.length_append, List.length_cons, List.length_nil]
  omega
set_option maxRecDepth 100000 in
theorem c_noteWord_loop (K : mjK) (h a n : Nat) (hh : mjKd h = 1) (hne : h ≠ r_pending) (ha : a + n ≤ mjLn h) (hlh : mjLn h < 2 ^ 30) (S : Nat → Int32) (l : List Int32) (hl : l.length + n + 2 ≤ 420000) : ∀ (j k : Nat) (σ : mjS) (x : Int32), x = nI k → k + j = n → mjTY σ → σ.2.2.1 h = S → pnd σ (l ++ wd S a k) →
    (∀ u, mjTY u → Fr [f_pendingSize] [r_pending] σ u → pnd u (l ++ wd S a n ++ [13, 10]) → K none u) → mjY mjPP (mjQQ Y) (d + 1) 44 7 [some (.ref 0), some (.ref h), some (.int (nI a)), some (.int (nI n)), some (.int x)] [] σ K := by
  intro j
  induction j with
  | zero =>
    intro k σ x ex hk ty ed hp hK
    have ek : k = n := by omega
    subst ek
    refine mjZ_y rfl rfl 10 _ _ _ _ ty ?_
    refine And.intro (fun _ => ?_) (fun c => absurd (show nI k ≤ x by rw [ex]; exact nI_le (Nat.le_refl _) (by omega)) c)
    have hlen : (l ++ wd S a k).length = l.length + k := by rw [List.length_append, wd_len]
    refine And.intro (Nat.le_of_ble_eq_true rfl) (And.intro rfl (And.intro (Nat.le_of_ble_eq_true rfl) (And.intro (Nat.le_of_ble_eq_true rfl) (mjY_mono ty (fun v u1 ty1 h1 => ?_) (c_note (d := d) ty hp (by omega) _)))))
    obtain ⟨rfl, f1, p1⟩ := h1
    intro _
    refine And.intro (Nat.le_of_ble_eq_true rfl) (And.intro rfl (And.intro (Nat.le_of_ble_eq_true rfl) (And.intro (Nat.le_of_ble_eq_true rfl) (mjY_mono ty1 (fun v u2 ty2 h2 => ?_) (c_note (d := d) ty1 p1 (by rw [List.length_append]; show (l ++ wd S a k).length + 1 < _; omega) _)))))
    obtain ⟨rfl, f2, p2⟩ := h2
    intro _
    refine And.intro rfl (And.intro rfl (hK u2 ty2 (f1.tr f2) ?_))
    rw [List.append_assoc _ [_] [_]] at p2
    exact p2
  | succ j ih =>
    intro k σ x ex hk ty ed hp hK
    refine mjZ_y rfl rfl 12 _ _ _ _ ty ?_
    refine And.intro (fun c => absurd (show nI n ≤ x from c) (by rw [ex]; exact nI_ge (by omega) (by omega))) (fun _ => ?_)
    have hlen : (l ++ wd S a k).length = l.length + k := by rw [List.length_append, wd_len]
    refine And.intro (Or.inl hh) (And.intro (by rw [ex, nI_add]; exact vp_in_nI (by omega) (by omega)) ?_)
    refine And.intro (Nat.le_of_ble_eq_true rfl) (And.intro rfl (And.intro (Nat.le_of_ble_eq_true rfl) (And.intro (Nat.le_of_ble_eq_true rfl) (mjY_mono ty (fun v u1 ty1 h1 => ?_) (c_note (d := d) ty hp (by omega) _)))))
    obtain ⟨rfl, f1, p1⟩ := h1
    intro _
    refine ih (k + 1) u1 _ (by rw [ex]; exact nI_1 k) (by omega) ty1 (by rw [(f1.2.2 h (by simpa using hne)).1]; exact ed) ?_ (fun u tu fu pu => hK u tu (f1.tr fu) pu)
    have p1 : pnd u1 (l ++ wd S a k ++ [(σ.2.2.1 h (nI a + x).toNatClampNeg).toInt8.toInt32]) := p1
    rw [ty.2.1 h _ hh, ex, nI_add, nI_clamp (by omega), ed, List.append_assoc] at p1
    rw [wd_snoc]; exact p1
set_option maxRecDepth 100000 in
theorem c_noteWord (ty : mjTY σ) {l : List Int32} (hp : pnd σ l) (h a n : Nat) (hh : mjKd h = 1) (hne : h ≠ r_pending) (hnd : h ≠ r_digits) (ha : a + n ≤ mjLn h) (hlh : mjLn h < 2 ^ 30) (hl : l.length + n + 26 ≤ 420000) : mjY mjPP (mjQQ Y) (d + 2) 44 0 (mjL0 5 [.ref 0, .ref h, .int (nI a), .int (nI n)]) [] σ (fun r u => r = none ∧ Fr nF nH σ u ∧ pnd u (l ++ wordL (wd (σ.2.2.1 h) a n))) := by
  refine mjZ_y rfl rfl 7 _ _ _ _ ty ?_
  refine And.intro (Nat.le_of_ble_eq_true rfl) (And.intro rfl (And.intro (Nat.le_of_ble_eq_true rfl) (And.intro (Nat.le_of_ble_eq_true rfl) (mjY_mono ty (fun r u1 ty1 h1 => ?_) (c_noteNumber (d := d) ty hp (by omega) (Int8.ofInt 36).toInt32 (by decide) (nI n).toInt64)))))
  obtain ⟨rfl, f1, p1⟩ := h1
  rw [nI_l (by omega), show (Int8.ofInt 36).toInt32 = 36 by decide] at p1
  intro _
  refine And.intro (Nat.le_of_ble_eq_true rfl) ?_
  have eS : u1.2.2.1 h = σ.2.2.1 h := (f1.2.2 h (by simp only [List.mem_cons, List.not_mem_nil, or_false, not_or]; exact ⟨hne, hnd⟩)).1
  have hd := dec_len (lN n)
  have hll : (l ++ (36 :: dec (lN n) ++ [13, 10])).length ≤ l.length + 24 := by
    simp only [List.length_append, List.length_cons, List.length_nil]; omega
  refine c_noteWord_loop _ h a n hh hne ha hlh (σ.2.2.1 h) (l ++ (36 :: dec (lN n) ++ [13, 10])) (by omega) n 0 u1 _ rfl (by omega) ty1 eS (by rw [wd_0, List.append_nil]; exact p1) (fun u tu fu pu => ⟨rfl, f1.tr (fu.up (by decide) (by decide)), ?_⟩)
  unfold wordL
  rw [wd_len]
  simpa [List.append_assoc] using pu
set_option maxRecDepth 100000 in
theorem c_noteInteger_loop (K : mjK) (v : Int64) (D : Nat → Int32) (n : Nat) (hn : n ≤ 20) : ∀ (j k : Nat) (σ : mjS) (x : Int32), x = nI k → k + j = n → mjTY σ → σ.1 f_digitsSize = nI n → σ.2.2.1 r_digits = D → wd (σ.2.2.1 r_spelt) 0 k = wd D 0 k →
    (∀ u, mjTY u → Fr [] [r_spelt] σ u → wd (u.2.2.1 r_spelt) 0 n = wd D 0 n → mjY mjPP (mjQQ Y) d 46 19 [some (.ref 0), some (.long v), none, some (.int (nI n))] [] u K) → mjY mjPP (mjQQ Y) d 46 5 [some (.ref 0), some (.long v), none, some (.int x)] [] σ K := by
  intro j
  induction j with
  | zero =>
    intro k σ x ex hk ty ez ed hp hK
    have ek : k = n := by omega
    subst ek; subst ex
    refine mjZ_y rfl rfl 4 _ _ _ _ ty ?_
    exact And.intro rfl (And.intro (fun _ => hK σ ty Fr.rf hp) (fun c => absurd (show σ.1 f_digitsSize ≤ nI k by rw [ez]; exact nI_le (Nat.le_refl _) (by omega)) c))
  | succ j ih =>
    intro k σ x ex hk ty ez ed hp hK
    refine mjZ_y rfl rfl 14 _ _ _ _ ty ?_
    refine And.intro rfl (And.intro (fun c => absurd (show σ.1 f_digitsSize ≤ x from c) (by rw [ez, ex]; exact nI_ge (by omega) (by omega))) (fun _ => ?_))
    refine And.intro rfl (And.intro rfl (And.intro (Or.inl rfl) (And.intro (by rw [ex]; exact vp_in_nI (by show k < 24; omega) (by decide)) (And.intro (Or.inl ⟨rfl, ty.2.1 r_digits _ rfl⟩) (And.intro (by rw [ex]; exact vp_in_nI (by show k < 32; omega) (by decide)) (fun ty1 => ?_))))))
    refine ih (k + 1) _ _ (by rw [ex]; exact nI_1 k) (by omega) ty1 ez ?_ ?_ (fun u tu fu pu => hK u tu ((Fr.a (by decide)).tr fu) pu)
    · rw [← ed]
      exact ((Fr.a (fs := []) (hs := [r_spelt]) (σ := σ) (h := r_spelt) (i := x.toNatClampNeg) (v := σ.2.2.1 r_digits x.toNatClampNeg) (by decide)).2.2 r_digits (by decide)).1
    · show wd (mjIu σ.2.2.1 r_spelt x.toNatClampNeg (σ.2.2.1 r_digits x.toNatClampNeg) r_spelt) 0 (k + 1) = _
      rw [ex, nI_clamp (by omega), wd_iu, hp, ed, wd_snoc, Nat.zero_add]
set_option maxRecDepth 100000 in
theorem c_noteInteger (ty : mjTY σ) {l : List Int32} (hp : pnd σ l) (v : Int64) (hl : l.length + 46 ≤ 420000) : mjY mjPP (mjQQ Y) (d + 3) 46 0 (mjL0 4 [.ref 0, .long v]) [] σ (fun r u => r = none ∧ Fr nF (r_spelt :: nH) σ u ∧ pnd u (l ++ wordL (dec v))) := by
  refine mjZ_y rfl rfl 5 _ _ _ _ ty ?_
  refine And.intro (Nat.le_of_ble_eq_true rfl) (And.intro rfl (And.intro (Nat.le_of_ble_eq_true rfl) (And.intro (Nat.le_of_ble_eq_true rfl) (mjY_mono ty (fun r u1 ty1 h1 => ?_) (c_spell (d := d + 2) ty v)))))
  obtain ⟨rfl, f1, sp⟩ := h1
  intro _
  obtain ⟨e1, e2, e3⟩ := spelt_dec sp
  refine And.intro (Nat.le_of_ble_eq_true rfl) ?_
  refine c_noteInteger_loop _ v (u1.2.2.1 r_digits) (dec v).length e2 (dec v).length 0 u1 _ rfl (by omega) ty1 e1 rfl rfl (fun u2 ty2 f2 w2 => ?_)
  have hp2 : pnd u2 l := pnd_fr (pnd_fr hp f1 (by decide) (by decide)) f2 (by decide) (by decide)
  refine mjZ_y rfl rfl 8 _ _ _ _ ty2 ?_
  have ez : u2.1 f_digitsSize = nI (dec v).length := by rw [f2.1 f_digitsSize (by decide)]; exact e1
  refine And.intro rfl (And.intro rfl ?_)
  have hc := c_noteWord (Y := Y) (d := d) ty2 hp2 r_spelt 0 (dec v).length rfl (by decide) (by decide) (by show 0 + _ ≤ 32; omega) (by decide) (by omega)
  rw [← ez] at hc
  refine And.intro (Nat.le_of_ble_eq_true rfl) (And.intro rfl (And.intro (Nat.le_of_ble_eq_true rfl) (And.intro (Nat.le_of_ble_eq_true rfl) (mjY_mono ty2 (fun r u3 ty3 h3 => ?_) hc))))
  obtain ⟨rfl, f3, p3⟩ := h3
  intro _
  refine And.intro rfl (And.intro rfl (And.intro rfl (And.intro (((f1.up (by decide) (by decide)).tr (f2.up (by decide) (by decide))).tr (f3.up (by decide) (by decide))) ?_)))
  rw [w2, e3] at p3
  exact p3
end NOTE2
