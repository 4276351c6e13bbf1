/-! Bytes that go from row to row. -/
theorem cpy_0 {f g : Nat → Int32} {sp dp : Nat} : va_cpy f g sp dp 0 = g := by
  funext j; unfold va_cpy; rw [if_neg (by omega)]
theorem cpy_s {f g : Nat → Int32} {sp dp k : Nat} : upd (va_cpy f g sp dp k) (dp + k) (f (sp + k)) = va_cpy f g sp dp (k + 1) := by
  funext j
  by_cases c : j = dp + k
  · subst c; rw [pk_us]; unfold va_cpy; rw [if_pos (by omega)]; exact congrArg f (by omega)
  · rw [pk_un c]; unfold va_cpy
    by_cases c2 : dp ≤ j ∧ j < dp + k
    · rw [if_pos c2, if_pos (by omega)]
    · rw [if_neg c2, if_neg (by omega)]
theorem cpy_lo {f g : Nat → Int32} {sp dp n j : Nat} (h : j < dp) : va_cpy f g sp dp n j = g j := by unfold va_cpy; rw [if_neg (by omega)]
theorem cpy_wd {f g : Nat → Int32} {sp dp n : Nat} : wd (va_cpy f g sp dp n) dp n = wd f sp n := wd_congr fun k hk => by
  unfold va_cpy; rw [if_pos (by omega)]; exact congrArg f (by omega)
theorem mjIu_self {a : Nat → Nat → Int32} {h i : Nat} {v : Int32} : mjIu a h i v h = upd (a h) i v := by unfold mjIu; rw [if_pos rfl]
theorem mjIu_ne {a : Nat → Nat → Int32} {h g i : Nat} {v : Int32} (c : g ≠ h) : mjIu a h i v g = a g := by unfold mjIu; rw [if_neg c]
section HOLD
variable {Y : Nat → MethodName × ByteArray} {d : Nat} {σ : mjS}
set_option maxRecDepth 100000 in
theorem c_hold_loop (K : mjK) (h a n hs : Nat) (hh : mjKd h = 1) (hne : h ≠ r_heap) (ha : a + n ≤ mjLn h) (hlh : mjLn h < 2 ^ 30) (hr : hs + n ≤ 300000) (S H0 : Nat → Int32) : ∀ (j k : Nat) (σ : mjS) (x : Int32), x = nI k → k + j = n → mjTY σ → σ.1 f_heapSize = nI hs → σ.2.2.1 h = S → σ.2.2.1 r_heap = va_cpy S H0 a hs k →
    (∀ u, mjTY u → Fr [] [r_heap] σ u → u.2.2.1 r_heap = va_cpy S H0 a hs n → mjY mjPP (mjQQ Y) d 7 19 [some (.ref 0), some (.ref h), some (.int (nI a)), some (.int (nI n)), some (.int (nI n))] [] u K) → mjY mjPP (mjQQ Y) d 7 2 [some (.ref 0), some (.ref h), some (.int (nI a)), some (.int (nI n)), some (.int x)] [] σ K := by
  intro j
  induction j with
  | zero =>
    intro k σ x ex hk ty ez eS eH hK
    have ek : k = n := by omega
    subst ek; subst ex
    refine mjZ_y rfl rfl 3 _ _ _ _ ty ?_
    exact And.intro (fun _ => hK σ ty Fr.rf eH) (fun c => absurd (show nI k ≤ nI k from nI_le (Nat.le_refl _) (by omega)) c)
  | succ j ih =>
    intro k σ x ex hk ty ez eS eH hK
    have i1 : (nI a + x).toNatClampNeg = a + k := by rw [ex, nI_add]; exact nI_clamp (by omega)
    have i2 : (σ.1 f_heapSize + x).toNatClampNeg = hs + k := by rw [ez, ex, nI_add]; exact nI_clamp (by omega)
    refine mjZ_y rfl rfl 17 _ _ _ _ ty ?_
    refine And.intro (fun c => absurd (show nI n ≤ x from c) (by rw [ex]; exact nI_ge (by omega) (by omega))) (fun _ => ?_)
    refine And.intro rfl (And.intro rfl (And.intro (Or.inl hh) (And.intro (by rw [ex, nI_add]; exact vp_in_nI (by omega) (by omega)) (And.intro (Or.inl ⟨rfl, ty.2.1 h _ hh⟩) (And.intro ?_ (fun ty1 => ?_))))))
    · show vp_in (σ.1 f_heapSize + x) 300000
      rw [ez, ex, nI_add]; exact vp_in_nI (by omega) (by omega)
    · refine ih (k + 1) _ _ (by rw [ex]; exact nI_1 k) (by omega) ty1 ez ?_ ?_ (fun u tu fu pu => hK u tu ((Fr.a (by decide)).tr fu) pu)
      · exact (mjIu_ne hne).trans eS
      · show mjIu σ.2.2.1 r_heap (σ.1 f_heapSize + x).toNatClampNeg (σ.2.2.1 h (nI a + x).toNatClampNeg) r_heap = _
        rw [mjIu_self, i1, i2, eS, eH, cpy_s]
set_option maxRecDepth 100000 in
theorem c_hold (ty : mjTY σ) (h a n hs : Nat) (hh : mjKd h = 1) (hne : h ≠ r_heap) (ha : a + n ≤ mjLn h) (hlh : mjLn h < 2 ^ 30) (ez : σ.1 f_heapSize = nI hs) (hr : hs + n ≤ 300000) : mjY mjPP (mjQQ Y) d 7 0 (mjL0 5 [.ref 0, .ref h, .int (nI a), .int (nI n)]) [] σ (fun r u => r = some (.int (nI hs)) ∧ Fr [f_heapSize] [r_heap] σ u ∧ u.1 f_heapSize = nI (hs + n) ∧ u.2.2.1 r_heap = va_cpy (σ.2.2.1 h) (σ.2.2.1 r_heap) a hs n) := by
  refine mjZ_y rfl rfl 2 _ _ _ _ ty ?_
  refine And.intro (Nat.le_of_ble_eq_true rfl) ?_
  refine c_hold_loop _ h a n hs hh hne ha hlh hr (σ.2.2.1 h) (σ.2.2.1 r_heap) n 0 σ _ rfl (by omega) ty ez rfl cpy_0.symm (fun u1 ty1 f1 e1 => ?_)
  have ez1 : u1.1 f_heapSize = nI hs := by rw [f1.1 f_heapSize (by decide)]; exact ez
  refine mjZ_y rfl rfl 11 _ _ _ _ ty1 ?_
  refine And.intro rfl (And.intro rfl (And.intro (Or.inl rfl) (fun ty2 => ?_)))
  have e2 : upd u1.1 f_heapSize (u1.1 f_heapSize + nI n) f_heapSize = nI (hs + n) := by rw [pk_us, ez1, nI_add]
  refine And.intro rfl (And.intro rfl (And.intro (Or.inl rfl) (And.intro ?_ (And.intro ((f1.up (by decide) (by decide)).tr (Fr.i (by decide))) (And.intro e2 e1)))))
  show some (Value.int (upd u1.1 f_heapSize (u1.1 f_heapSize + nI n) f_heapSize - nI n)) = _
  rw [e2, pk_sub (by omega)]; exact congrArg (fun t => some (Value.int (nI t))) (by omega)
end HOLD
