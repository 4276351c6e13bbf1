/-! A word comes to the request. -/
section ADDW
variable {Y : Nat → MethodName × ByteArray} {d : Nat} {σ : mjS}
/-- the words of the request, all ahead of a place of its row -/
def ARr (σ : mjS) (rs : Nat) (ws : List (List Int32)) : Prop := σ.1 f_words = nI ws.length ∧ ws.length ≤ 1024 ∧ σ.1 f_reqSize = nI rs ∧ rs ≤ 131200 ∧ ∀ (i : Nat) (w : List Int32), ws[i]? = some w → ∃ a : Nat, σ.2.2.1 r_aAt i = nI a ∧ σ.2.2.1 r_aLen i = nI w.length ∧ a + w.length ≤ rs ∧ wd (σ.2.2.1 r_req) a w.length = w
theorem ARr.ar {rs : Nat} {ws : List (List Int32)} (h : ARr σ rs ws) : AR σ ws := ⟨h.1, h.2.1, fun i w hw => by
  obtain ⟨a, a1, a2, a3, a4⟩ := h.2.2.2.2 i w hw
  exact ⟨a, a1, a2, Nat.le_trans a3 h.2.2.2.1, a4⟩⟩
set_option maxRecDepth 100000 in
theorem c_addWord_loop (K : mjK) (h a n rs : Nat) (hh : mjKd h = 1) (hne : h ≠ r_req) (ha : a + n ≤ mjLn h) (hlh : mjLn h < 2 ^ 30) (hr : rs + n ≤ 131200) (S R0 : Nat → Int32) : ∀ (j k : Nat) (σ : mjS) (x : Int32), x = nI k → k + j = n → mjTY σ → σ.1 f_reqSize = nI rs → σ.2.2.1 h = S → σ.2.2.1 r_req = va_cpy S R0 a rs k →
    (∀ u, mjTY u → Fr [] [r_req] σ u → u.2.2.1 r_req = va_cpy S R0 a rs n → mjY mjPP (mjQQ Y) d 9 32 [some (.ref 0), some (.ref h), some (.int (nI a)), some (.int (nI n)), some (.int (nI n))] [] u K) → mjY mjPP (mjQQ Y) d 9 15 [some (.ref 0), some (.ref h), some (.int (nI a)), some (.int (nI n)), some (.int x)] [] σ K := by
  intro j
  induction j with
  | zero =>
    intro k σ x ex hk ty ez eS eH hK
    have ek : k = n := by omega
    subst ek; subst ex
    refine mjZ_y rfl rfl 3 _ _ _ _ ty ?_
    exact And.intro (fun _ => hK σ ty Fr.rf eH) (fun c => absurd (show nI k ≤ nI k from nI_le (Nat.le_refl _) (by omega)) c)
  | succ j ih =>
    intro k σ x ex hk ty ez eS eH hK
    have i1 : (nI a + x).toNatClampNeg = a + k := by rw [ex, nI_add]; exact nI_clamp (by omega)
    have i2 : (σ.1 f_reqSize + x).toNatClampNeg = rs + k := by rw [ez, ex, nI_add]; exact nI_clamp (by omega)
    refine mjZ_y rfl rfl 17 _ _ _ _ ty ?_
    refine And.intro (fun c => absurd (show nI n ≤ x from c) (by rw [ex]; exact nI_ge (by omega) (by omega))) (fun _ => ?_)
    refine And.intro rfl (And.intro rfl (And.intro (Or.inl hh) (And.intro (by rw [ex, nI_add]; exact vp_in_nI (by omega) (by omega)) (And.intro (Or.inl ⟨rfl, ty.2.1 h _ hh⟩) (And.intro ?_ (fun ty1 => ?_))))))
    · show vp_in (σ.1 f_reqSize + x) 131200
      rw [ez, ex, nI_add]; exact vp_in_nI (by omega) (by omega)
    · refine ih (k + 1) _ _ (by rw [ex]; exact nI_1 k) (by omega) ty1 ez ?_ ?_ (fun u tu fu pu => hK u tu ((Fr.a (by decide)).tr fu) pu)
      · exact (mjIu_ne hne).trans eS
      · show mjIu σ.2.2.1 r_req (σ.1 f_reqSize + x).toNatClampNeg (σ.2.2.1 h (nI a + x).toNatClampNeg) r_req = _
        rw [mjIu_self, i1, i2, eS, eH, cpy_s]
abbrev awF : List Nat := [f_reqSize, f_words]
abbrev awH : List Nat := [r_aAt, r_aLen, r_req]
set_option maxRecDepth 100000 in
theorem c_addWord (ty : mjTY σ) {rs : Nat} {ws : List (List Int32)} (har : ARr σ rs ws) (hws : ws.length < 1024) (h a n : Nat) (hh : mjKd h = 1) (hne : h ≠ r_req) (hnA : h ≠ r_aAt) (hnL : h ≠ r_aLen) (ha : a + n ≤ mjLn h) (hlh : mjLn h < 2 ^ 30) (hr : rs + n ≤ 131200) : mjY mjPP (mjQQ Y) d 9 0 (mjL0 5 [.ref 0, .ref h, .int (nI a), .int (nI n)]) [] σ (fun r u => r = none ∧ Fr awF awH σ u ∧ ARr u (rs + n) (ws ++ [wd (σ.2.2.1 h) a n])) := by
  obtain ⟨e0, h1024, er, hrs, hall⟩ := har
  have vi : vp_in (σ.1 f_words) 1100 := by rw [e0]; exact vp_in_nI (by omega) (by decide)
  have ci : (σ.1 f_words).toNatClampNeg = ws.length := by rw [e0]; exact nI_clamp (by omega)
  refine mjZ_y rfl rfl 15 _ _ _ _ ty ?_
  refine And.intro rfl (And.intro rfl (And.intro rfl (And.intro rfl (And.intro vi (fun ty1 => ?_)))))
  refine And.intro rfl (And.intro rfl (And.intro rfl (And.intro vi (fun ty2 => And.intro (Nat.le_of_ble_eq_true rfl) ?_))))
  refine c_addWord_loop _ h a n rs hh hne ha hlh hr (σ.2.2.1 h) (σ.2.2.1 r_req) n 0 _ _ rfl (by omega) ty2 er ?_ ?_ (fun u1 ty3 f1 e1 => ?_)
  · show mjIu (mjIu σ.2.2.1 r_aAt (σ.1 f_words).toNatClampNeg (σ.1 f_reqSize)) r_aLen (σ.1 f_words).toNatClampNeg (nI n) h = _
    rw [mjIu_ne hnL, mjIu_ne hnA]
  · show mjIu (mjIu σ.2.2.1 r_aAt (σ.1 f_words).toNatClampNeg (σ.1 f_reqSize)) r_aLen (σ.1 f_words).toNatClampNeg (nI n) r_req = _
    rw [mjIu_ne (by decide), mjIu_ne (by decide), cpy_0]
  have g0 : u1.1 f_words = nI ws.length := (f1.1 f_words (by decide)).trans e0
  have gr : u1.1 f_reqSize = nI rs := (f1.1 f_reqSize (by decide)).trans er
  have gA : ∀ j, u1.2.2.1 r_aAt j = if j = ws.length then nI rs else σ.2.2.1 r_aAt j := by
    intro j
    rw [(f1.2.2 r_aAt (by decide)).1]
    show mjIu (mjIu σ.2.2.1 r_aAt (σ.1 f_words).toNatClampNeg (σ.1 f_reqSize)) r_aLen (σ.1 f_words).toNatClampNeg (nI n) r_aAt j = _
    rw [mjIu_ne (by decide), mjIu_at, ci, er]
    by_cases c : j = ws.length
    · rw [if_pos ⟨rfl, c⟩, if_pos c]
    · rw [if_neg (fun q => c q.2), if_neg c]
  have gL : ∀ j, u1.2.2.1 r_aLen j = if j = ws.length then nI n else σ.2.2.1 r_aLen j := by
    intro j
    rw [(f1.2.2 r_aLen (by decide)).1]
    show mjIu (mjIu σ.2.2.1 r_aAt (σ.1 f_words).toNatClampNeg (σ.1 f_reqSize)) r_aLen (σ.1 f_words).toNatClampNeg (nI n) r_aLen j = _
    rw [mjIu_at, ci]
    by_cases c : j = ws.length
    · rw [if_pos ⟨rfl, c⟩, if_pos c]
    · rw [if_neg (fun q => c q.2), if_neg c, mjIu_ne (by decide)]
  refine mjZ_y rfl rfl 13 _ _ _ _ ty3 ?_
  refine And.intro rfl (And.intro rfl (And.intro (Or.inl rfl) (fun ty4 => And.intro rfl (And.intro rfl (And.intro (Or.inl rfl) (fun ty5 => And.intro rfl (And.intro rfl (And.intro rfl (And.intro ?_ ?_))))))))) 
  · exact (((Fr.a (by decide)).tr (Fr.a (by decide))).tr (f1.up (by decide) (by decide))).tr ((Fr.i (by decide)).tr (Fr.i (by decide)))
  · refine ⟨?_, by rw [List.length_append]; exact hws, ?_, hr, ?_⟩
    · show upd (upd u1.1 f_reqSize (u1.1 f_reqSize + nI n)) f_words (upd u1.1 f_reqSize (u1.1 f_reqSize + nI n) f_words + 1) f_words = _
      rw [pk_us, pk_un (by decide), g0, List.length_append]; exact nI_1 _
    · show upd (upd u1.1 f_reqSize (u1.1 f_reqSize + nI n)) f_words (upd u1.1 f_reqSize (u1.1 f_reqSize + nI n) f_words + 1) f_reqSize = _
      rw [pk_un (by decide), pk_us, gr, nI_add]
    · intro i w hi
      by_cases c : i < ws.length
      · rw [List.getElem?_append_left c] at hi
        obtain ⟨b, b1, b2, b3, b4⟩ := hall i w hi
        refine ⟨b, (gA i).trans ((if_neg (by omega)).trans b1), (gL i).trans ((if_neg (by omega)).trans b2), by omega, ?_⟩
        show wd (u1.2.2.1 r_req) b w.length = w
        rw [e1]
        exact Eq.trans (wd_congr fun k hk => cpy_lo (by omega)) b4
      · have hi2 := hi
        rw [List.getElem?_append_right (by omega)] at hi
        have c2 : i = ws.length := by
          have := (List.getElem?_eq_some_iff.mp hi2).1
          rw [List.length_append, List.length_singleton] at this; omega
        rw [c2, Nat.sub_self] at hi
        have ew : w = wd (σ.2.2.1 h) a n := (Option.some.inj hi).symm
        have elw : w.length = n := by rw [ew, wd_len]
        refine ⟨rs, (gA i).trans (if_pos c2), by rw [elw]; exact (gL i).trans (if_pos c2), by omega, ?_⟩
        show wd (u1.2.2.1 r_req) rs w.length = w
        rw [e1, elw, cpy_wd, ew]
end ADDW
