/-! LTRIM, LSET. -/
theorem ewS_set (s : Int32) (E1 : List AE) (z z' : AE) (E2 : List AE) : ewS s (E1 ++ z' :: E2) + ewt s z = ewS s (E1 ++ z :: E2) + ewt s z' := by
  rw [ewS_app, ewS_app]; show _ + (ewt s z' + ewS s E2) + _ = _ + (ewt s z + ewS s E2) + _; omega
theorem stE_set : ∀ (i : Nat) (v : List Int32) (es : List AE) (z : AE), es[i]? = some z → stE i v es = es.set i (v, z.2.1, z.2.2) := by
  intro i
  induction i with
  | zero =>
    intro v es z hz
    cases es with
    | nil => cases hz
    | cons y r => cases hz; rfl
  | succ i ih =>
    intro v es z hz
    cases es with
    | nil => cases hz
    | cons y r => show y :: stE i v r = y :: r.set i _; rw [ih v r z hz]
theorem set_split {α : Type} {es : List α} {i : Nat} {z : α} (z' : α) (h : es[i]? = some z) : ∃ E1 E2, es = E1 ++ z :: E2 ∧ es.set i z' = E1 ++ z' :: E2 ∧ E1.length = i := by
  have hl := (List.getElem?_eq_some_iff.mp h).1
  have hz := (List.getElem?_eq_some_iff.mp h).2
  refine ⟨es.take i, es.drop (i + 1), ?_, ?_, by rw [List.length_take]; omega⟩
  · rw [← hz, ← List.drop_eq_getElem_cons hl, List.take_append_drop]
  · rw [List.set_eq_take_append_cons_drop, if_pos hl]
theorem i32_swap {a b c : Int32} {e : Int32} (h : e + c = a + b) : a + (b - c) = e := by
  rw [Int32.sub_eq_add_neg, ← Int32.add_assoc, ← h, Int32.add_assoc, Int32.add_right_neg, Int32.add_zero]
section KSET
variable {Y : Nat → MethodName × ByteArray} {d : Nat} {σ0 σ u : kS} {B ws nm nm' : List (List Int32)} {ks : List KC}
theorem skA_at (P Q : List KC) (y : KC) : (skA (P ++ y :: Q))[P.length]? = some y.2.2.2.2.2 := by
  rw [skA_app, skA_cons, List.getElem?_append_right (by rw [skA_len]; exact Nat.le_refl _), skA_len, Nat.sub_self]; rfl
theorem mnA_k {P Q : List KC} {y : KC} {v : List Int32} (h : kyI (skA (P ++ y :: Q)) v = some P.length) : mnA (skA (P ++ y :: Q)) v = y.2.2.2.2.2.2.2.2.2.2.length := by
  unfold mnA; rw [h]; show (match (skA (P ++ y :: Q))[P.length]? with | some a => _ | none => _) = _; rw [skA_at]
theorem so_1 {P Q : List KC} {y : KC} {v : List Int32} {s : Nat} (f2 : kyI (skA (P ++ y :: Q)) v = some P.length) (h : ¬ soT (skA (P ++ y :: Q)) v (nI s) = false) : y.2.2.2.2.2.2.1 = nI s := by
  have z := soT_k (s := nI s) f2
  by_cases c4 : y.2.2.2.2.2.2.1 = nI s
  · exact c4
  · rw [decide_eq_false c4] at z; exact absurd z h
theorem kx_trim (ty : kTY σ) (w : KWd σ0 B σ ws nm ks) (hr : RSD ks) (hB : BOK B ws) {j : Nat} (hj : CMD σ j) {v a2 a3 : List Int32} (hv : ws[1]? = some v) (h2 : ws[2]? = some a2) (h3 : ws[3]? = some a3) {o : Option (List AK)} (ho0 : twF a2 a3 = none → o = none) (ho2 : rfZ (σ.1 59 17) ks j v 1 → o = none) (ho3 : ∀ a b, twF a2 a3 = some (a, b) → ¬ rfZ (σ.1 59 17) ks j v 1 → o = trF (skA ks) v a b) :
    kjY kPP (kQQ Y) (d + 8) 199 0 (mjL0 4 [.ref 70]) [] σ (cdP σ0 B σ ws nm ks o) := by
  have hlen := (List.getElem?_eq_some_iff.mp hv).1
  refine kjZ_y rfl rfl 4 _ _ _ _ ty ?_
  refine (And.intro (ty.k (by decide) rfl) (And.intro (Nat.le_of_ble_eq_true rfl) (And.intro (Or.inl ⟨(Nat.le_of_ble_eq_true rfl), (ty.k (by decide) rfl)⟩) (And.intro (Nat.le_of_ble_eq_true rfl) (And.intro (Nat.le_of_ble_eq_true rfl) (kjY_mono ty (fun q_ u0 ty0 xu0 h_ => ?_) (kx_lacksSpan ty w h2 h3 _ rfl)))))))
  obtain ⟨w0, s0, q⟩ := h_
  intro _ _
  have hH := s0.sub scHC
  rcases q with ⟨a, b, q1, rfl, e10, e9⟩ | ⟨q1, rfl⟩
  rotate_left
  · refine kjZ_y rfl rfl 1 _ _ _ _ ty0 ?_
    refine And.intro (fun c => ?_) (fun c => ?_)
    rotate_left
    · exact absurd (show ¬ (1 : Int32) = 0 by decide) c
    refine kjZ_y rfl rfl 1 _ _ _ _ ty0 ?_
    refine And.intro rfl (And.intro rfl ?_)
    exact cd_no PRE.rf w0 hr hH (ho0 q1)
  refine kjZ_y rfl rfl 1 _ _ _ _ ty0 ?_
  refine And.intro (fun c => ?_) (fun c => ?_)
  · exact absurd rfl c
  refine kjZ_y rfl rfl 6 _ _ _ _ ty0 ?_
  refine (And.intro (ty0.k (by decide) rfl) (And.intro (Nat.le_of_ble_eq_true rfl) (And.intro (Or.inl ⟨(Nat.le_of_ble_eq_true rfl), (ty0.k (by decide) rfl)⟩) (And.intro (Nat.le_of_ble_eq_true rfl) (And.intro (Nat.le_of_ble_eq_true rfl) (kjY_mono ty0 (fun q_ u1 ty1 xu1 h_ => ?_) (kx_refuses ty0 w0 hB (hj.sc hH) (a := 1) (b := 1) (by omega) (by omega) (s := 1) (by decide) _ _ _ rfl rfl rfl)))))))
  obtain ⟨nm1, p1, w1, s1, q⟩ := h_
  intro _ _
  rw [rf1 w0 hv, (hH (59, 17) (by decide)).1] at q
  rcases q with ⟨rfl, q⟩ | ⟨rfl, q⟩
  · refine kjZ_y rfl rfl 1 _ _ _ _ ty1 ?_
    refine And.intro (fun c => ?_) (fun c => ?_)
    · exact absurd (show (1 : Int32) = 0 from c) (by decide)
    refine kjZ_y rfl rfl 1 _ _ _ _ ty1 ?_
    refine And.intro rfl (And.intro rfl ?_)
    exact cd_no p1 w1 hr (hH.tr s1.h) (ho2 q)
  have ho := ho3 a b q1 q
  have hso := fun z => q (Or.inr z)
  refine kjZ_y rfl rfl 1 _ _ _ _ ty1 ?_
  refine And.intro (fun c => ?_) (fun c => ?_)
  rotate_left
  · exact absurd rfl c
  refine kjZ_y rfl rfl 4 _ _ _ _ ty1 ?_
  refine (And.intro (ty1.k (by decide) rfl) (And.intro (Nat.le_of_ble_eq_true rfl) (And.intro (Or.inl ⟨(Nat.le_of_ble_eq_true rfl), (ty1.k (by decide) rfl)⟩) (And.intro (Nat.le_of_ble_eq_true rfl) (And.intro (Nat.le_of_ble_eq_true rfl) (kjY_mono ty1 (fun q_ u2 ty2 xu2 h_ => ?_) (kx_id ty1 w1 hB hv _ rfl)))))))
  obtain ⟨k, nm2, rfl, p2, p3, w2, s2⟩ := h_
  intro _ _
  refine kjZ_y rfl rfl 5 _ _ _ _ ty2 ?_
  refine (And.intro (Nat.le_of_ble_eq_true rfl) (And.intro (ty2.k (by decide) rfl) (And.intro (Nat.le_of_ble_eq_true rfl) (And.intro (Or.inl ⟨(Nat.le_of_ble_eq_true rfl), (ty2.k (by decide) rfl)⟩) (And.intro (Nat.le_of_ble_eq_true rfl) (And.intro (Nat.le_of_ble_eq_true rfl) (kjY_mono ty2 (fun q_ u3 ty3 xu3 h_ => ?_) (kx_find ty2 w2 p2 _ rfl))))))))
  obtain ⟨rfl, q3⟩ := h_
  intro _ _
  have sA := s1.tr s2
  have sH := hH.tr sA.h
  have e10 : u3.2.1 53 10 = a := (sA (53, 10) (by decide)).2.1.trans e10
  have e9 : u3.2.1 53 9 = b := (sA (53, 9) (by decide)).2.1.trans e9
  rcases q3 with ⟨rfl, q3⟩ | ⟨P, y, Q, rfl, f0, f1, f2⟩
  · refine kjZ_y rfl rfl 5 _ _ _ _ ty3 ?_
    refine (And.intro (Nat.le_of_ble_eq_true rfl) ?_)
    refine kjZ_y rfl rfl 5 _ _ _ _ ty3 ?_
    refine (And.intro (Nat.le_of_ble_eq_true rfl) (And.intro (ty3.k (by decide) rfl) (And.intro (Nat.le_of_ble_eq_true rfl) (And.intro (Or.inl ⟨(Nat.le_of_ble_eq_true rfl), (ty3.k (by decide) rfl)⟩) (And.intro (Nat.le_of_ble_eq_true rfl) (And.intro (Nat.le_of_ble_eq_true rfl) (kjY_mono ty3 (fun q_ u4 ty4 xu4 h_ => ?_) (kx_cutSpan ty3 w2 (n := 0) (by decide) _ rfl))))))))
    obtain ⟨rfl, w4, s4, -⟩ := h_
    intro _ _
    refine kjZ_y rfl rfl 2 _ _ _ _ ty4 ?_
    refine kjZ_y rfl rfl 3 _ _ _ _ ty4 ?_
    refine (And.intro (ty4.k (by decide) rfl) (And.intro (Nat.le_of_ble_eq_true rfl) (And.intro (Or.inl ⟨(Nat.le_of_ble_eq_true rfl), (ty4.k (by decide) rfl)⟩) (And.intro (Nat.le_of_ble_eq_true rfl) (And.intro (Nat.le_of_ble_eq_true rfl) (kjY_mono ty4 (fun q_ u5 ty5 xu5 h_ => ?_) (kx_accept ty4 w4)))))))
    obtain ⟨rfl, w5, s5⟩ := h_
    intro _ _
    refine kjZ_y rfl rfl 1 _ _ _ _ ty5 ?_
    refine And.intro rfl (And.intro rfl ?_)
    refine cd_no (p1.tr p3) w5 hr ((sH.tr (s4.sub scHD)).tr s5.h) ?_
    rw [ho]; unfold trF; rw [q3]
  · subst f0
    have hs1 : y.2.2.2.2.2.2.1 = 1 := so_1 f2 hso
    obtain ⟨r1, r2⟩ := hr.two
    have hs0 : ¬ y.2.2.2.2.2.2.1 = 0 := by rw [hs1]; decide
    obtain ⟨z1, z2, kv⟩ := w2.sz hs0
    refine kjZ_y rfl rfl 5 _ _ _ _ ty3 ?_
    refine (And.intro (Nat.le_of_ble_eq_true rfl) (And.intro (by assumption) ?_))
    refine kjZ_y rfl rfl 5 _ _ _ _ ty3 ?_
    refine (And.intro (Nat.le_of_ble_eq_true rfl) (And.intro (ty3.k (by decide) rfl) (And.intro (Nat.le_of_ble_eq_true rfl) (And.intro (Or.inl ⟨(Nat.le_of_ble_eq_true rfl), (ty3.k (by decide) rfl)⟩) (And.intro (Nat.le_of_ble_eq_true rfl) (And.intro (Nat.le_of_ble_eq_true rfl) (kjY_mono ty3 (fun q_ u4 ty4 xu4 h_ => ?_) (kx_cutSpan ty3 w2 (n := y.2.2.2.2.2.2.2.2.2.2.length) (by omega) _ z1))))))))
    obtain ⟨rfl, w4, s4, lo, hi, t1, t2, t3, t4, t5⟩ := h_
    intro _ _
    rw [e10, e9] at t5
    have kv4 : (u4.2.2.2.1 y.1).1 = 11 := (w4.sz hs0).2.2
    have sH4 := sH.tr (s4.sub scHD)
    have eo : (hi - lo < y.2.2.2.2.2.2.2.2.2.2.length → ∃ g, o = some (stlA (skA (P ++ y :: Q)) P.length g) ∧ g y.2.2.2.2.2.2.2.2.2.2 = cutL (cutL y.2.2.2.2.2.2.2.2.2.2 hi (y.2.2.2.2.2.2.2.2.2.2.length - hi)) 0 lo) ∧ (¬ hi - lo < y.2.2.2.2.2.2.2.2.2.2.length → o = none) := by
      have e1 : ∀ lo' hi', hi' - lo' = hi - lo → strF a b y.2.2.2.2.2.2.2.2.2.2.length = (lo', hi') → o = if hi - lo < y.2.2.2.2.2.2.2.2.2.2.length then some (stlA (skA (P ++ y :: Q)) P.length (fun es => popE 41 lo' (popE 42 (y.2.2.2.2.2.2.2.2.2.2.length - hi') es))) else none := by
        intro lo' hi' z z2
        rw [ho]; unfold trF; rw [f2, mnA_k f2, z2]
        show (if hi' - lo' < _ then _ else _) = _
        rw [z]
      have ecut : cutL (cutL y.2.2.2.2.2.2.2.2.2.2 hi (y.2.2.2.2.2.2.2.2.2.2.length - hi)) 0 lo = (y.2.2.2.2.2.2.2.2.2.2.take hi).drop lo := by
        unfold cutL
        rw [show hi + (y.2.2.2.2.2.2.2.2.2.2.length - hi) = y.2.2.2.2.2.2.2.2.2.2.length by omega, List.drop_length, List.append_nil, Nat.zero_add]; rfl
      have epop : ∀ lo' hi', hi' ≤ y.2.2.2.2.2.2.2.2.2.2.length → popE 41 lo' (popE 42 (y.2.2.2.2.2.2.2.2.2.2.length - hi') y.2.2.2.2.2.2.2.2.2.2) = (y.2.2.2.2.2.2.2.2.2.2.take hi').drop lo' := by
        intro lo' hi' z
        rw [popE_42, popE_no (by decide), show y.2.2.2.2.2.2.2.2.2.2.length - (y.2.2.2.2.2.2.2.2.2.2.length - hi') = hi' by omega]
      rcases t5 with t5 | ⟨t6, t5⟩
      · have e2 := e1 lo hi rfl t5
        refine ⟨fun z => ⟨_, by rw [e2, if_pos z], ?_⟩, fun z => by rw [e2, if_neg z]⟩
        rw [ecut]; exact epop lo hi t4
      · have e2 := e1 0 0 (by omega) t5
        refine ⟨fun z => ⟨_, by rw [e2, if_pos z], ?_⟩, fun z => by rw [e2, if_neg z]⟩
        rw [ecut, t6]
        show popE 41 0 (popE 42 _ _) = _
        rw [epop 0 0 (Nat.zero_le _), List.take_zero, List.drop_take, Nat.sub_self, List.take_zero]; rfl
    refine kjZ_y rfl rfl 2 _ _ _ _ ty4 ?_
    refine kjZ_y rfl rfl 9 _ _ _ _ ty4 ?_
    refine (And.intro (ty4.k (by decide) rfl) (And.intro (ty4.k (by decide) rfl) (And.intro (ty4.k (by decide) rfl) (And.intro (ty4.k (by decide) rfl) (And.intro (fun c5 => ?_) (fun c5 => ?_))))))
    · have c5 : u3.1 y.1 6 ≤ u4.1 53 12 - u4.1 53 11 := c5
      rw [z1, t1, t2, pk_sub t3, nle (by omega) (by omega)] at c5
      refine kjZ_y rfl rfl 3 _ _ _ _ ty4 ?_
      refine (And.intro (ty4.k (by decide) rfl) (And.intro (Nat.le_of_ble_eq_true rfl) (And.intro (Or.inl ⟨(Nat.le_of_ble_eq_true rfl), (ty4.k (by decide) rfl)⟩) (And.intro (Nat.le_of_ble_eq_true rfl) (And.intro (Nat.le_of_ble_eq_true rfl) (kjY_mono ty4 (fun q_ u5 ty5 xu5 h_ => ?_) (kx_accept ty4 w4)))))))
      obtain ⟨rfl, w5, s5⟩ := h_
      intro _ _
      refine kjZ_y rfl rfl 1 _ _ _ _ ty5 ?_
      refine And.intro rfl (And.intro rfl ?_)
      exact cd_no (p1.tr p3) w5 hr (sH4.tr s5.h) (eo.2 (by omega))
    · have c5 : ¬ u3.1 y.1 6 ≤ u4.1 53 12 - u4.1 53 11 := c5
      rw [z1, t1, t2, pk_sub t3, nle (by omega) (by omega)] at c5
      obtain ⟨g, eo1, eo2⟩ := eo.1 (by omega)
      refine kjZ_y rfl rfl 11 _ _ _ _ ty4 ?_
      refine (And.intro (ty4.k (by decide) rfl) (And.intro (ty4.k (by decide) rfl) (And.intro (ty4.k (by decide) rfl) (And.intro (ty4.k (by decide) rfl) (And.intro (Nat.le_of_ble_eq_true rfl) (And.intro (Or.inl ⟨(Nat.le_of_ble_eq_true rfl), (ty4.k (by decide) rfl)⟩) (And.intro (Nat.le_of_ble_eq_true rfl) (And.intro (Nat.le_of_ble_eq_true rfl) (kjY_mono ty4 (fun q_ u5 ty5 xu5 h_ => ?_) (kx_lrem ty4 w4 hs1 r2.1 (i := hi) (m := y.2.2.2.2.2.2.2.2.2.2.length - hi) (by omega) _ _ t2 (show u3.1 y.1 6 - u4.1 53 12 = _ by rw [z1, t2]; exact pk_sub t4)))))))))))
      obtain ⟨rfl, w5, s5⟩ := h_
      intro _ _
      have kv5 : (u5.2.2.2.1 y.1).1 = 11 := xu5.k ty4 kv4 (by decide)
      have t1' : u5.1 53 11 = nI lo := (s5 (53, 11) (by decide)).1.trans t1
      refine kjZ_y rfl rfl 7 _ _ _ _ ty5 ?_
      refine (And.intro (ty5.k (by decide) rfl) (And.intro (ty5.k (by decide) rfl) (And.intro (Nat.le_of_ble_eq_true rfl) (And.intro (Or.inl ⟨(Nat.le_of_ble_eq_true rfl), (ty5.k (by decide) rfl)⟩) (And.intro (Nat.le_of_ble_eq_true rfl) (And.intro (Nat.le_of_ble_eq_true rfl) (kjY_mono ty5 (fun q_ u6 ty6 xu6 h_ => ?_) (kx_lrem (x := mkK y (esF (fun es => cutL es hi (y.2.2.2.2.2.2.2.2.2.2.length - hi)) y.2.2.2.2.2)) ty5 w5 hs1 (wkO_mk _ _) (i := 0) (m := lo) (by show 0 + lo ≤ (cutL y.2.2.2.2.2.2.2.2.2.2 hi (y.2.2.2.2.2.2.2.2.2.2.length - hi)).length; rw [cutL_len (by omega)]; omega) _ _ rfl t1'))))))))
      obtain ⟨rfl, w6, s6⟩ := h_
      intro _ _
      have kv6 : (u6.2.2.2.1 y.1).1 = 11 := xu6.k ty5 kv5 (by decide)
      have ek : mkK (mkK y (esF (fun es => cutL es hi (y.2.2.2.2.2.2.2.2.2.2.length - hi)) y.2.2.2.2.2)) (esF (fun es => cutL es 0 lo) (mkK y (esF (fun es => cutL es hi (y.2.2.2.2.2.2.2.2.2.2.length - hi)) y.2.2.2.2.2)).2.2.2.2.2) = mkK y (esF g y.2.2.2.2.2) := by
        show mkK y (_, _, _, _, _, cutL (cutL y.2.2.2.2.2.2.2.2.2.2 hi (y.2.2.2.2.2.2.2.2.2.2.length - hi)) 0 lo) = _
        rw [← eo2]; rfl
      rw [ek] at w6
      refine kjZ_y rfl rfl 5 _ _ _ _ ty6 ?_
      refine (And.intro (ty6.k (by decide) rfl) (And.intro (Nat.le_of_ble_eq_true rfl) (And.intro (Or.inl ⟨(Nat.le_of_ble_eq_true rfl), (ty6.k (by decide) rfl)⟩) (And.intro (Nat.le_of_ble_eq_true rfl) (And.intro (Nat.le_of_ble_eq_true rfl) (kjY_mono ty6 (fun q_ u9 ty9 xu9 h_ => ?_) (kx_settle (x := mkK y (esF g y.2.2.2.2.2)) ty6 w6 (k := k) (by show nm2[k]? = some y.2.2.2.2.2.1; rw [f1]; exact p2) _ rfl)))))))
      obtain ⟨q9, q9b⟩ := h_
      intro _ _
      have kv9 : (u9.2.2.2.1 y.1).1 = 11 := xu9.k ty6 kv6 (by decide)
      obtain ⟨sk1, sk2⟩ := stl_k (P := P) (Q := Q) (x := y) g hs0
      obtain ⟨rfl, nmA, ksA, pA, wA, rA, eA, cA, sA⟩ := cd_se (σ := σ) (p1.tr p3) ((sH4.tr (s5.tr s6).h).sub scGH) ⟨q9, q9b⟩ (wkO_mk _ _) r1 sk1 sk2
      refine kjZ_y rfl rfl 3 _ _ _ _ ty9 ?_
      refine (And.intro (ty9.k (by decide) rfl) (And.intro (Nat.le_of_ble_eq_true rfl) (And.intro (Or.inl ⟨(Nat.le_of_ble_eq_true rfl), (ty9.k (by decide) rfl)⟩) (And.intro (Nat.le_of_ble_eq_true rfl) (And.intro (Nat.le_of_ble_eq_true rfl) (kjY_mono ty9 (fun q_ u10 ty10 xu10 h_ => ?_) (kx_accept ty9 wA)))))))
      obtain ⟨rfl, w10, s10⟩ := h_
      intro _ _
      refine kjZ_y rfl rfl 1 _ _ _ _ ty10 ?_
      refine And.intro rfl (And.intro rfl ?_)
      exact cd_ok pA w10 rA eA ((s10 (59, 18) (by decide)).1.trans cA) (sA.tr s10.g) eo1
theorem kx_placeIn (ty : kTY σ) {n : Nat} (hn : n < 2 ^ 30) (x : Int32) (ex : x = nI n) : kjY kPP (kQQ Y) d 109 0 (mjL0 4 [.ref 53, .int x]) [] σ (fun r u => u = σ ∧ ((r = some (.int (-1)) ∧ ¬ ((¬ sI (σ.2.1 53 9) (lN n) < 0) ∧ sI (σ.2.1 53 9) (lN n) < lN n)) ∨ ∃ i, i < n ∧ r = some (.int (nI i)) ∧ sI (σ.2.1 53 9) (lN n) = lN i)) := by
  have en : x.toInt64 = lN n := by rw [ex]; exact nI_64 (by omega)
  have go : ∀ t : Int64, t = sI (σ.2.1 53 9) (lN n) → kjY kPP (kQQ Y) d 109 13 [some (.ref 53), some (.int x), none, none] [.long t] σ (fun r u => u = σ ∧ ((r = some (.int (-1)) ∧ ¬ ((¬ sI (σ.2.1 53 9) (lN n) < 0) ∧ sI (σ.2.1 53 9) (lN n) < lN n)) ∨ ∃ i, i < n ∧ r = some (.int (nI i)) ∧ sI (σ.2.1 53 9) (lN n) = lN i)) := by
    intro t et
    rw [← et]
    refine kjZ_y rfl rfl 5 _ _ _ _ ty ?_
    refine (And.intro (Nat.le_of_ble_eq_true rfl) (And.intro (fun c => ?_) (fun c => ?_)))
    · have c : t < 0 := (lg_cmp_lt _ _).mp c
      refine kjZ_y rfl rfl 3 _ _ _ _ ty ?_
      refine And.intro rfl (And.intro (Or.inl rfl) ?_)
      exact ⟨rfl, Or.inl ⟨rfl, fun z => z.1 c⟩⟩
    · have c : ¬ t < 0 := fun z => c ((lg_cmp_lt _ _).mpr z)
      refine kjZ_y rfl rfl 5 _ _ _ _ ty ?_
      refine And.intro (fun c2 => ?_) (fun c2 => ?_)
      · have c2 : t < x.toInt64 := (lg_cmp_lt _ _).mp c2
        rw [en] at c2
        obtain ⟨i, hi, ei⟩ := pk_lOf c
        have hin : i < n := by
          have z := Int64.lt_iff_toInt_lt.mp c2
          rw [ei, pk_lT hi, pk_lT (by omega)] at z; omega
        refine kjZ_y rfl rfl 3 _ _ _ _ ty ?_
        refine And.intro rfl (And.intro (Or.inl rfl) ?_)
        exact ⟨rfl, Or.inr ⟨i, hin, by rw [ei, lN_32 (by omega)], ei⟩⟩
      · have c2 : ¬ t < x.toInt64 := fun z => c2 ((lg_cmp_lt _ _).mpr z)
        rw [en] at c2
        refine kjZ_y rfl rfl 3 _ _ _ _ ty ?_
        refine And.intro rfl (And.intro (Or.inl rfl) ?_)
        exact ⟨rfl, Or.inl ⟨rfl, fun z => c2 z.2⟩⟩
  refine kjZ_y rfl rfl 5 _ _ _ _ ty ?_
  refine (And.intro (ty.k (by decide) rfl) (And.intro (fun c => ?_) (fun c => ?_)))
  · have c : ¬ σ.2.1 53 9 < 0 := Int64.not_lt.mpr ((lg_cmp_ge _ _).mp c)
    refine kjZ_y rfl rfl 2 _ _ _ _ ty ?_
    refine (And.intro (ty.k (by decide) rfl) ?_)
    exact go _ (by unfold sI; rw [if_neg c])
  · have c : σ.2.1 53 9 < 0 := Int64.not_le.mp (fun z => c ((lg_cmp_ge _ _).mpr z))
    refine kjZ_y rfl rfl 6 _ _ _ _ ty ?_
    refine (And.intro (ty.k (by decide) rfl) ?_)
    exact go _ (by unfold sI; rw [if_pos c, en])
theorem kx_setOne (ty : kTY σ) (w : KWd σ0 B σ ws nm ks) (hr : RSD ks) (hB : BOK B ws) {j : Nat} (hj : CMD σ j) {v a2 a3 : List Int32} (hv : ws[1]? = some v) (h2 : ws[2]? = some a2) (h3 : ws[3]? = some a3) {o : Option (List AK)} (ho0 : intF a2 = none → o = none) (ho2 : rfZ (σ.1 59 17) ks j v 1 → o = none) (ho3 : ∀ a, intF a2 = some a → ¬ rfZ (σ.1 59 17) ks j v 1 → o = lpF (skA ks) v 46 a a3) :
    kjY kPP (kQQ Y) (d + 8) 196 0 (mjL0 5 [.ref 70]) [] σ (cdP σ0 B σ ws nm ks o) := by
  have hlen := (List.getElem?_eq_some_iff.mp hv).1
  refine kjZ_y rfl rfl 4 _ _ _ _ ty ?_
  refine (And.intro (ty.k (by decide) rfl) (And.intro (Nat.le_of_ble_eq_true rfl) (And.intro (Or.inl ⟨(Nat.le_of_ble_eq_true rfl), (ty.k (by decide) rfl)⟩) (And.intro (Nat.le_of_ble_eq_true rfl) (And.intro (Nat.le_of_ble_eq_true rfl) (kjY_mono ty (fun q_ u0 ty0 xu0 h_ => ?_) (kx_lacksInteger ty w h2 _ rfl)))))))
  obtain ⟨w0, s0, q⟩ := h_
  intro _ _
  have hH := s0.sub scHB
  rcases q with ⟨a, q1, rfl, e9⟩ | ⟨q1, rfl⟩
  rotate_left
  · refine kjZ_y rfl rfl 1 _ _ _ _ ty0 ?_
    refine And.intro (fun c => ?_) (fun c => ?_)
    rotate_left
    · exact absurd (show ¬ (1 : Int32) = 0 by decide) c
    refine kjZ_y rfl rfl 1 _ _ _ _ ty0 ?_
    refine And.intro rfl (And.intro rfl ?_)
    exact cd_no PRE.rf w0 hr hH (ho0 q1)
  refine kjZ_y rfl rfl 1 _ _ _ _ ty0 ?_
  refine And.intro (fun c => ?_) (fun c => ?_)
  · exact absurd rfl c
  refine kjZ_y rfl rfl 6 _ _ _ _ ty0 ?_
  refine (And.intro (ty0.k (by decide) rfl) (And.intro (Nat.le_of_ble_eq_true rfl) (And.intro (Or.inl ⟨(Nat.le_of_ble_eq_true rfl), (ty0.k (by decide) rfl)⟩) (And.intro (Nat.le_of_ble_eq_true rfl) (And.intro (Nat.le_of_ble_eq_true rfl) (kjY_mono ty0 (fun q_ u1 ty1 xu1 h_ => ?_) (kx_refuses ty0 w0 hB (hj.sc hH) (a := 1) (b := 1) (by omega) (by omega) (s := 1) (by decide) _ _ _ rfl rfl rfl)))))))
  obtain ⟨nm1, p1, w1, s1, q⟩ := h_
  intro _ _
  rw [rf1 w0 hv, (hH (59, 17) (by decide)).1] at q
  rcases q with ⟨rfl, q⟩ | ⟨rfl, q⟩
  · refine kjZ_y rfl rfl 1 _ _ _ _ ty1 ?_
    refine And.intro (fun c => ?_) (fun c => ?_)
    · exact absurd (show (1 : Int32) = 0 from c) (by decide)
    refine kjZ_y rfl rfl 1 _ _ _ _ ty1 ?_
    refine And.intro rfl (And.intro rfl ?_)
    exact cd_no p1 w1 hr (hH.tr s1.h) (ho2 q)
  have ho := ho3 a q1 q
  have hso := fun z => q (Or.inr z)
  refine kjZ_y rfl rfl 1 _ _ _ _ ty1 ?_
  refine And.intro (fun c => ?_) (fun c => ?_)
  rotate_left
  · exact absurd rfl c
  refine kjZ_y rfl rfl 4 _ _ _ _ ty1 ?_
  refine (And.intro (ty1.k (by decide) rfl) (And.intro (Nat.le_of_ble_eq_true rfl) (And.intro (Or.inl ⟨(Nat.le_of_ble_eq_true rfl), (ty1.k (by decide) rfl)⟩) (And.intro (Nat.le_of_ble_eq_true rfl) (And.intro (Nat.le_of_ble_eq_true rfl) (kjY_mono ty1 (fun q_ u2 ty2 xu2 h_ => ?_) (kx_id ty1 w1 hB hv _ rfl)))))))
  obtain ⟨k, nm2, rfl, p2, p3, w2, s2⟩ := h_
  intro _ _
  refine kjZ_y rfl rfl 5 _ _ _ _ ty2 ?_
  refine (And.intro (Nat.le_of_ble_eq_true rfl) (And.intro (ty2.k (by decide) rfl) (And.intro (Nat.le_of_ble_eq_true rfl) (And.intro (Or.inl ⟨(Nat.le_of_ble_eq_true rfl), (ty2.k (by decide) rfl)⟩) (And.intro (Nat.le_of_ble_eq_true rfl) (And.intro (Nat.le_of_ble_eq_true rfl) (kjY_mono ty2 (fun q_ u3 ty3 xu3 h_ => ?_) (kx_find ty2 w2 p2 _ rfl))))))))
  obtain ⟨rfl, q3⟩ := h_
  intro _ _
  have sA := s1.tr s2
  have sH := hH.tr sA.h
  have e9 : u3.2.1 53 9 = a := (sA (53, 9) (by decide)).2.1.trans e9
  rcases q3 with ⟨rfl, q3⟩ | ⟨P, y, Q, rfl, f0, f1, f2⟩
  · refine kjZ_y rfl rfl 3 _ _ _ _ ty3 ?_
    refine (And.intro (Nat.le_of_ble_eq_true rfl) ?_)
    refine kjZ_y rfl rfl 4 _ _ _ _ ty3 ?_
    refine (And.intro (ty3.k (by decide) rfl) (And.intro rfl (And.intro (Nat.le_of_ble_eq_true rfl) (And.intro (Or.inl ⟨(Nat.le_of_ble_eq_true rfl), (ty3.k (by decide) rfl)⟩) (And.intro (Nat.le_of_ble_eq_true rfl) (And.intro (Nat.le_of_ble_eq_true rfl) (kjY_mono ty3 (fun q_ u4 ty4 xu4 h_ => ?_) (kx_refuse ty3 w2 (by decide)))))))))
    obtain ⟨rfl, w4, s4⟩ := h_
    intro _ _
    refine kjZ_y rfl rfl 1 _ _ _ _ ty4 ?_
    refine And.intro rfl (And.intro rfl ?_)
    refine cd_no (p1.tr p3) w4 hr (sH.tr s4.h) ?_
    rw [ho]; unfold lpF; rw [q3]
  subst f0
  have hs1 : y.2.2.2.2.2.2.1 = 1 := so_1 f2 hso
  obtain ⟨r1, r2⟩ := hr.two
  have hs0 : ¬ y.2.2.2.2.2.2.1 = 0 := by rw [hs1]; decide
  obtain ⟨z1, z2, kv⟩ := w2.sz hs0
  refine kjZ_y rfl rfl 3 _ _ _ _ ty3 ?_
  refine (And.intro (Nat.le_of_ble_eq_true rfl) ?_)
  refine kjZ_y rfl rfl 5 _ _ _ _ ty3 ?_
  refine (And.intro (ty3.k (by decide) rfl) (And.intro (by assumption) (And.intro (Nat.le_of_ble_eq_true rfl) (And.intro (Or.inl ⟨(Nat.le_of_ble_eq_true rfl), (ty3.k (by decide) rfl)⟩) (And.intro (Nat.le_of_ble_eq_true rfl) (And.intro (Nat.le_of_ble_eq_true rfl) (kjY_mono ty3 (fun q_ u4 ty4 xu4 h_ => ?_) (kx_placeIn ty3 (n := y.2.2.2.2.2.2.2.2.2.2.length) (by omega) _ z1))))))))
  obtain ⟨rfl, q4⟩ := h_
  intro _ _
  rw [e9] at q4
  have eo : o = if (46 = 46 ∧ (¬ sI a (lN y.2.2.2.2.2.2.2.2.2.2.length) < 0) ∧ sI a (lN y.2.2.2.2.2.2.2.2.2.2.length) < lN y.2.2.2.2.2.2.2.2.2.2.length) then some (upA (skA (P ++ y :: Q)) P.length (esF (stE (sI a (lN y.2.2.2.2.2.2.2.2.2.2.length)).toInt.toNat a3))) else none := by
    rw [ho]; unfold lpF; rw [f2, mnA_k f2]
  rcases q4 with ⟨rfl, q4⟩ | ⟨i, hi, rfl, q4⟩
  · refine kjZ_y rfl rfl 3 _ _ _ _ ty4 ?_
    refine (And.intro (Nat.le_of_ble_eq_true rfl) (And.intro (fun c => ?_) (fun c => ?_)))
    · exact absurd (show (0 : Int32) ≤ -1 from c) (by decide)
    refine kjZ_y rfl rfl 4 _ _ _ _ ty4 ?_
    refine (And.intro (ty4.k (by decide) rfl) (And.intro rfl (And.intro (Nat.le_of_ble_eq_true rfl) (And.intro (Or.inl ⟨(Nat.le_of_ble_eq_true rfl), (ty4.k (by decide) rfl)⟩) (And.intro (Nat.le_of_ble_eq_true rfl) (And.intro (Nat.le_of_ble_eq_true rfl) (kjY_mono ty4 (fun q_ u5 ty5 xu5 h_ => ?_) (kx_refuse ty4 w2 (by decide)))))))))
    obtain ⟨rfl, w5, s5⟩ := h_
    intro _ _
    refine kjZ_y rfl rfl 1 _ _ _ _ ty5 ?_
    refine And.intro rfl (And.intro rfl ?_)
    exact cd_no (p1.tr p3) w5 hr (sH.tr s5.h) (by rw [eo, if_neg (fun z => q4 z.2)])
  have hi0 : ¬ lN i < 0 := by
    intro z
    have z := Int64.lt_iff_toInt_lt.mp z
    rw [pk_lT (by omega)] at z
    have : (0 : Int64).toInt = 0 := by decide
    omega
  have hi1 : lN i < lN y.2.2.2.2.2.2.2.2.2.2.length := by
    rw [Int64.lt_iff_toInt_lt, pk_lT (by omega), pk_lT (by omega)]; omega
  rw [q4, if_pos ⟨rfl, hi0, hi1⟩, pk_lT (by omega)] at eo
  have eo : o = some (upA (skA (P ++ y :: Q)) P.length (esF (stE i a3))) := eo
  refine kjZ_y rfl rfl 3 _ _ _ _ ty4 ?_
  refine (And.intro (Nat.le_of_ble_eq_true rfl) (And.intro (fun c => ?_) (fun c => ?_)))
  rotate_left
  · exact absurd (show (0 : Int32) ≤ nI i from by rw [show (0 : Int32) = nI 0 from rfl, nle (by decide) (by omega)]; omega) c
  refine kjZ_y rfl rfl 4 _ _ _ _ ty4 ?_
  refine (And.intro (ty4.k (by decide) rfl) (And.intro (Nat.le_of_ble_eq_true rfl) (And.intro (Or.inl ⟨(Nat.le_of_ble_eq_true rfl), (ty4.k (by decide) rfl)⟩) (And.intro (Nat.le_of_ble_eq_true rfl) (And.intro (Nat.le_of_ble_eq_true rfl) (kjY_mono ty4 (fun q_ u5 ty5 xu5 h_ => ?_) (kx_id ty4 w2 hB h3 _ rfl)))))))
  obtain ⟨k5, nm5, rfl, p5, p6, w5, s5⟩ := h_
  intro _ _
  have kv5 : (u5.2.2.2.1 y.1).1 = 11 := xu5.k ty4 kv (by decide)
  obtain ⟨fr, vs, k0, n0, e0, t0, cs0, hR, hV, a1, hav, hd, ht, g6, hn6, g4⟩ := w5.op_
  obtain ⟨b1, b2, b3, b4, b5, b6⟩ := hav
  have b1 : y.2.2.2.2.2.2.1 = nI k0 := b1
  have hk1 : k0 = 1 := by
    rw [hs1] at b1
    exact ((nI_eq (a := 1) (by decide) (by have : k0 ≤ 4 := b2; omega)).mp b1).symm
  subst hk1
  have ht0 := ht (by decide)
  subst ht0
  obtain ⟨q, hq, hid⟩ := b6.2.1 (Or.inl rfl)
  have hq : cs0 = [q] := hq
  subst hq
  have b5 : n0 = y.2.2.2.2.2.2.2.2.2.2.length := b5
  have hnd := hR.nd
  have hzz : y.2.2.2.2.2.2.2.2.2.2[i]? = some y.2.2.2.2.2.2.2.2.2.2[i] := List.getElem?_eq_getElem hi
  generalize y.2.2.2.2.2.2.2.2.2.2[i] = zz at hzz
  refine kjZ_y rfl rfl 8 _ _ _ _ ty5 ?_
  refine (And.intro (Nat.le_of_ble_eq_true rfl) (And.intro (by assumption) (And.intro (ty5.k (by decide) rfl) (And.intro (Nat.le_of_ble_eq_true rfl) (And.intro (Or.inl ⟨(Nat.le_of_ble_eq_true rfl), (ty5.k (by decide) rfl)⟩) (And.intro (Nat.le_of_ble_eq_true rfl) (And.intro (Nat.le_of_ble_eq_true rfl) (kjY_mono ty5 (fun q_ u6 ty6 xu6 h_ => ?_) (k_wlen ty5 w5.2.2.1.1 _)))))))))
  obtain ⟨rfl, yl, rfl, ql⟩ := h_
  intro _ _
  have eyl := ql k5 _ rfl p5
  refine kjZ_y rfl rfl 5 _ _ _ _ ty6 ?_
  refine (And.intro (ty6.k (by decide) rfl) (And.intro (Nat.le_of_ble_eq_true rfl) (And.intro (Or.inl ⟨(Nat.le_of_ble_eq_true rfl), (by assumption)⟩) (And.intro (Nat.le_of_ble_eq_true rfl) (And.intro (Nat.le_of_ble_eq_true rfl) (kjY_mono ty6 (fun q_ u7 ty7 xu7 h_ => ?_) (kx_vat ty6 w5 _)))))))
  obtain ⟨rfl, ya, rfl, qa⟩ := h_
  intro _ _
  obtain ⟨km, ea, ga⟩ := qa (Or.inl hs1) i zz rfl hzz
  refine kjZ_y rfl rfl 1 _ _ _ _ ty7 ?_
  refine (And.intro (Nat.le_of_ble_eq_true rfl) (And.intro (Or.inl ⟨(Nat.le_of_ble_eq_true rfl), (ty7.k (by decide) rfl)⟩) (And.intro (Nat.le_of_ble_eq_true rfl) (And.intro (Nat.le_of_ble_eq_true rfl) (kjY_mono ty7 (fun q_ u8 ty8 xu8 h_ => ?_) (k_wlen ty7 w5.2.2.1.1 _))))))
  obtain ⟨rfl, ym, rfl, qm⟩ := h_
  intro _ _
  have eym := qm km _ ea ga
  refine kjZ_y rfl rfl 3 _ _ _ _ ty8 ?_
  refine (And.intro (by assumption) (And.intro (Or.inl rfl) (fun ty8' => ?_)))
  have go : ∀ z, kTY z → z = (mjIu u8.1 y.1 4 (u8.1 y.1 4 + (yl - ym)), u8.2) → kjY kPP (kQQ Y) (d + 8) 196 64 [some (.ref 70), some (.int (nI k)), some (.ref y.1), some (.int (nI i)), some (.int (nI k5))] [] z (cdP σ0 B σ ws nm (P ++ y :: Q) o) := by
    intro z tz ez
    obtain ⟨m1, m2, m3, m4⟩ := hR.wgt ty8 w5.2.1.1 w5.2.1.2 a1 (u8.1 y.1 4 + (yl - ym))
    rw [← ez] at m1 m2 m3 m4
    have hsl := (List.getElem?_eq_some_iff.mp a1).1
    have kvz : (z.2.2.2.1 y.1).1 = 11 := by rw [ez]; exact kv5
    refine kjZ_y rfl rfl 5 _ _ _ _ tz ?_
    refine (And.intro (Nat.le_of_ble_eq_true rfl) (And.intro (Or.inl ⟨(Nat.le_of_ble_eq_true rfl), (by assumption)⟩) (And.intro (Nat.le_of_ble_eq_true rfl) (And.intro (Nat.le_of_ble_eq_true rfl) (kjY_mono tz (fun q_ u9 ty9 xu9 h_ => ?_) (k_vset tz m2 m3 m1 (s := y.2.2.1) (v := y.1) (k := 1) (n := n0) (w := u8.1 y.1 4 + (yl - ym)) (c := y.2.2.2.2.1) (e := e0) (cs := [q]) (by rw [List.getElem?_set, if_pos rfl, if_pos hsl]) (by decide) (p := 0) (i := i) (q := q) rfl (by omega) _ _ _ rfl rfl))))))
    obtain ⟨rfl, r5, o2, p9, c2⟩ := h_
    intro _ _
    have kv9 : (u9.2.2.2.1 y.1).1 = 11 := xu9.k tz kvz (by decide)
    rw [List.set_set] at r5
    have hne : ¬ (1 : Int32) = 0 := by decide
    have ewt0 : u8.1 y.1 4 + (yl - ym) = nI (wtC (esF (stE i a3) y.2.2.2.2.2)) := by
      rw [g4, r2.1, eyl, eym]
      refine i32_swap ?_
      rw [nI_add, nI_add]
      congr 1
      obtain ⟨E1, E2, g1, g2, -⟩ := set_split (a3, zz.2.1, zz.2.2) hzz
      have e1 : wtC y.2.2.2.2.2 = ewS 1 y.2.2.2.2.2.2.2.2.2.2 := by unfold wtC; rw [hs1, if_neg hne]
      have e2 : wtC (esF (stE i a3) y.2.2.2.2.2) = ewS 1 (stE i a3 y.2.2.2.2.2.2.2.2.2.2) := by
        unfold wtC esF; show (if y.2.2.2.2.2.2.1 = 0 then _ else ewS y.2.2.2.2.2.2.1 _) = _
        rw [hs1, if_neg hne]
      rw [e1, e2, stE_set i a3 _ _ hzz, g2]
      have e3 := ewS_set 1 E1 zz (a3, zz.2.1, zz.2.2) E2
      rw [← g1] at e3
      have e4 : ewt 1 zz = 16 + zz.1.length := rfl
      have e5 : ewt 1 (a3, zz.2.1, zz.2.2) = 16 + a3.length := rfl
      omega
    rw [ewt0] at r5
    obtain ⟨q1, q2⟩ := w5.k0.sto ty8 (Ch.tr ty8 (by decide) (m4.va (by decide) (by decide)) (c2.va (by decide) (by decide))) (by decide) (by decide) o2 p9
    have w9 : KWd σ0 B u9 ws nm5 (P ++ mkK y (esF (stE i a3) y.2.2.2.2.2) :: Q) := by
      refine q1.cl hV hnd (k := 1) (n := n0) (e := e0) (t := []) (cs := [q.set i (nI k5).toInt64]) rfl ⟨b1, b2, b3, b4, ?_, ⟨fun z => absurd z (show ¬ (1 : Nat) = 0 by decide), fun _ => ⟨_, rfl, ?_⟩, fun z => absurd z (show ¬ (1 : Nat) = 2 by decide), fun z => absurd z (show ¬ (1 : Nat) = 4 by decide)⟩⟩ rfl r5
      · show n0 = (stE i a3 y.2.2.2.2.2.2.2.2.2.2).length
        rw [stE_set i a3 _ _ hzz, List.length_set, b5]
      · show IDL nm5 _ ((stE i a3 y.2.2.2.2.2.2.2.2.2.2).map (fun z => z.1))
        rw [stE_set i a3 _ _ hzz, List.map_set]
        exact hid.set p5
    refine kjZ_y rfl rfl 5 _ _ _ _ ty9 ?_
    refine (And.intro (ty9.k (by decide) rfl) (And.intro (Nat.le_of_ble_eq_true rfl) (And.intro (Or.inl ⟨(Nat.le_of_ble_eq_true rfl), (ty9.k (by decide) rfl)⟩) (And.intro (Nat.le_of_ble_eq_true rfl) (And.intro (Nat.le_of_ble_eq_true rfl) (kjY_mono ty9 (fun q_ u10 ty10 xu10 h_ => ?_) (kx_settle (x := mkK y (esF (stE i a3) y.2.2.2.2.2)) ty9 w9 (k := k) (by show nm5[k]? = some y.2.2.2.2.2.1; rw [f1]; exact p6.get p2) _ rfl)))))))
    obtain ⟨q9, q9b⟩ := h_
    intro _ _
    have hne2 : ¬ emB (mkK y (esF (stE i a3) y.2.2.2.2.2)) := by
      intro y2
      have y3 : stE i a3 y.2.2.2.2.2.2.2.2.2.2 = [] := y2.2
      rw [stE_set i a3 _ _ hzz] at y3
      have y4 := congrArg List.length y3
      rw [List.length_set, List.length_nil] at y4; omega
    obtain ⟨rfl, nmA, ksA, pA, wA, rA, eA, cA, sA2⟩ := cd_se (σ := σ) ((p1.tr p3).tr p6) ((sH.tr (s5.tr q2).h).sub scGH) ⟨q9, q9b⟩ (wkO_mk _ _) r1 (fun z => absurd z hne2) (fun _ => rfl)
    refine kjZ_y rfl rfl 3 _ _ _ _ ty10 ?_
    refine (And.intro (ty10.k (by decide) rfl) (And.intro (Nat.le_of_ble_eq_true rfl) (And.intro (Or.inl ⟨(Nat.le_of_ble_eq_true rfl), (ty10.k (by decide) rfl)⟩) (And.intro (Nat.le_of_ble_eq_true rfl) (And.intro (Nat.le_of_ble_eq_true rfl) (kjY_mono ty10 (fun q_ u11 ty11 xu11 h_ => ?_) (kx_accept ty10 wA)))))))
    obtain ⟨rfl, w11, s11⟩ := h_
    intro _ _
    refine kjZ_y rfl rfl 1 _ _ _ _ ty11 ?_
    refine And.intro rfl (And.intro rfl ?_)
    refine cd_ok pA w11 rA eA ((s11 (59, 18) (by decide)).1.trans cA) (sA2.tr s11.g) ?_
    rw [eo, skA_app, skA_app, skA_cons, skA_cons, ← skA_len P, upA_at]; rfl
  exact go _ ty8' rfl
end KSET
