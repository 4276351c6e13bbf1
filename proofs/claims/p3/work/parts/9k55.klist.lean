/-! Lists: words come and go. -/
def ewt (s : Int32) (z : AE) : Nat := if s = 1 then 16 + z.1.length else if s = 2 then 32 + z.1.length + z.2.1.length else if s = 3 then 24 + z.1.length else 48 + z.1.length
def ewS (s : Int32) : List AE → Nat
  | [] => 0
  | z :: r => ewt s z + ewS s r
theorem ewS_app (s : Int32) (a b : List AE) : ewS s (a ++ b) = ewS s a + ewS s b := by
  induction a with
  | nil => exact (Nat.zero_add _).symm
  | cons z r ih => show ewt s z + ewS s (r ++ b) = ewt s z + ewS s r + ewS s b; rw [ih, Nat.add_assoc]
def wtC (a : AK) : Nat := if a.2.1 = 0 then a.2.2.2.2.1.length else ewS a.2.1 a.2.2.2.2.2
/-- a key with another value, its weight with it -/
def mkK (x : KC) (a : AK) : KC := (x.1, x.2.1, x.2.2.1, nI (wtC a), x.2.2.2.2.1, a)
def wkO (x : KC) : Prop := x.2.2.2.1 = nI (wtC x.2.2.2.2.2)
theorem map_insL {α β : Type} (f : α → β) (q : List α) (i : Nat) (x : α) : (insL q i x).map f = insL (q.map f) i (f x) := by unfold insL; rw [List.map_append, List.map_cons, List.map_take, List.map_drop]
theorem map_cutL {α β : Type} (f : α → β) (q : List α) (i m : Nat) : (cutL q i m).map f = cutL (q.map f) i m := by unfold cutL; rw [List.map_append, List.map_take, List.map_drop]
theorem ewS_ins (s : Int32) (es : List AE) (i : Nat) (z : AE) : ewS s (insL es i z) = ewS s es + ewt s z := by
  have e : ewS s es = ewS s (es.take i) + ewS s (es.drop i) := by rw [← ewS_app, List.take_append_drop]
  unfold insL; rw [ewS_app]; show _ + (ewt s z + _) = _; omega
theorem ewS_cut (s : Int32) (es : List AE) (i m : Nat) : ewS s (cutL es i m) + ewS s ((es.drop i).take m) = ewS s es := by
  have e : ewS s es = ewS s (es.take i) + ewS s (es.drop i) := by rw [← ewS_app, List.take_append_drop]
  have e2 : ewS s (es.drop i) = ewS s ((es.drop i).take m) + ewS s ((es.drop i).drop m) := by rw [← ewS_app, List.take_append_drop]
  rw [List.drop_drop] at e2
  unfold cutL; rw [ewS_app]; omega
theorem IDL.ins {nm : List (List Int32)} {q : List Int64} {ns : List (List Int32)} (h : IDL nm q ns) {k i : Nat} {v : List Int32} (hk : nm[k]? = some v) (hi : i ≤ ns.length) : IDL nm (insL q i (nI k).toInt64) (insL ns i v) := by
  refine ⟨by rw [insL_len, insL_len, h.1], fun j w hj => ?_⟩
  rw [insL_get hi] at hj
  rw [insL_get (by rw [h.1]; exact hi)]
  by_cases c : j < i
  · rw [if_pos c] at hj ⊢; exact h.2 j w hj
  · rw [if_neg c] at hj ⊢
    by_cases c2 : j = i
    · rw [if_pos c2] at hj ⊢; cases hj; exact ⟨k, rfl, hk⟩
    · rw [if_neg c2] at hj ⊢; exact h.2 _ w hj
theorem IDL.cut {nm : List (List Int32)} {q : List Int64} {ns : List (List Int32)} (h : IDL nm q ns) {i m : Nat} (hi : i + m ≤ ns.length) : IDL nm (cutL q i m) (cutL ns i m) := by
  refine ⟨by rw [cutL_len (by rw [h.1]; exact hi), cutL_len hi, h.1], fun j w hj => ?_⟩
  rw [cutL_get hi] at hj
  rw [cutL_get (by rw [h.1]; exact hi)]
  by_cases c : j < i
  · rw [if_pos c] at hj ⊢; exact h.2 j w hj
  · rw [if_neg c] at hj ⊢; exact h.2 _ w hj
theorem IDL.set {nm : List (List Int32)} {q : List Int64} {ns : List (List Int32)} (h : IDL nm q ns) {k i : Nat} {v : List Int32} (hk : nm[k]? = some v) : IDL nm (q.set i (nI k).toInt64) (ns.set i v) := by
  refine ⟨by rw [List.length_set, List.length_set, h.1], fun j w hj => ?_⟩
  rcases set_get hj with ⟨z1, z2, z3⟩ | ⟨z1, z2⟩
  · rw [z1, z2, List.getElem?_set, if_pos rfl, if_pos (by rw [h.1]; exact z3)]; exact ⟨k, rfl, hk⟩
  · rw [List.getElem?_set, if_neg (fun y => z1 y.symm)]; exact h.2 j w z2
section KLIST
variable {Y : Nat → MethodName × ByteArray} {d : Nat} {σ0 σ u : kS} {B ws nm : List (List Int32)} {ks : List KC}
/-- a key's value, opened -/
theorem KWd.op_ {P Q : List KC} {x : KC} (w : KWd σ0 B σ ws nm (P ++ x :: Q)) : ∃ fr vs k n e t cs, RST σ ((P ++ x :: Q).map (fun x => x.2.1)) ((P ++ x :: Q).map (fun x => x.2.2.1) ++ fr) vs (cSum (P ++ x :: Q)) (tSum (P ++ x :: Q)) ∧ STV nm (P ++ x :: Q) fr vs ∧ vs[x.2.2.1]? = some (x.1, k, n, x.2.2.2.1, x.2.2.2.2.1, e, t, cs) ∧ AV nm (x.1, k, n, x.2.2.2.1, x.2.2.2.2.1, e, t, cs) x.2.2.2.2.2 ∧ σ.2.2.2.1 x.1 = (11, 0) ∧ (¬ k = 0 → t = []) ∧ σ.1 x.1 6 = nI n ∧ n ≤ 131072 ∧ σ.1 x.1 4 = x.2.2.2.1 := by
  obtain ⟨fr, vs, hR, hV⟩ := w.2.2.2.2.1
  obtain ⟨r0, a1, a2, a3, a4, a5, a6⟩ := hV.1 x (List.mem_append_right _ List.mem_cons_self)
  obtain ⟨v0, k0, n0, w0, c0, e0, t0, cs0⟩ := r0
  have a2 : v0 = x.1 := a2
  have a3 : w0 = x.2.2.2.1 := a3
  have a4 : c0 = x.2.2.2.2.1 := a4
  subst a2 a3 a4
  have hRo := hR
  obtain ⟨ri, rs, rh, NK, rt, NT, rn, Nn, te, rc, NC, rm, Nm, ce, ls, hG⟩ := hR
  obtain ⟨l, hl, hV4, g1, g2, g3, -⟩ := hG.v a1
  exact ⟨fr, vs, k0, n0, e0, t0, cs0, hRo, hV, a1, a5, hV4.1.1, fun z => (hV4.2.2.2.2 z).1, hV4.2.1.1, g3, hV4.1.2.2.2.2.2.1⟩
/-- a key's value, closed again -/
theorem KW0.cl {P Q : List KC} {x : KC} (q1 : KW0 σ0 B u ws nm) {fr : List Nat} {vs : List VR} (hV : STV nm (P ++ x :: Q) fr vs) (hnd : ((P ++ x :: Q).map (fun x => x.2.2.1) ++ fr).Nodup) {a : AK} {k n : Nat} {e : Int64} {t : List Int32} {cs : List (List Int64)} (ha : a.1 = x.2.2.2.2.2.1) (hav : AV nm (x.1, k, n, nI (wtC a), x.2.2.2.2.1, e, t, cs) a) (het : endE a = endE x.2.2.2.2.2) (h : RST u ((P ++ x :: Q).map (fun x => x.2.1)) ((P ++ x :: Q).map (fun x => x.2.2.1) ++ fr) (vs.set x.2.2.1 (x.1, k, n, nI (wtC a), x.2.2.2.2.1, e, t, cs)) (cSum (P ++ x :: Q)) (tSum (P ++ x :: Q))) : KWd σ0 B u ws nm (P ++ mkK x a :: Q) := by
  have hmp := ks_maps (P := P) (Q := Q) (x := x) (x' := mkK x a) ⟨rfl, rfl⟩
  refine q1.mk ⟨fr, _, ?_, hV.upd hnd ⟨rfl, rfl, rfl, ha⟩ ⟨rfl, rfl, rfl, hav⟩⟩
  rw [hmp.1, hmp.2]
  have ec : cSum (P ++ mkK x a :: Q) = cSum (P ++ x :: Q) := by rw [cSum_app, cSum_app]; rfl
  have et : tSum (P ++ mkK x a :: Q) = tSum (P ++ x :: Q) := by
    rw [tSum_app, tSum_app]; show _ + (nvI (endE a) + _) = _ + (nvI (endE x.2.2.2.2.2) + _); rw [het]
  rw [ec, et]; exact h
/-- a value's weight is set: what the machine does -/
theorem RST.wgt (ty : kTY σ) (ow : OWN σ) (po : POT σ) {il sl : List Nat} {vs : List VR} {M T : Int32} (h : RST σ il sl vs M T) {s v k n : Nat} {w c : Int32} {e : Int64} {t : List Int32} {cs : List (List Int64)} (hs : vs[s]? = some (v, k, n, w, c, e, t, cs)) (w' : Int32) : RST (mjIu σ.1 v 4 w', σ.2) il sl (vs.set s (v, k, n, w', c, e, t, cs)) M T ∧ OWN (mjIu σ.1 v 4 w', σ.2) ∧ POT (mjIu σ.1 v 4 w', σ.2) ∧ Ch true mtF [(59, 10)] σ (mjIu σ.1 v 4 w', σ.2) := by
  obtain ⟨ri, rs, rh, NK, rt, NT, rn, Nn, te, rc, NC, rm, Nm, ce, ls, hG⟩ := h
  obtain ⟨l, hl, hV4, -⟩ := hG.v hs
  have hd : σ.2.2.2.1 v = (11, 0) := hV4.1.1
  have n59 : ¬ 59 = v := k11 ty hd (by decide)
  obtain ⟨m1, m2, m3, m4⟩ := hG.upw (u := (mjIu σ.1 v 4 w', σ.2)) (w' := w') (c' := c) (e' := e) ty ow po hs Vsu.iv (fun x z4 _ => by show mjIu σ.1 v 4 w' v x = _; rw [mjIu_q z4]) mjIu_p (by show mjIu σ.1 v 4 w' v 5 = c; rw [mjIu_q (by decide)]; exact hV4.1.2.2.2.2.2.2) hV4.1.2.2.2.2.1 rfl
  refine ⟨?_, m2, m3, m4⟩
  have m1 : RST _ il sl (vs.set s (v, k, n, w', c, e, t, cs)) (mjIu σ.1 v 4 w' 59 14) (mjIu σ.1 v 4 w' 59 15) := m1
  rw [mjIu_o n59, mjIu_o n59, hG.2.2.2.2.2.1, hG.2.2.2.2.2.2] at m1
  exact m1
abbrev vaF : List (Nat × Nat) := [(59, 10), (59, 11), (59, 12), (59, 14), (59, 15)]
abbrev vaO : List (Nat × Nat) := [(59, 10), (59, 11)]
theorem Ch.va {fs os : List (Nat × Nat)} {y z : kS} {b : Bool} (hc : Ch b fs os y z) (h1 : ∀ p ∈ fs, p ∈ vaF) (h2 : ∀ p ∈ os, p ∈ vaO) : Ch true vaF vaO y z := hc.up (fun _ => rfl) h1 h2
theorem kx_ladd (ty : kTY σ) {P Q : List KC} {x : KC} (w : KWd σ0 B σ ws nm (P ++ x :: Q)) (hsort : x.2.2.2.2.2.2.1 = 1) (hwk : wkO x) {i k : Nat} {v : List Int32} (hi : i ≤ x.2.2.2.2.2.2.2.2.2.2.length) (hk : nm[k]? = some v) (hcap : 2 * x.2.2.2.2.2.2.2.2.2.2.length + 1 + clA (skA (P ++ x :: Q)) ≤ 49152) (x2 x3 : Int32) (e2 : x2 = nI i) (e3 : x3 = nI k) :
    kjY kPP (kQQ Y) (d + 3) 189 0 (mjL0 4 [.ref 70, .ref x.1, .int x2, .int x3]) [] σ (wP σ0 B σ ws nm (P ++ mkK x (esF (fun es => insL es i (v, [], 0)) x.2.2.2.2.2) :: Q)) := by
  obtain ⟨fr, vs, k0, n0, e0, t0, cs0, hR, hV, a1, hav, hd, ht, s6, hn6, s4⟩ := w.op_
  obtain ⟨b1, b2, b3, b4, b5, b6⟩ := hav
  have b1 : x.2.2.2.2.2.2.1 = nI k0 := b1
  have hk1 : k0 = 1 := by
    rw [hsort] at b1
    exact ((nI_eq (a := 1) (by decide) (by have : k0 ≤ 4 := b2; omega)).mp b1).symm
  subst hk1
  have ht0 := ht (by decide)
  subst ht0
  have b5 : n0 = x.2.2.2.2.2.2.2.2.2.2.length := b5
  obtain ⟨q, hq, hid⟩ := b6.2.1 (Or.inl rfl)
  have hq : cs0 = [q] := hq
  subst hq
  have b5 : n0 = x.2.2.2.2.2.2.2.2.2.2.length := b5
  have hms := STO.ms hR hV
  have hnd := hR.nd
  have kv : (σ.2.2.2.1 x.1).1 = 11 := by rw [hd]
  have hcap2 : pts 1 * (2 * n0 + 1) + clS vs ≤ 49152 := by rw [hms.2, b5]; show 1 * _ + _ ≤ _; omega
  refine kjZ_y rfl rfl 8 _ _ _ _ ty ?_
  refine (And.intro (ty.k (by decide) rfl) (And.intro (by assumption) (And.intro (Nat.le_of_ble_eq_true rfl) (And.intro (Or.inl ⟨(Nat.le_of_ble_eq_true rfl), (ty.k (by decide) rfl)⟩) (And.intro (Nat.le_of_ble_eq_true rfl) (And.intro (Nat.le_of_ble_eq_true rfl) (kjY_mono ty (fun q_ u1 ty1 xu1 h_ => ?_) (k_growCells ty w.2.1.1 w.2.1.2 hR a1 (by decide) (by rfl) hcap2 _ (by rw [s6]; exact nI_1 n0)))))))))
  obtain ⟨rfl, r1, ⟨ρ, r2, r3, r4⟩, o1, p1, c1⟩ := h_
  intro _ _
  have kv1 : (u1.2.2.2.1 x.1).1 = 11 := xu1.k ty kv (by decide)
  refine kjZ_y rfl rfl 5 _ _ _ _ ty1 ?_
  refine (And.intro (Nat.le_of_ble_eq_true rfl) (And.intro (Or.inl ⟨(Nat.le_of_ble_eq_true rfl), (by assumption)⟩) (And.intro (Nat.le_of_ble_eq_true rfl) (And.intro (Nat.le_of_ble_eq_true rfl) (kjY_mono ty1 (fun q_ u2 ty2 xu2 h_ => ?_) (k_insert1 ty1 o1 p1 r1 a1 (Or.inl rfl) (by omega) ⟨r2, r3, r4⟩ _ _ _ e2))))))
  obtain ⟨rfl, r5, o2, p2, c2⟩ := h_
  intro _ _
  have kv2 : (u2.2.2.2.1 x.1).1 = 11 := xu2.k ty1 kv1 (by decide)
  have hsl := (List.getElem?_eq_some_iff.mp a1).1
  have a2 : (vs.set x.2.2.1 (x.1, 1, n0 + 1, x.2.2.2.1, x.2.2.2.2.1, e0, [], [insL q i x3.toInt64]))[x.2.2.1]? = some (x.1, 1, n0 + 1, x.2.2.2.1, x.2.2.2.2.1, e0, [], [insL q i x3.toInt64]) := by rw [List.getElem?_set, if_pos rfl, if_pos hsl]
  have w4 : u2.1 x.1 4 = x.2.2.2.1 := by
    obtain ⟨_, _, _, _, _, _, _, _, _, _, _, _, _, _, _, hG⟩ := r5
    obtain ⟨_, _, hV4, -⟩ := hG.v a2
    exact hV4.1.2.2.2.2.2.1
  have hw2 : WRD u2 nm := (w.k0.sto ty (Ch.tr ty (by decide) (c1.va (by decide) (by decide)) (c2.va (by decide) (by decide))) (by decide) (by decide) o2 p2).1.2.2.1.1
  refine kjZ_y rfl rfl 8 _ _ _ _ ty2 ?_
  refine (And.intro (by assumption) (And.intro (ty2.k (by decide) rfl) (And.intro (Nat.le_of_ble_eq_true rfl) (And.intro (Or.inl ⟨(Nat.le_of_ble_eq_true rfl), (ty2.k (by decide) rfl)⟩) (And.intro (Nat.le_of_ble_eq_true rfl) (And.intro (Nat.le_of_ble_eq_true rfl) (kjY_mono ty2 (fun q_ u3 ty3 xu3 h_ => ?_) (k_wlen ty2 hw2 x3))))))))
  obtain ⟨rfl, yl, rfl, ql⟩ := h_
  intro _ _
  have eyl := ql k _ e3 hk
  refine kjZ_y rfl rfl 3 _ _ _ _ ty3 ?_
  refine (And.intro (by assumption) (And.intro (Or.inl rfl) (fun ty3' => ?_)))
  have go : ∀ z, kTY z → z = (mjIu u3.1 x.1 4 (u3.1 x.1 4 + ((Int8.ofInt 16).toInt32 + yl)), u3.2) → kjY kPP (kQQ Y) (d + 3) 189 24 [some (.ref 70), some (.ref x.1), some (.int x2), some (.int x3)] [] z (wP σ0 B σ ws nm (P ++ mkK x (esF (fun es => insL es i (v, [], 0)) x.2.2.2.2.2) :: Q)) := by
    intro z tz ez
    refine kjZ_y rfl rfl 1 _ _ _ _ tz ?_
    refine And.intro rfl (And.intro rfl ?_)
    obtain ⟨m1, m2, m3, m4⟩ := r5.wgt ty3 o2 p2 a2 (u3.1 x.1 4 + ((Int8.ofInt 16).toInt32 + yl))
    rw [← ez] at m1 m2 m3 m4
    rw [List.set_set] at m1
    have hne : ¬ (1 : Int32) = 0 := by decide
    have ewt : u3.1 x.1 4 + ((Int8.ofInt 16).toInt32 + yl) = nI (wtC (esF (fun es => insL es i (v, [], 0)) x.2.2.2.2.2)) := by
      rw [w4, hwk, eyl, show (Int8.ofInt 16).toInt32 = nI 16 by decide, nI_add, nI_add]
      congr 1
      unfold wtC esF
      rw [hsort, if_neg hne]
      show _ = if (1 : Int32) = 0 then _ else _
      rw [if_neg hne, ewS_ins]; rfl
    rw [ewt] at m1
    obtain ⟨q1, q2⟩ := w.k0.sto ty (Ch.tr ty (by decide) (Ch.tr ty (by decide) (c1.va (by decide) (by decide)) (c2.va (by decide) (by decide))) (m4.va (by decide) (by decide))) (by decide) (by decide) m2 m3
    refine ⟨rfl, q1.cl hV hnd (k := 1) (n := n0 + 1) (e := e0) (t := []) (cs := [insL q i x3.toInt64]) rfl ⟨b1, b2, b3, b4, ?_, ⟨fun z => absurd z (show ¬ (1 : Nat) = 0 by decide), fun _ => ⟨_, rfl, ?_⟩, fun z => absurd z (show ¬ (1 : Nat) = 2 by decide), fun z => absurd z (show ¬ (1 : Nat) = 4 by decide)⟩⟩ rfl m1, q2⟩
    · show n0 + 1 = (insL x.2.2.2.2.2.2.2.2.2.2 i (v, [], 0)).length; rw [insL_len, b5]
    · show IDL nm _ ((insL x.2.2.2.2.2.2.2.2.2.2 i (v, [], 0)).map (fun z => z.1))
      rw [map_insL, e3]
      exact hid.ins hk (by rw [List.length_map]; exact hi)
  exact go _ ty3' rfl
/-- the weights of words that go -/
theorem k_lrem_l (K : kK) (ty : kTY σ) {il sl : List Nat} {vs : List VR} {M T : Int32} {s v n : Nat} {w0 c : Int32} {e : Int64} {q : List Int64} {es : List AE} (hs0 : s < vs.length) (hid : IDL nm q (es.map (fun z => z.1))) (hnl : n = es.length) (hn6 : n ≤ 131072) {i m : Nat} (him : i + m ≤ n) (x2 x3 : Int32) (e2 : x2 = nI i) (e3 : x3 = nI m)
    (hK : ∀ u x4, kTY u → OWN u → POT u → RST u il sl (vs.set s (v, 1, n, w0 - nI (ewS 1 ((es.drop i).take m)), c, e, [], [q])) M T → Ch true vaF vaO σ u → kjY kPP (kQQ Y) (d + 1) 190 22 [some (.ref 70), some (.ref v), some (.int x2), some (.int x3), some (.int x4)] [] u K) :
    ∀ (f j : Nat) (x4 : Int32) (u : kS), j + f = m → x4 = nI (i + j) → kTY u → OWN u → POT u → RST u il sl (vs.set s (v, 1, n, w0 - nI (ewS 1 ((es.drop i).take j)), c, e, [], [q])) M T → Ch true vaF vaO σ u → WRD u nm →
    kjY kPP (kQQ Y) (d + 1) 190 2 [some (.ref 70), some (.ref v), some (.int x2), some (.int x3), some (.int x4)] [] u K := by
  have a2 : ∀ w, (vs.set s ((v, 1, n, w, c, e, [], [q]) : VR))[s]? = some (v, 1, n, w, c, e, [], [q]) := fun w => by rw [List.getElem?_set, if_pos rfl, if_pos hs0]
  have kvv : ∀ {u : kS} {w : Int32}, RST u il sl (vs.set s (v, 1, n, w, c, e, [], [q])) M T → (u.2.2.2.1 v).1 = 11 ∧ u.1 v 4 = w := fun {u w} h => by
    obtain ⟨_, _, _, _, _, _, _, _, _, _, _, _, _, _, _, hG⟩ := h
    obtain ⟨_, _, hV4, -⟩ := hG.v (a2 w)
    have hd : u.2.2.2.1 v = (11, 0) := hV4.1.1
    exact ⟨by rw [hd], hV4.1.2.2.2.2.2.1⟩
  intro f
  induction f with
  | zero =>
    intro j x4 u hj e4 tu ou pu hu cu wu
    obtain ⟨kv, -⟩ := kvv hu
    refine kjZ_y rfl rfl 5 _ _ _ _ tu ?_
    refine And.intro (fun o => ?_) (fun o => ?_)
    · exact hK u x4 tu ou pu (by rw [show m = j by omega]; exact hu) cu
    · refine absurd (show x2 + x3 ≤ x4 from ?_) o
      rw [e2, e3, e4, nI_add, nle (by omega) (by omega)]; omega
  | succ f ih =>
    intro j x4 u hj e4 tu ou pu hu cu wu
    obtain ⟨kv, w4⟩ := kvv hu
    refine kjZ_y rfl rfl 5 _ _ _ _ tu ?_
    refine And.intro (fun o => ?_) (fun o => ?_)
    · refine absurd (show x2 + x3 ≤ x4 from o) ?_
      rw [e2, e3, e4, nI_add, nle (by omega) (by omega)]; omega
    have hz : es[i + j]? = some es[i + j] := List.getElem?_eq_getElem (by omega)
    obtain ⟨km, g1, g2⟩ := hid.2 (i + j) es[i + j].1 (by rw [List.getElem?_map, hz]; rfl)
    refine kjZ_y rfl rfl 9 _ _ _ _ tu ?_
    refine (And.intro (by assumption) (And.intro (tu.k (by decide) rfl) (And.intro (Nat.le_of_ble_eq_true rfl) (And.intro (Or.inl ⟨(Nat.le_of_ble_eq_true rfl), (by assumption)⟩) (And.intro (Nat.le_of_ble_eq_true rfl) (And.intro (Nat.le_of_ble_eq_true rfl) (kjY_mono tu (fun q_ u1 ty1 xu1 h_ => ?_) (k_vat tu hu (a2 _) _))))))))
    obtain ⟨rfl, y0, rfl, q0⟩ := h_
    intro _ _
    have ey0 : y0 = nI km := by rw [q0 (i + j) q _ e4 (by show i + j < n; omega) (show ¬ (1 : Nat) = 0 by decide) rfl g1]; exact i64_32 km
    refine kjZ_y rfl rfl 1 _ _ _ _ ty1 ?_
    refine (And.intro (Nat.le_of_ble_eq_true rfl) (And.intro (Or.inl ⟨(Nat.le_of_ble_eq_true rfl), (ty1.k (by decide) rfl)⟩) (And.intro (Nat.le_of_ble_eq_true rfl) (And.intro (Nat.le_of_ble_eq_true rfl) (kjY_mono ty1 (fun q_ u2 ty2 xu2 h_ => ?_) (k_wlen ty1 wu _))))))
    obtain ⟨rfl, yl, rfl, ql⟩ := h_
    intro _ _
    have eyl := ql km _ ey0 g2
    refine kjZ_y rfl rfl 5 _ _ _ _ ty2 ?_
    refine (And.intro (by assumption) (And.intro (Or.inl rfl) (fun ty2' => ?_)))
    have go : ∀ z, kTY z → z = (mjIu u2.1 v 4 (u2.1 v 4 - ((Int8.ofInt 16).toInt32 + yl)), u2.2) → kjY kPP (kQQ Y) (d + 1) 190 2 [some (.ref 70), some (.ref v), some (.int x2), some (.int x3), some (.int (x4 + Int32.ofInt 1))] [] z K := by
      intro z tz ez
      obtain ⟨m1, m2, m3, m4⟩ := hu.wgt ty2 ou pu (a2 _) (u2.1 v 4 - ((Int8.ofInt 16).toInt32 + yl))
      rw [← ez] at m1 m2 m3 m4
      rw [List.set_set] at m1
      have hwz : WRD z nm := wu.fr ty2 ou m4 (by decide) (by decide)
      refine ih (j + 1) _ z (by omega) (by rw [e4]; exact nI_1 _) tz m2 m3 ?_ (Ch.tr ty (by decide) cu (m4.va (by decide) (by decide))) hwz
      have et : ewS 1 ((es.drop i).take (j + 1)) = ewS 1 ((es.drop i).take j) + (16 + es[i + j].1.length) := by
        rw [List.take_succ, List.getElem?_drop, hz]
        show ewS 1 ((es.drop i).take j ++ [es[i + j]]) = _
        rw [ewS_app]; rfl
      have ew : u2.1 v 4 - ((Int8.ofInt 16).toInt32 + yl) = w0 - nI (ewS 1 ((es.drop i).take (j + 1))) := by
        rw [w4, eyl, et, show (Int8.ofInt 16).toInt32 = nI 16 by decide, nI_add, ← nI_add (ewS 1 _)]
        rw [Int32.sub_eq_add_neg, Int32.sub_eq_add_neg, Int32.sub_eq_add_neg, Int32.neg_add, Int32.sub_eq_add_neg, ← Int32.add_assoc]
      rw [ew] at m1; exact m1
    exact go _ ty2' rfl
theorem cutL_0 {α : Type} (q : List α) (i : Nat) : cutL q i 0 = q := by unfold cutL; rw [Nat.add_zero, List.take_append_drop]
theorem kx_lrem (ty : kTY σ) {P Q : List KC} {x : KC} (w : KWd σ0 B σ ws nm (P ++ x :: Q)) (hsort : x.2.2.2.2.2.2.1 = 1) (hwk : wkO x) {i m : Nat} (him : i + m ≤ x.2.2.2.2.2.2.2.2.2.2.length) (x2 x3 : Int32) (e2 : x2 = nI i) (e3 : x3 = nI m) :
    kjY kPP (kQQ Y) (d + 3) 190 0 (mjL0 5 [.ref 70, .ref x.1, .int x2, .int x3]) [] σ (wP σ0 B σ ws nm (P ++ mkK x (esF (fun es => cutL es i m) x.2.2.2.2.2) :: Q)) := by
  obtain ⟨fr, vs, k0, n0, e0, t0, cs0, hR, hV, a1, hav, hd, ht, s6, hn6, s4⟩ := w.op_
  obtain ⟨b1, b2, b3, b4, b5, b6⟩ := hav
  have b1 : x.2.2.2.2.2.2.1 = nI k0 := b1
  have hk1 : k0 = 1 := by
    rw [hsort] at b1
    exact ((nI_eq (a := 1) (by decide) (by have : k0 ≤ 4 := b2; omega)).mp b1).symm
  subst hk1
  have ht0 := ht (by decide)
  subst ht0
  have b5 : n0 = x.2.2.2.2.2.2.2.2.2.2.length := b5
  obtain ⟨q, hq, hid⟩ := b6.2.1 (Or.inl rfl)
  have hq : cs0 = [q] := hq
  subst hq
  have b5 : n0 = x.2.2.2.2.2.2.2.2.2.2.length := b5
  have hnd := hR.nd
  have hsl := (List.getElem?_eq_some_iff.mp a1).1
  have hne : ¬ (1 : Int32) = 0 := by decide
  have ewt : x.2.2.2.1 - nI (ewS 1 ((x.2.2.2.2.2.2.2.2.2.2.drop i).take m)) = nI (wtC (esF (fun es => cutL es i m) x.2.2.2.2.2)) := by
    have e := ewS_cut 1 x.2.2.2.2.2.2.2.2.2.2 i m
    rw [hwk]
    have e1 : wtC x.2.2.2.2.2 = ewS 1 x.2.2.2.2.2.2.2.2.2.2 := by unfold wtC; rw [hsort, if_neg hne]
    have e2 : wtC (esF (fun es => cutL es i m) x.2.2.2.2.2) = ewS 1 (cutL x.2.2.2.2.2.2.2.2.2.2 i m) := by
      unfold wtC esF; show (if x.2.2.2.2.2.2.1 = 0 then _ else ewS x.2.2.2.2.2.2.1 _) = _
      rw [hsort, if_neg hne]
    rw [e1, e2, pk_sub (by omega)]; congr 1; omega
  have fin : ∀ z (q' : List Int64), kTY z → OWN z → POT z → RST z ((P ++ x :: Q).map (fun x => x.2.1)) ((P ++ x :: Q).map (fun x => x.2.2.1) ++ fr) (vs.set x.2.2.1 (x.1, 1, n0 - m, x.2.2.2.1 - nI (ewS 1 ((x.2.2.2.2.2.2.2.2.2.2.drop i).take m)), x.2.2.2.2.1, e0, [], [q'])) (cSum (P ++ x :: Q)) (tSum (P ++ x :: Q)) → q' = cutL q i m → Ch true vaF vaO σ z → wP σ0 B σ ws nm (P ++ mkK x (esF (fun es => cutL es i m) x.2.2.2.2.2) :: Q) none z := by
    intro z q' tz oz pz hz eq' cz
    rw [ewt] at hz
    obtain ⟨q1, q2⟩ := w.k0.sto ty cz (by decide) (by decide) oz pz
    refine ⟨rfl, q1.cl hV hnd (k := 1) (n := n0 - m) (e := e0) (t := []) (cs := [q']) rfl ⟨b1, b2, b3, b4, ?_, ⟨fun z => absurd z (show ¬ (1 : Nat) = 0 by decide), fun _ => ⟨_, rfl, ?_⟩, fun z => absurd z (show ¬ (1 : Nat) = 2 by decide), fun z => absurd z (show ¬ (1 : Nat) = 4 by decide)⟩⟩ rfl hz, q2⟩
    · show n0 - m = (cutL x.2.2.2.2.2.2.2.2.2.2 i m).length; rw [cutL_len him, b5]
    · show IDL nm _ ((cutL x.2.2.2.2.2.2.2.2.2.2 i m).map (fun z => z.1))
      rw [map_cutL, eq']
      exact hid.cut (by rw [List.length_map]; exact him)
  refine kjZ_y rfl rfl 2 _ _ _ _ ty ?_
  refine (And.intro (Nat.le_of_ble_eq_true rfl) ?_)
  have h0 : RST σ ((P ++ x :: Q).map (fun x => x.2.1)) ((P ++ x :: Q).map (fun x => x.2.2.1) ++ fr) (vs.set x.2.2.1 (x.1, 1, n0, x.2.2.2.1 - nI (ewS 1 ((x.2.2.2.2.2.2.2.2.2.2.drop i).take 0)), x.2.2.2.2.1, e0, [], [q])) (cSum (P ++ x :: Q)) (tSum (P ++ x :: Q)) := by
    show RST σ _ _ (vs.set x.2.2.1 (x.1, 1, n0, x.2.2.2.1 - nI 0, _, e0, [], [q])) _ _
    rw [show x.2.2.2.1 - nI 0 = x.2.2.2.1 from Int32.sub_zero _, set_self a1]; exact hR
  refine k_lrem_l (il := (P ++ x :: Q).map (fun x => x.2.1)) (sl := (P ++ x :: Q).map (fun x => x.2.2.1) ++ fr) (M := cSum (P ++ x :: Q)) (T := tSum (P ++ x :: Q)) (w0 := x.2.2.2.1) (c := x.2.2.2.2.1) (e := e0) _ ty hsl hid b5 hn6 (by omega) x2 x3 e2 e3 ?_ m 0 x2 σ (by omega) e2 ty w.2.1.1 w.2.1.2 h0 Ch.rf w.2.2.1.1
  · intro u x4 tu ou pu hu cu
    have a2 : (vs.set x.2.2.1 ((x.1, 1, n0, x.2.2.2.1 - nI (ewS 1 ((x.2.2.2.2.2.2.2.2.2.2.drop i).take m)), x.2.2.2.2.1, e0, [], [q]) : VR))[x.2.2.1]? = some (x.1, 1, n0, x.2.2.2.1 - nI (ewS 1 ((x.2.2.2.2.2.2.2.2.2.2.drop i).take m)), x.2.2.2.2.1, e0, [], [q]) := by rw [List.getElem?_set, if_pos rfl, if_pos hsl]
    have kv : (u.2.2.2.1 x.1).1 = 11 := by
      obtain ⟨_, _, _, _, _, _, _, _, _, _, _, _, _, _, _, hG⟩ := hu
      obtain ⟨_, _, hV4, -⟩ := hG.v a2
      rw [hV4.1.1]
    by_cases hm : 1 ≤ m
    · refine kjZ_y rfl rfl 4 _ _ _ _ tu ?_
      refine (And.intro (Nat.le_of_ble_eq_true rfl) (And.intro (Or.inl ⟨(Nat.le_of_ble_eq_true rfl), (by assumption)⟩) (And.intro (Nat.le_of_ble_eq_true rfl) (And.intro (Nat.le_of_ble_eq_true rfl) (kjY_mono tu (fun q_ u2 ty2 xu2 h_ => ?_) (k_remove1 tu ou pu hu a2 (Or.inl rfl) (i := i) (m := m) (by omega) hm _ _ e2 e3))))))
      obtain ⟨rfl, r5, o2, p2, c2⟩ := h_
      intro _ _
      rw [List.set_set] at r5
      refine kjZ_y rfl rfl 1 _ _ _ _ ty2 ?_
      refine And.intro rfl (And.intro rfl ?_)
      exact fin u2 _ ty2 o2 p2 r5 rfl (Ch.tr ty (by decide) cu (c2.va (by decide) (by decide)))
    · have hm0 : m = 0 := by omega
      subst hm0
      have k123 : kjY kPP (kQQ Y) (d + 2) 123 0 (mjL0 3 [.ref x.1, .int x2, .int x3]) [] u (fun r z => r = none ∧ z = u) := by
        refine kjZ_y rfl rfl 2 _ _ _ _ tu ?_
        refine And.intro (fun o => ?_) (fun o => ?_)
        · exact absurd (show x2 < 0 from o) (by rw [e2]; exact nI_n0 (by omega))
        refine kjZ_y rfl rfl 2 _ _ _ _ tu ?_
        refine And.intro (fun o2 => ?_) (fun o2 => ?_)
        · refine kjZ_y rfl rfl 1 _ _ _ _ tu ?_
          refine And.intro rfl (And.intro rfl ?_)
          exact ⟨rfl, rfl⟩
        · exact absurd (show x3 ≤ nI 0 by rw [e3]; exact Int32.le_refl _) o2
      refine kjZ_y rfl rfl 4 _ _ _ _ tu ?_
      refine (And.intro (Nat.le_of_ble_eq_true rfl) (And.intro (Or.inl ⟨(Nat.le_of_ble_eq_true rfl), (by assumption)⟩) (And.intro (Nat.le_of_ble_eq_true rfl) (And.intro (Nat.le_of_ble_eq_true rfl) (kjY_mono tu (fun q_ u2 ty2 xu2 h_ => ?_) (k123))))))
      obtain ⟨rfl, rfl⟩ := h_
      intro _ _
      refine kjZ_y rfl rfl 1 _ _ _ _ ty2 ?_
      refine And.intro rfl (And.intro rfl ?_)
      exact fin u2 q ty2 ou pu hu (cutL_0 q i).symm cu
end KLIST
