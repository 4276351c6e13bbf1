/-! What a rewrite tells of all keys; how long it is. -/
section DUMP3
theorem fl_m {P : List AK} {n : List Int32} {s : Int32} {es : List AE} : tT (flA P n s es) ≤ tT P + n.length + eT es ∧ eN (flA P n s es) ≤ eN P + es.length ∧ (flA P n s es).length ≤ P.length + 1 := by
  unfold flA
  by_cases c : es = []
  · rw [if_pos c]; omega
  · rw [if_neg c, tT_app, eN_app, List.length_append]
    have e1 : tT [kx n s es] = n.length + 0 + eT es + 0 := rfl
    have e2 : eN [kx n s es] = es.length + 0 := rfl
    have e3 : [kx n s es].length = 1 := rfl
    omega
theorem tl_wok {s : Int32} {c : List AE} (hE : ∀ z ∈ c, WOK z.1 ∧ z.2.1.length ≤ 16384) (hB : ∀ z ∈ c, BY z.2.1) : ∀ w ∈ c.flatMap (tlE s), WOK w := by
  intro w hw
  obtain ⟨z, hz, hw⟩ := List.mem_flatMap.mp hw
  unfold tlE at hw
  by_cases c4 : s = 4
  · rw [if_pos c4] at hw
    rcases List.mem_cons.mp hw with rfl | hw
    · exact dec_wk _
    · rw [List.mem_singleton.mp hw]; exact (hE z hz).1
  · rw [if_neg c4] at hw
    by_cases c2 : s = 2
    · rw [if_pos c2] at hw
      rcases List.mem_cons.mp hw with rfl | hw
      · exact (hE z hz).1
      · rw [List.mem_singleton.mp hw]; exact ⟨(hE z hz).2, hB z hz⟩
    · rw [if_neg c2] at hw
      rw [List.mem_singleton.mp hw]; exact (hE z hz).1
theorem LSt_chunk {P : List AK} {a : AK} {Q : List AK} {N : Nat} (h : LI (P ++ a :: Q) N) (hB : BYA a) (hs : a.2.1 = 1 ∨ a.2.1 = 2 ∨ a.2.1 = 3 ∨ a.2.1 = 4) {es c r : List AE} (he : a.2.2.2.2.2 = es ++ c ++ r) (hn : c ≠ []) (hc : c.length ≤ ptS a.2.1) : LSt (flA P a.1 a.2.1 es) (rqE a.2.1 a.1 c) (flA P a.1 a.2.1 (es ++ c)) ∧ LI (flA P a.1 a.2.1 (es ++ c)) N := by
  have ha : AOK a := h.1.2 a (List.mem_append_right _ List.mem_cons_self)
  have hb := h.bhd
  have hsn : ¬ a.2.1 = 0 := by rcases hs with z | z | z | z <;> rw [z] <;> decide
  have ht : a.2.2.2.2.1 = [] := (ha.2.2.2.1 hsn).2
  have hE : ELS a.2.1 (es ++ c) := by
    have := ha.2.2.1; rw [he] at this; exact ELS_pre this
  have ne : es ++ c ≠ [] := fun z => hn (List.append_eq_nil_iff.mp z).2
  have eK : pk a (es ++ c) = kx a.1 a.2.1 (es ++ c) := by show (a.1, a.2.1, 0, 0, a.2.2.2.2.1, es ++ c) = _; rw [ht]
  have eE : eT a.2.2.2.2.2 = eT es + eT c + eT r := by rw [he, eT_app, eT_app]
  have eL : a.2.2.2.2.2.length = es.length + c.length + r.length := by rw [he, List.length_append, List.length_append]
  have hL : LI (P ++ [kx a.1 a.2.1 (es ++ c)]) N := by
    rw [← eK]
    refine LI_half h (AOK_half ha he (fun _ => ne)) rfl rfl (Nat.le_refl _) ?_ ?_
    · show (es ++ c).length ≤ _; rw [List.length_append]; omega
    · show eT (es ++ c) ≤ _; rw [eT_app]; omega
  rw [fl_ne ne]
  refine ⟨?_, hL⟩
  obtain ⟨co, sf⟩ := co_S hb hs hE hn
  obtain ⟨i1, i2, i3, i4, i5, i6⟩ := ids_ok hs
  obtain ⟨f1, f2, f3⟩ := fl_m (P := P) (n := a.1) (s := a.2.1) (es := es)
  have tl := tl_len hs c
  have ts := tl_sl (s := a.2.1) c
  have c1 : 1 ≤ c.length := Nat.pos_of_ne_zero (fun z => hn (List.length_eq_zero_iff.mp z))
  have hp : eaS a.2.1 * c.length ≤ 1000 ∧ (a.2.1 = 4 → c.length ≤ 500) := by
    rcases hs with z | z | z | z <;> rw [z] at hc ⊢
    · have hc : c.length ≤ 1000 := hc
      exact ⟨by show 1 * c.length ≤ _; omega, fun y => absurd y (by decide)⟩
    · have hc : c.length ≤ 500 := hc
      exact ⟨by show 2 * c.length ≤ _; omega, fun y => absurd y (by decide)⟩
    · have hc : c.length ≤ 1000 := hc
      exact ⟨by show 1 * c.length ≤ _; omega, fun y => absurd y (by decide)⟩
    · have hc : c.length ≤ 500 := hc
      exact ⟨by show 2 * c.length ≤ _; omega, fun _ => hc⟩
  have hw := ha.1.1
  obtain ⟨l1, l2, l3, l4, l5, l6⟩ := h
  have e1 : eN (P ++ a :: Q) = eN P + (a.2.2.2.2.2.length + eN Q) := by rw [eN_app]; rfl
  have e3 : tT (P ++ a :: Q) = tT P + (a.1.length + a.2.2.2.2.1.length + eT a.2.2.2.2.2 + tT Q) := by rw [tT_app]; rfl
  have k1 : (P ++ a :: Q).length = P.length + (Q.length + 1) := by rw [List.length_append]; rfl
  have ss : sl (a.1 :: c.flatMap (tlE a.2.1)) = a.1.length + sl (c.flatMap (tlE a.2.1)) := rfl
  have zz : sz (a.1 :: c.flatMap (tlE a.2.1)) = sl (a.1 :: c.flatMap (tlE a.2.1)) + 26 * (a.1 :: c.flatMap (tlE a.2.1)).length := by
    have : ∀ ws : List (List Int32), sz ws = sl ws + 26 * ws.length := by
      intro ws
      induction ws with
      | nil => rfl
      | cons w r ih => rw [sz_cons]; show _ = w.length + sl r + 26 * (r.length + 1); omega
    exact this _
  have ll : (a.1 :: c.flatMap (tlE a.2.1)).length = 1 + eaS a.2.1 * c.length := by show (c.flatMap (tlE a.2.1)).length + 1 = _; omega
  have sb : sl (c.flatMap (tlE a.2.1)) ≤ eT c + 10000 ∧ a.1.length + sl (c.flatMap (tlE a.2.1)) ≤ 131000 := by
    by_cases c4 : a.2.1 = 4
    · rw [if_pos c4] at ts
      have := hp.2 c4
      have := l6 a (List.mem_append_right _ List.mem_cons_self) c4
      omega
    · rw [if_neg c4] at ts
      omega
  refine LSt_mk (as := a.1 :: c.flatMap (tlE a.2.1)) i3 i4 i5 (by rw [ll]; exact af_S hs c1 hc) (by omega) (fun w hw => ?_) (fun now => rn_co i1 i2 sf co now) ?_ (by omega) (by omega) (by omega) (fun z => absurd z i6)
  · rcases List.mem_cons.mp hw with rfl | hw
    · exact ha.1
    · refine tl_wok (fun z hz => ?_) (fun z hz => ?_) w hw
      · exact hE.1 z (List.mem_append_right _ hz)
      · exact hB.2 z (by rw [he]; exact List.mem_append_left _ (List.mem_append_right _ hz))
  · show tT (flA P a.1 a.2.1 es) + sl (a.1 :: c.flatMap (tlE a.2.1)) + a.1.length ≤ _ ∧ sl (a.1 :: c.flatMap (tlE a.2.1)) ≤ _
    omega
/-- the lists on the way, none with more keys than the last -/
def LK (P M : Nat) : List AK → List Req → List AK → Prop
  | A, [], A' => A' = A
  | A, q :: ns, A' => ∃ B, LSt A q B ∧ LI B P ∧ kap B ≤ M ∧ LK P M B ns A'
theorem LK_app {p M : Nat} : ∀ {ns ms : List Req} {A B C : List AK}, LK p M A ns B → LK p M B ms C → LK p M A (ns ++ ms) C := by
  intro ns
  induction ns with
  | nil => intro ms A B C h g; have h : B = A := h; rw [← h]; exact g
  | cons q ns ih => intro ms A B C h g; obtain ⟨D, h1, h2, h3, h4⟩ := h; exact ⟨D, h1, h2, h3, ih h4 g⟩
def sgB (qs : List Req) : List Blk := qs.map (fun q => (false, [q]))
theorem sg_en : ∀ qs : List Req, enE (sgB qs) = encs qs := by
  intro qs
  induction qs with
  | nil => rfl
  | cons q r ih => show blkB false [q] ++ enE (sgB r) = _; rw [ih, blk_1, encs_cons]
theorem LK_LG {P M : Nat} : ∀ {qs : List Req} {A B : List AK} {n : Nat}, LK P M A qs B → n + (encs qs).length + (M + 50 * P) ≤ 650000 → LG P n A (sgB qs) B := by
  intro qs
  induction qs with
  | nil => intro A B n h _; exact h
  | cons q r ih =>
    intro A B n h hn
    obtain ⟨D, h1, h2, h3, h4⟩ := h
    rw [encs_cons, List.length_append] at hn
    refine ⟨by simp, fun _ => Nat.le_refl _, D, ⟨D, h1, h2, rfl⟩, ?_, ?_⟩
    · show n + (blkB false [q]).length + _ ≤ _; rw [blk_1]; omega
    · show LG P (n + (blkB false [q]).length) D (sgB r) B
      rw [blk_1]
      exact ih h4 (by omega)
theorem kap_half {P : List AK} {a b : AK} {Q : List AK} (h : b.1 = a.1) : kap (P ++ [b]) ≤ kap (P ++ a :: Q) := by
  unfold kap
  rw [nB_app, nB_app, List.length_append, List.length_append]
  have e1 : nB [b] = b.1.length + 0 := rfl
  have e2 : nB (a :: Q) = a.1.length + nB Q := rfl
  have e3 : [b].length = 1 := rfl
  have e4 : (a :: Q).length = Q.length + 1 := rfl
  rw [h] at e1
  omega
/-- the elements in parts -/
def ckF (m : Nat) : Nat → List AE → List (List AE)
  | 0, _ => []
  | f + 1, es => if es = [] then [] else es.take m :: ckF m f (es.drop m)
theorem LK_chunks {P : List AK} {a : AK} {Q : List AK} {N : Nat} (h : LI (P ++ a :: Q) N) (hB : BYA a) (hs : a.2.1 = 1 ∨ a.2.1 = 2 ∨ a.2.1 = 3 ∨ a.2.1 = 4) : ∀ (f : Nat) (r es : List AE), a.2.2.2.2.2 = es ++ r → r.length ≤ f → LK N (kap (P ++ a :: Q)) (flA P a.1 a.2.1 es) ((ckF (ptS a.2.1) f r).map (rqE a.2.1 a.1)) (flA P a.1 a.2.1 (es ++ r)) := by
  have hm : 1 ≤ ptS a.2.1 := by rcases hs with z | z | z | z <;> rw [z] <;> decide
  intro f
  induction f with
  | zero =>
    intro r es he hr
    have e0 : r = [] := List.length_eq_zero_iff.mp (Nat.le_zero.mp hr)
    subst e0
    rw [List.append_nil]; rfl
  | succ f ih =>
    intro r es he hr
    by_cases c : r = []
    · subst c; rw [List.append_nil]
      show LK N _ _ ((if ([] : List AE) = [] then [] else _).map _) _
      rw [if_pos rfl]; rfl
    · have e1 : ckF (ptS a.2.1) (f + 1) r = r.take (ptS a.2.1) :: ckF (ptS a.2.1) f (r.drop (ptS a.2.1)) := if_neg c
      rw [e1]
      have r1 : 1 ≤ r.length := Nat.pos_of_ne_zero (fun z => c (List.length_eq_zero_iff.mp z))
      have he2 : a.2.2.2.2.2 = es ++ r.take (ptS a.2.1) ++ r.drop (ptS a.2.1) := by rw [List.append_assoc, List.take_append_drop]; exact he
      have nt : r.take (ptS a.2.1) ≠ [] := fun z => by
        have := congrArg List.length z
        rw [List.length_take] at this
        have : min (ptS a.2.1) r.length = 0 := this
        omega
      obtain ⟨s1, s2⟩ := LSt_chunk h hB hs he2 nt (by rw [List.length_take]; omega)
      have i := ih (r.drop (ptS a.2.1)) (es ++ r.take (ptS a.2.1)) he2 (by rw [List.length_drop]; omega)
      rw [List.append_assoc, List.take_append_drop] at i
      refine ⟨_, s1, s2, ?_, i⟩
      rw [fl_ne (fun z => nt (List.append_eq_nil_iff.mp z).2)]
      exact kap_half rfl
/-- what is told of a key -/
def dkR (a : AK) : List Req := (if a.2.1 = 0 then [[nm 2, a.1, a.2.2.2.2.1]] else (ckF (ptS a.2.1) a.2.2.2.2.2.length a.2.2.2.2.2).map (rqE a.2.1 a.1)) ++ (if a.2.2.1 = 0 then [] else [[nm 33, a.1, dec a.2.2.2.1]])
theorem st_new {P : List AK} {n : List Int32} (h : BHD P n) (v : List Int32) : stA P n v 0 0 0 = P ++ [(n, 0, 0, 0, v, [])] := by
  have o := or_fl h 0 []
  have e : flA P n 0 [] = P := if_pos rfl
  rw [e] at o
  unfold stA setA
  rw [o]
  show upA (upA (P ++ [kx n 0 []]) P.length _) P.length _ = _
  rw [upA_at P (kx n 0 []) [], upA_at P _ []]
  rfl
theorem LK_key {P : List AK} {a : AK} {Q : List AK} {N : Nat} (h : LI (P ++ a :: Q) N) (hB : BYA a) : LK N (kap (P ++ a :: Q)) P (dkR a) (P ++ [a]) := by
  have ha : AOK a := h.1.2 a (List.mem_append_right _ List.mem_cons_self)
  have hb := h.bhd
  obtain ⟨a1, a2, a3, a4, a5, a6⟩ := ha
  have hw := a1.1
  have first : LK N (kap (P ++ a :: Q)) P (if a.2.1 = 0 then [[nm 2, a.1, a.2.2.2.2.1]] else (ckF (ptS a.2.1) a.2.2.2.2.2.length a.2.2.2.2.2).map (rqE a.2.1 a.1)) (P ++ [pk a a.2.2.2.2.2]) ∧ LI (P ++ [pk a a.2.2.2.2.2]) N := by
    by_cases c : a.2.1 = 0
    · have e0 : a.2.2.2.2.2 = [] := a3.2.1 c
      have hL : LI (P ++ [pk a a.2.2.2.2.2]) N := LI_half h (AOK_half ⟨a1, a2, a3, a4, a5, a6⟩ (c := []) (List.append_nil _).symm (fun z => absurd c z)) rfl rfl (Nat.le_refl _) (Nat.le_refl _) (Nat.le_refl _)
      refine ⟨?_, hL⟩
      rw [if_pos c]
      refine ⟨_, ?_, hL, kap_half rfl, rfl⟩
      have e1 : P ++ [pk a a.2.2.2.2.2] = stA P a.1 a.2.2.2.2.1 0 0 0 := by
        rw [st_new hb]; show P ++ [(a.1, a.2.1, 0, 0, a.2.2.2.2.1, a.2.2.2.2.2)] = _; rw [c, e0]
      obtain ⟨l1, l2, l3, l4, l5, l6⟩ := h
      have g1 : eN (P ++ a :: Q) = eN P + (a.2.2.2.2.2.length + eN Q) := by rw [eN_app]; rfl
      have g3 : tT (P ++ a :: Q) = tT P + (a.1.length + a.2.2.2.2.1.length + eT a.2.2.2.2.2 + tT Q) := by rw [tT_app]; rfl
      have k1 : (P ++ a :: Q).length = P.length + (Q.length + 1) := by rw [List.length_append]; rfl
      rw [e1]
      refine LSt_mk (as := [a.1, a.2.2.2.2.1]) (by decide) (by decide) rfl (show afX 2 2 = true by decide) (show 2 ≤ 1023 by decide) (fun w hw => ?_) (fun now => re_set (Or.inl rfl) (Or.inl rfl) (nm 2) now) ?_ (by show _ + 2 < _; omega) (by show _ + 2 < _; omega) ?_ (fun z => absurd z (by decide))
      · rcases List.mem_cons.mp hw with rfl | hw
        · exact a1
        · rw [List.mem_singleton.mp hw]; exact ⟨a2, hB.1⟩
      · show tT P + (a.1.length + (a.2.2.2.2.1.length + 0)) + a.1.length ≤ _ ∧ a.1.length + (a.2.2.2.2.1.length + 0) ≤ _; omega
      · rw [sz_cons, sz_cons]; show 800 + (a.1.length + 26 + (a.2.2.2.2.1.length + 26 + 0)) ≤ _; omega
    · rw [if_neg c]
      have hs : a.2.1 = 1 ∨ a.2.1 = 2 ∨ a.2.1 = 3 ∨ a.2.1 = 4 := a6.resolve_left c
      obtain ⟨ne, ht⟩ := a4 c
      have l := LK_chunks h hB hs a.2.2.2.2.2.length a.2.2.2.2.2 [] rfl (Nat.le_refl _)
      rw [List.nil_append] at l
      have e1 : flA P a.1 a.2.1 [] = P := if_pos rfl
      have e2 : flA P a.1 a.2.1 a.2.2.2.2.2 = P ++ [pk a a.2.2.2.2.2] := by
        rw [fl_ne ne]; show P ++ [(a.1, a.2.1, 0, 0, [], a.2.2.2.2.2)] = P ++ [(a.1, a.2.1, 0, 0, a.2.2.2.2.1, a.2.2.2.2.2)]; rw [ht]
      rw [e1, e2] at l
      refine ⟨l, LI_half h (AOK_half ⟨a1, a2, a3, a4, a5, a6⟩ (c := []) (List.append_nil _).symm (fun _ => ne)) rfl rfl (Nat.le_refl _) (Nat.le_refl _) (Nat.le_refl _)⟩
  obtain ⟨f1, f2⟩ := first
  refine LK_app f1 ?_
  by_cases t : a.2.2.1 = 0
  · rw [if_pos t]
    have t2 : a.2.2.2.1 = 0 := by
      rcases a5 with ⟨-, z⟩ | ⟨z, -⟩
      · exact z
      · rw [t] at z; exact absurd z (by decide)
    show P ++ [a] = P ++ [(a.1, a.2.1, 0, 0, a.2.2.2.2.1, a.2.2.2.2.2)]
    rw [← t, ← t2]
  · rw [if_neg t]
    obtain ⟨t1, t2, t3⟩ : a.2.2.1 = 1 ∧ 1 ≤ a.2.2.2.1 ∧ a.2.2.2.1 ≤ LAT := by
      rcases a5 with ⟨z, -⟩ | z
      · exact absurd z t
      · exact z
    have hL : LI (P ++ [a]) N := LI_half h ⟨a1, a2, a3, a4, a5, a6⟩ rfl rfl (Nat.le_refl _) (Nat.le_refl _) (Nat.le_refl _)
    refine ⟨P ++ [a], ?_, hL, kap_half rfl, rfl⟩
    have hk : kyI (P ++ [pk a a.2.2.2.2.2]) a.1 = some P.length := ky_old (x := pk a a.2.2.2.2.2) hb
    have eu : upA (P ++ [pk a a.2.2.2.2.2]) P.length (exF a.2.2.2.1) = P ++ [a] := by
      rw [upA_at P _ []]
      show P ++ [(a.1, a.2.1, 1, a.2.2.2.1, a.2.2.2.2.1, a.2.2.2.2.2)] = P ++ [a]
      rw [← t1]
    have dl := dec_20 a.2.2.2.1
    obtain ⟨l1, l2, l3, l4, l5, l6⟩ := f2
    refine LSt_mk (as := [a.1, dec a.2.2.2.1]) (by decide) (by decide) rfl (show afX 33 2 = true by decide) (show 2 ≤ 1023 by decide) (fun w hw => ?_) (fun now => ?_) ?_ (by show _ + 2 < _; omega) (by show _ + 2 < _; omega) ?_ (fun z => absurd z (by decide))
    · rcases List.mem_cons.mp hw with rfl | hw
      · exact a1
      · rw [List.mem_singleton.mp hw]; exact dec_wk _
    · have := re_exp hk t2 t3 (nm 33) now
      rw [eu] at this; exact this
    · show _ + (a.1.length + ((dec a.2.2.2.1).length + 0)) + a.1.length ≤ _ ∧ a.1.length + ((dec a.2.2.2.1).length + 0) ≤ _; omega
    · rw [sz_cons, sz_cons]; show 800 + (a.1.length + 26 + ((dec a.2.2.2.1).length + 26 + 0)) ≤ _; omega
def dmR (A : List AK) : List Req := A.flatMap dkR
theorem LK_less {p M M' : Nat} (hM : M ≤ M') : ∀ {ns : List Req} {A B : List AK}, LK p M A ns B → LK p M' A ns B := by
  intro ns
  induction ns with
  | nil => intro A B h; exact h
  | cons r ns ih => intro A B h; obtain ⟨D, h1, h2, h3, h4⟩ := h; exact ⟨D, h1, h2, by omega, ih h4⟩
/-- what is told leads to the list -/
theorem LK_all {N : Nat} : ∀ (Q P : List AK), LI (P ++ Q) N → (∀ a ∈ Q, BYA a) → LK N (kap (P ++ Q)) P (dmR Q) (P ++ Q) := by
  intro Q
  induction Q with
  | nil => intro P _ _; rw [List.append_nil]; rfl
  | cons a Q ih =>
    intro P h hB
    have i := ih (P ++ [a]) (by rw [List.append_assoc]; exact h) (fun b hb => hB b (List.mem_cons_of_mem _ hb))
    rw [List.append_assoc] at i
    exact LK_app (LK_key h (hB a List.mem_cons_self)) i
end DUMP3
