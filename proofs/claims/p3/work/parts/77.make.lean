/-! makeKey: a key comes to the store. -/
section MAKE
variable {Y : Nat → MethodName × ByteArray} {d : Nat}
theorem ks_make {v u : mjS} {hs n : Nat} {A B : List KR} {x : KR} {fk fe : List Nat} (h : KS v hs (A ++ B) (fk ++ [x.1]) fe) (hh : hs + n ≤ 300000) (e1 : u.1 f_heapSize = nI (hs + n)) (aH : AgH v u hs) (g1 : u.1 f_keys = nI ((A ++ B).length + 1)) (g2 : u.1 f_kFrees = nI fk.length) (g3 : u.1 f_eFree = v.1 f_eFree)
    (o : ∀ j, u.2.2.1 r_order j = if j = A.length then nI x.1 else if A.length < j ∧ j ≤ (A ++ B).length then v.2.2.1 r_order (j - 1) else v.2.2.1 r_order j) (hF : u.2.2.1 r_kFree = v.2.2.1 r_kFree) (aK : ∀ j, j ≠ x.1 → AgK v u j) (aE : ∀ j, AgE v u j) (hx : KOK u (hs + n) x) (hes : x.2.2.2.2.2.2 = []) : KS u (hs + n) (A ++ x :: B) fk fe := by
  obtain ⟨a1, a2, a3, a4, a5, a6, a7, a8, a9, a10, a11, a12, a13, a14, a15, a16, a17⟩ := h
  have ee : eIds (A ++ x :: B) = eIds (A ++ B) := by rw [eIds_app, eIds_app, eIds_cons, hes]; rfl
  have ep : (kIds (A ++ x :: B) ++ fk).Perm (kIds (A ++ B) ++ (fk ++ [x.1])) := by
    rw [kIds_app, kIds_app, kIds_cons, List.append_assoc, List.append_assoc]
    refine List.Perm.append_left _ ?_
    rw [← List.append_assoc]
    exact List.perm_append_comm (l₁ := [x.1])
  have n8 := List.nodup_append.mp a8
  have nf := List.nodup_append.mp n8.2.1
  have oth : ∀ y ∈ A ++ B, y.1 ≠ x.1 := fun y hy => n8.2.2 y.1 (mem_kIds hy) x.1 (List.mem_append_right _ List.mem_cons_self)
  refine ⟨e1, hh, by rw [g1, List.length_append, List.length_append, List.length_cons]; rfl, ?_, ?_, g2, ?_, ep.nodup_iff.mpr a8, fun k hk => a9 k (ep.mem_iff.mp hk), ep.length_eq.trans a10, by rw [ee]; exact a11, by rw [ee]; exact a12, by rw [ee]; exact a13, g3.trans a14, FSEG.fr a15 (fun j _ => (aE j).1 r_eNext (by decide)), ?_, ?_⟩
  · intro i y hy
    rw [o]
    by_cases c : i = A.length
    · rw [if_pos c]
      rw [c, List.getElem?_append_right (Nat.le_refl _), Nat.sub_self] at hy
      have e : x = y := Option.some.inj hy
      rw [e]
    · rw [if_neg c]
      have hi := (List.getElem?_eq_some_iff.mp hy).1
      rw [List.length_append, List.length_cons] at hi
      by_cases c2 : i < A.length
      · rw [if_neg (by omega)]
        rw [List.getElem?_append_left c2] at hy
        exact a4 i y (by rw [List.getElem?_append_left c2]; exact hy)
      · rw [if_pos ⟨by omega, by rw [List.length_append]; omega⟩]
        rw [List.getElem?_append_right (by omega), show i - A.length = (i - 1 - A.length) + 1 by omega] at hy
        refine a4 (i - 1) y ?_
        rw [List.getElem?_append_right (by omega)]
        exact hy
  · intro y hy
    rcases List.mem_append.mp hy with hy | hy
    · have m : y ∈ A ++ B := List.mem_append_left _ hy
      exact (a5 y m).fr (aK _ (oth y m)) (fun e _ => aE e) aH (Nat.le_add_right _ _)
    · rcases List.mem_cons.mp hy with rfl | hy
      · exact hx
      · have m : y ∈ A ++ B := List.mem_append_right _ hy
        exact (a5 y m).fr (aK _ (oth y m)) (fun e _ => aE e) aH (Nat.le_add_right _ _)
  · intro i k hi
    rw [hF]
    exact a7 i k (by rw [List.getElem?_append_left (List.getElem?_eq_some_iff.mp hi).1]; exact hi)
  · intro e he
    obtain ⟨⟨p, p1, p2⟩, q, q1, q2⟩ := a16 e he
    exact ⟨⟨p, p1, by rw [(aE e).1 r_eAt (by decide)]; exact p2⟩, q, q1, by rw [(aE e).1 r_vAt (by decide)]; exact q2⟩
  · intro k hk
    have ne : k ≠ x.1 := nf.2.2 k hk x.1 List.mem_cons_self
    obtain ⟨⟨p, p1, p2⟩, q, q1, q2⟩ := a17 k (List.mem_append_left _ hk)
    exact ⟨⟨p, p1, by rw [(aK k ne).1 r_kAt (by decide)]; exact p2⟩, q, q1, by rw [(aK k ne).1 r_tAt (by decide)]; exact q2⟩
set_option maxRecDepth 100000 in
theorem c_make_sh (K : mjK) (p N : Nat) (hN : N < 4700) (x1 x2 x4 : Int32) (O : Nat → Int32) : ∀ (m i : Nat) (σ : mjS) (x5 : Int32), x5 = nI i → i = p + m → i ≤ N → mjTY σ → (∀ j, σ.2.2.1 r_order j = if i < j ∧ j ≤ N then O (j - 1) else O j) →
    (∀ u l5, mjTY u → Fr [] [r_order] σ u → (∀ j, u.2.2.1 r_order j = if p < j ∧ j ≤ N then O (j - 1) else O j) → mjY mjPP (mjQQ Y) d 12 40 [some (.ref 0), some (.int x1), some (.int x2), some (.int (nI p)), some (.int x4), l5] [] u K) →
    mjY mjPP (mjQQ Y) d 12 25 [some (.ref 0), some (.int x1), some (.int x2), some (.int (nI p)), some (.int x4), some (.int x5)] [] σ K := by
  intro m
  induction m with
  | zero =>
    intro i σ x5 e5 hi hiN ty eo hK
    subst e5
    have hi : i = p := by omega
    subst hi
    refine mjZ_y rfl rfl 3 _ _ _ _ ty ?_
    exact And.intro (fun _ => hK σ _ ty Fr.rf eo) (fun c => absurd (show nI i ≤ nI i from nI_le (Nat.le_refl _) (by omega)) c)
  | succ m ih =>
    intro i σ x5 e5 hi hiN ty eo hK
    subst e5
    have es : nI i - Int32.ofInt 1 = nI (i - 1) := by
      rw [show Int32.ofInt 1 = nI 1 from rfl, pk_sub (by omega)]
    have ea : nI i + Int32.ofInt (-1) = nI (i - 1) := by
      rw [← es, Int32.sub_eq_add_neg]; rfl
    have ic : (nI i).toNatClampNeg = i := nI_clamp (by omega)
    have jc : (nI i - Int32.ofInt 1).toNatClampNeg = i - 1 := by rw [es]; exact nI_clamp (by omega)
    refine mjZ_y rfl rfl 15 _ _ _ _ ty ?_
    refine And.intro (fun c => absurd (show nI i ≤ nI p from c) (nI_ge (by omega) (by omega))) (fun _ => ?_)
    refine And.intro rfl (And.intro rfl (And.intro rfl (And.intro (show vp_in (nI i - Int32.ofInt 1) 4700 by rw [es]; exact vp_in_nI (by omega) (by decide)) (And.intro rfl (And.intro (vp_in_nI (by show i < 4700; omega) (by decide)) (fun ty1 => ?_))))))
    have q := ih (i - 1) (σ.1, σ.2.1, mjIu σ.2.2.1 r_order (nI i).toNatClampNeg (σ.2.2.1 r_order (nI i - Int32.ofInt 1).toNatClampNeg), σ.2.2.2) (nI (i - 1)) rfl (by omega) (by omega) ty1 (fun j => ?_) (fun u l5 tu fu pu => hK u l5 tu ((Fr.a (by decide)).tr fu) pu)
    · rw [← ea] at q
      refine mjZ_re rfl rfl 2 ty1 ?_
      exact q
    show mjIu σ.2.2.1 r_order (nI i).toNatClampNeg (σ.2.2.1 r_order (nI i - Int32.ofInt 1).toNatClampNeg) r_order j = _
    rw [mjIu_s, ic, jc, eo, eo]
    by_cases c : j = i
    · rw [if_pos c, if_neg (by omega), if_pos (by omega), c]
    · rw [if_neg c]
      by_cases c2 : i < j ∧ j ≤ N
      · rw [if_pos c2, if_pos (by omega)]
      · rw [if_neg c2, if_neg (by omega)]
end MAKE
