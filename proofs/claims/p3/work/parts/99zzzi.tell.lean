/-! tellPlace; the bytes of a key's elements. -/
section TELL
variable {Y : Nat → MethodName × ByteArray} {d : Nat}
theorem RG_b {σ : mjS} {hs hA hL i : Nat} {w : List Int32} (h : RG σ hs hA hL i w) (ty : mjTY σ) : BY w := by
  obtain ⟨a, -, -, -, h⟩ := h
  rcases h with rfl | ⟨-, h⟩
  · intro x hx; cases hx
  · intro x hx
    rw [← h] at hx
    unfold wd at hx
    obtain ⟨k, -, rfl⟩ := List.mem_map.mp hx
    exact ty.2.1 r_heap _ rfl
theorem Wd.bya {σ : mjS} {ws : Req} {ks : List KR} {l : List Int32} (h : Wd σ ws ks l) (ty : mjTY σ) : ∀ a ∈ strip ks, BYA a := by
  intro a ha
  unfold strip at ha
  obtain ⟨x, hx, rfl⟩ := List.mem_map.mp ha
  obtain ⟨hs, hh, k⟩ := h.kok hx
  refine ⟨RG_b k.2.2.2.2.2.1 ty, fun z hz => ?_⟩
  have hz : z ∈ x.2.2.2.2.2.2.map (fun y => y.2) := hz
  obtain ⟨y, hy, rfl⟩ := List.mem_map.mp hz
  exact RG_b (k.2.2.2.2.2.2.2.2.2.2 y hy).2.2.1 ty
theorem wordsL_1 (w : List Int32) : wordsL [w] = wordL w := by rw [wordsL_cons]; exact List.append_nil _
theorem wordsL_2 (w v : List Int32) : wordsL [w, v] = wordL w ++ wordL v := by rw [wordsL_cons, wordsL_1]
theorem w_noteI {σ : mjS} {ws : Req} {ks : List KR} {l : List Int32} (h : Wd σ ws ks l) (ty : mjTY σ) (v : Int64) (hl : l.length + 46 ≤ 420000) : mjY mjPP (mjQQ Y) (d + 3) 46 0 (mjL0 4 [.ref 0, .long v]) [] σ (fun r u => r = none ∧ Fr nF nH3 σ u ∧ Wd u ws ks (l ++ wordL (dec v))) := by
  refine mjY_mono ty (fun _ u _ q => ?_) (c_noteInteger ty h.2.2.1 v hl)
  obtain ⟨e, f, p⟩ := q
  have f : Fr nF nH3 σ u := f.up (by decide) (by decide)
  exact ⟨e, f, h.nt f p⟩
/-- the head of a request: how many words, and the command -/
def hdL (k i : Nat) : List Int32 := 42 :: dec (lN k) ++ [13, 10] ++ wordL (nm i)
theorem w_noteB {σ : mjS} {ws : Req} {ks : List KR} {l : List Int32} (h : Wd σ ws ks l) (ty : mjTY σ) (hT : TB σ) (hr : σ.1 f_replays = 0) (hb : σ.1 f_inBlock = 0) (k i : Nat) (hk : k < 2 ^ 31) (hi1 : 1 ≤ i) (hi : i ≤ 105) {x1 x2 : Int32} (e1 : x1 = nI k) (e2 : x2 = nI i) (hl : l.length + 132 ≤ 420000) : mjY mjPP (mjQQ Y) (d + 4) 47 0 (mjL0 3 [.ref 0, .int x1, .int x2]) [] σ (fun r u => (∃ z, r = some (.int z)) ∧ Fr nF nH3 σ u ∧ Wd u ws ks (l ++ hdL k i)) := by
  rw [e1, e2]
  refine mjY_mono ty (fun _ u _ q => ?_) (c_noteBegins ty h.2.2.1 k i hk (by omega) hl)
  rcases q with ⟨q, -⟩ | ⟨-, e, f, p⟩
  · exact absurd hr q
  · have eb : begL σ l (lN k) i = hdL k i := by
      unfold begL
      rw [if_neg (fun z => z.1 hb)]
      show headL σ (lN k) i = _
      unfold headL hdL
      rw [hT.nmE hi1 hi]
    rw [eb] at p
    exact ⟨⟨_, e⟩, f, h.nt f p⟩
set_option maxRecDepth 100000 in
theorem w_tellPlace {σ : mjS} {ws : Req} {P Q : List KR} {x : KR} {l : List Int32} (h : Wd σ ws (P ++ x :: Q) l) (ty : mjTY σ) {y : ER} (hy : y ∈ x.2.2.2.2.2.2) (h1 : y.2.1.length ≤ 16384) (h2 : y.2.2.1.length ≤ 16384) {x1 x2 : Int32} (e1 : x1 = nI x.1) (e2 : x2 = nI y.1) (hl : l.length ≤ 381000) : mjY mjPP (mjQQ Y) (d + 4) 190 0 (mjL0 3 [.ref 0, .int x1, .int x2]) [] σ (fun r u => r = none ∧ Fr nF nH3 σ u ∧ Wd u ws (P ++ x :: Q) (l ++ wordsL (tlE x.2.2.1 y.2))) := by
  have hm : x ∈ P ++ x :: Q := List.mem_append_right _ List.mem_cons_self
  obtain ⟨hs, hh, ko⟩ := h.kok hm
  have hx1 := ko.1
  have v1 : vp_in x1 4700 := by rw [e1]; exact vp_in_nI hx1 (by decide)
  have c1 : x1.toNatClampNeg = x.1 := by rw [e1]; exact nI_clamp (by omega)
  have ek : σ.2.2.1 r_kSort x1.toNatClampNeg = x.2.2.1 := by rw [c1]; exact ko.2.2.1
  have eo := ko.2.2.2.2.2.2.2.2.2.2 y hy
  have hy1 := eo.1
  have v2 : vp_in x2 10000 := by rw [e2]; exact vp_in_nI hy1 (by decide)
  have c2 : x2.toNatClampNeg = y.1 := by rw [e2]; exact nI_clamp (by omega)
  have s12 : ∀ (u : mjS) (l : List Int32), mjTY u → Fr nF nH3 σ u → Wd u ws (P ++ x :: Q) l → l.length ≤ 382000 → mjY mjPP (mjQQ Y) (d + 4) 190 12 [some (.ref 0), some (.int x1), some (.int x2)] [] u (fun r v => r = none ∧ Fr nF nH3 σ v ∧ Wd v ws (P ++ x :: Q) (l ++ (if x.2.2.1 = 2 then wordsL [y.2.1, y.2.2.1] else wordsL [y.2.1]))) := by
    intro u l tu fu hu hl
    obtain ⟨hs, hh, ko⟩ := hu.kok hm
    have eo := ko.2.2.2.2.2.2.2.2.2.2 y hy
    obtain ⟨a, a1, a2, a3, a4⟩ := eo.2.1.clamp hh (by omega) e2
    have eku : u.2.2.1 r_kSort x1.toNatClampNeg = x.2.2.1 := by rw [c1]; exact ko.2.2.1
    refine mjZ_y rfl rfl 12 _ _ _ _ tu ?_
    refine (And.intro rfl (And.intro rfl (And.intro rfl (And.intro v2 (And.intro rfl (And.intro rfl (And.intro v2 (And.intro (Nat.le_of_ble_eq_true rfl) (And.intro rfl (And.intro (Nat.le_of_ble_eq_true rfl) (And.intro (Nat.le_of_ble_eq_true rfl) (mjY_mono tu (fun q_ v tv h_ => ?_) (w_noteH (d := d + 1) hu tu a1 a2 a3 a4 (by omega))))))))))))))
    obtain ⟨rfl, fv, hv⟩ := h_
    intro _
    have ekv : v.2.2.1 r_kSort x1.toNatClampNeg = x.2.2.1 := by rw [(fv.2.2 _ (by decide)).1]; exact eku
    have wl := wl10 h1
    have lv : (l ++ wordL y.2.1).length ≤ 399000 := by rw [List.length_append]; omega
    refine mjZ_y rfl rfl 6 _ _ _ _ tv ?_
    refine (And.intro rfl (And.intro rfl (And.intro v1 (And.intro (fun q => ?_) (fun q => ?_)))))
    · have q : ¬ x.2.2.1 = 2 := fun z => q (show v.2.2.1 r_kSort x1.toNatClampNeg = 2 by rw [ekv]; exact z)
      refine mjZ_y rfl rfl 1 _ _ _ _ tv ?_
      refine And.intro rfl (And.intro rfl ?_)
      rw [if_neg q, wordsL_1]
      exact ⟨rfl, fu.tr fv, hv⟩
    · have q : x.2.2.1 = 2 := by
        have := Decidable.of_not_not q
        rw [← ekv]; exact this
      obtain ⟨hs', hh', ko'⟩ := hv.kok hm
      obtain ⟨b, b1, b2, b3, b4⟩ := (ko'.2.2.2.2.2.2.2.2.2.2 y hy).2.2.1.clamp hh' (by omega) e2
      refine mjZ_y rfl rfl 12 _ _ _ _ tv ?_
      refine (And.intro rfl (And.intro rfl (And.intro rfl (And.intro v2 (And.intro rfl (And.intro rfl (And.intro v2 (And.intro (Nat.le_of_ble_eq_true rfl) (And.intro rfl (And.intro (Nat.le_of_ble_eq_true rfl) (And.intro (Nat.le_of_ble_eq_true rfl) (mjY_mono tv (fun q_ w tw h_ => ?_) (w_noteH (d := d + 1) hv tv b1 b2 b3 b4 (by omega))))))))))))))
      obtain ⟨rfl, fw, hw⟩ := h_
      intro _
      refine mjZ_y rfl rfl 1 _ _ _ _ tw ?_
      refine And.intro rfl (And.intro rfl ?_)
      rw [if_pos q, wordsL_2, ← List.append_assoc]
      exact ⟨rfl, (fu.tr fv).tr fw, hw⟩
  refine mjZ_y rfl rfl 6 _ _ _ _ ty ?_
  refine (And.intro rfl (And.intro rfl (And.intro v1 (And.intro (fun q => ?_) (fun q => ?_)))))
  · have q : ¬ x.2.2.1 = 4 := fun z => q (show σ.2.2.1 r_kSort x1.toNatClampNeg = 4 by rw [ek]; exact z)
    refine mjY_mono ty (fun r v _ k => ?_) (s12 σ l ty Fr.rf h (by omega))
    obtain ⟨k1, k2, k3⟩ := k
    refine ⟨k1, k2, ?_⟩
    have e : wordsL (tlE x.2.2.1 y.2) = if x.2.2.1 = 2 then wordsL [y.2.1, y.2.2.1] else wordsL [y.2.1] := by
      unfold tlE
      rw [if_neg q]
      by_cases z : x.2.2.1 = 2
      · rw [if_pos z, if_pos z]
      · rw [if_neg z, if_neg z]
    rw [e]; exact k3
  · have q : x.2.2.1 = 4 := by
      have := Decidable.of_not_not q
      rw [← ek]; exact this
    have es : σ.2.2.2 r_eScore x2.toNatClampNeg = y.2.2.2 := by rw [c2]; exact eo.2.2.2
    refine mjZ_y rfl rfl 6 _ _ _ _ ty ?_
    refine (And.intro rfl (And.intro rfl (And.intro v2 (And.intro (Nat.le_of_ble_eq_true rfl) (And.intro rfl (And.intro (Nat.le_of_ble_eq_true rfl) (And.intro (Nat.le_of_ble_eq_true rfl) (mjY_mono ty (fun q_ u tu h_ => ?_) (w_noteI h ty _ (by omega))))))))))
    obtain ⟨rfl, fu, hu⟩ := h_
    intro _
    have hu : Wd u ws (P ++ x :: Q) (l ++ wordL (dec (σ.2.2.2 r_eScore x2.toNatClampNeg))) := hu
    rw [es] at hu
    have wd' := wl_d y.2.2.2
    refine mjY_mono tu (fun r v _ k => ?_) (s12 u _ tu fu hu (by rw [List.length_append]; omega))
    obtain ⟨k1, k2, k3⟩ := k
    refine ⟨k1, k2, ?_⟩
    have e : wordsL (tlE x.2.2.1 y.2) = wordL (dec y.2.2.2) ++ (if x.2.2.1 = 2 then wordsL [y.2.1, y.2.2.1] else wordsL [y.2.1]) := by
      unfold tlE
      rw [if_pos q, q, if_neg (by decide), wordsL_2, wordsL_1]
    rw [e, ← List.append_assoc]; exact k3
/-- the bytes of the elements, as they are told one by one -/
def mbF (s : Int32) (n : List Int32) (N : Nat) : Nat → List AE → List Int32
  | _, [] => []
  | t, z :: r => (if t % ptS s = 0 then hdL (2 + eaS s * min (ptS s) (N - t)) (idS s) ++ wordL n else []) ++ wordsL (tlE s z) ++ mbF s n N (t + 1) r
theorem mb_run {s : Int32} {n : List Int32} {N : Nat} : ∀ (c r : List AE) (t : Nat), (∀ i, i < c.length → ¬ (t + i) % ptS s = 0) → mbF s n N t (c ++ r) = wordsL (c.flatMap (tlE s)) ++ mbF s n N (t + c.length) r := by
  intro c
  induction c with
  | nil => intro r t _; rfl
  | cons z c ih =>
    intro r t h
    show (if t % ptS s = 0 then _ else []) ++ wordsL (tlE s z) ++ mbF s n N (t + 1) (c ++ r) = _
    have h0 : ¬ t % ptS s = 0 := h 0 (by show 0 < c.length + 1; omega)
    rw [if_neg h0, List.nil_append, ih r (t + 1) (fun i hi => by
      have := h (i + 1) (by show i + 1 < c.length + 1; omega)
      rw [show t + 1 + i = t + (i + 1) by omega]; exact this), List.flatMap_cons, wordsL_ap, List.append_assoc, List.length_cons, show t + 1 + c.length = t + (c.length + 1) by omega]
theorem enc_rq {s : Int32} {n : List Int32} {c : List AE} {k : Nat} (hk : (rqE s n c).length = k) : encR (rqE s n c) = hdL k (idS s) ++ wordL n ++ wordsL (c.flatMap (tlE s)) := by
  have e : wordsL (rqE s n c) = wordL (nm (idS s)) ++ (wordL n ++ wordsL (c.flatMap (tlE s))) := by
    unfold rqE; rw [wordsL_cons, wordsL_cons]
  unfold encR hdL
  rw [hk, e]
  generalize wordL (nm (idS s)) = W
  generalize wordL n = V
  generalize wordsL (c.flatMap (tlE s)) = U
  generalize 42 :: dec (lN k) ++ [13, 10] = H
  rw [List.append_assoc, List.append_assoc]
theorem mb_enc {s : Int32} (hs : s = 1 ∨ s = 2 ∨ s = 3 ∨ s = 4) {n : List Int32} {N : Nat} : ∀ (f : Nat) (r : List AE) (t : Nat), r.length ≤ f → t % ptS s = 0 → t + r.length = N → mbF s n N t r = encs ((ckF (ptS s) f r).map (rqE s n)) := by
  have hm : 1 ≤ ptS s := by rcases hs with z | z | z | z <;> rw [z] <;> decide
  intro f
  induction f with
  | zero =>
    intro r t hr _ _
    have e0 : r = [] := List.length_eq_zero_iff.mp (Nat.le_zero.mp hr)
    subst e0; rfl
  | succ f ih =>
    intro r t hr ht hN
    cases r with
    | nil =>
      have e1 : ckF (ptS s) (f + 1) [] = [] := if_pos rfl
      rw [e1]; rfl
    | cons z r =>
      have e1 : ckF (ptS s) (f + 1) (z :: r) = (z :: r).take (ptS s) :: ckF (ptS s) f ((z :: r).drop (ptS s)) := if_neg (by simp)
      obtain ⟨m, hm1⟩ : ∃ m, ptS s = m + 1 := ⟨_, (Nat.succ_pred_eq_of_pos hm).symm⟩
      have e2 : (z :: r).take (ptS s) = z :: r.take m := by rw [hm1]; rfl
      have e3 : (z :: r).drop (ptS s) = r.drop m := by rw [hm1]; rfl
      have hl : (z :: r).length = r.length + 1 := rfl
      have hN2 : t + (r.length + 1) = N := hN
      rw [e1, e2, e3, List.map_cons, encs_cons]
      have ec : (z :: r.take m).length = min (ptS s) (N - t) := by
        show (r.take m).length + 1 = _
        rw [List.length_take, hm1]; omega
      have el : (rqE s n (z :: r.take m)).length = 2 + eaS s * min (ptS s) (N - t) := by
        show ((z :: r.take m).flatMap (tlE s)).length + 1 + 1 = _
        rw [tl_len hs, ec]; omega
      rw [enc_rq el]
      have h1 : mbF s n N t (z :: r) = (hdL (2 + eaS s * min (ptS s) (N - t)) (idS s) ++ wordL n) ++ wordsL (tlE s z) ++ mbF s n N (t + 1) (r.take m ++ r.drop m) := by
        rw [List.take_append_drop]
        show (if t % ptS s = 0 then _ else []) ++ _ ++ _ = _
        rw [if_pos ht]
      rw [h1, mb_run (r.take m) (r.drop m) (t + 1) (fun i hi => by
        rw [List.length_take] at hi
        rw [show t + 1 + i = t + (i + 1) by omega, Nat.add_mod, ht, Nat.zero_add, Nat.mod_mod, Nat.mod_eq_of_lt (by omega)]
        omega), List.flatMap_cons, wordsL_ap]
      have h2 : mbF s n N (t + 1 + (r.take m).length) (r.drop m) = encs ((ckF (ptS s) f (r.drop m)).map (rqE s n)) := by
        by_cases c : r.length ≤ m
        · have e0 : r.drop m = [] := List.drop_eq_nil_of_le c
          rw [e0]
          have e4 : ckF (ptS s) f [] = [] := by
            cases f with
            | zero => rfl
            | succ f => exact if_pos rfl
          rw [e4]; rfl
        · have e5 : (r.take m).length = m := by rw [List.length_take]; omega
          refine ih (r.drop m) _ (by rw [List.length_drop]; omega) ?_ ?_
          · rw [e5, show t + 1 + m = t + ptS s by omega, Nat.add_mod_right]; exact ht
          · rw [e5, List.length_drop]; omega
      rw [h2]
      simp only [List.append_assoc]
end TELL
