/-! rewrite, whole. -/
section REWRITE2
variable {Y : Nat → MethodName × ByteArray} {d : Nat}
theorem enc3 (i : Nat) (u v : List Int32) : encR [nm i, u, v] = hdL 3 i ++ wordL u ++ wordL v := by
  have e : wordsL [nm i, u, v] = wordL (nm i) ++ (wordL u ++ wordL v) := by rw [wordsL_cons, wordsL_2]
  unfold encR hdL
  rw [e]
  show 42 :: dec (lN 3) ++ [13, 10] ++ _ = _
  generalize wordL (nm i) = W
  generalize wordL u = V
  generalize wordL v = U
  generalize 42 :: dec (lN 3) ++ [13, 10] = H
  rw [List.append_assoc, List.append_assoc]
def kbA (x : KR) : List Int32 := if x.2.2.1 = 0 then hdL 3 2 ++ wordL x.2.1 ++ wordL x.2.2.2.2.2.1 else []
def kbB (x : KR) : List Int32 := mbF x.2.2.1 x.2.1 x.2.2.2.2.2.2.length 0 (x.2.2.2.2.2.2.map (fun y => y.2))
def kbC (x : KR) : List Int32 := if x.2.2.2.1 = 0 then [] else hdL 3 33 ++ wordL x.2.1 ++ wordL (dec x.2.2.2.2.1)
theorem kb_all {x : KR} (h : AOK (st1 x)) : encs (dkR (st1 x)) = kbA x ++ kbB x ++ kbC x := by
  obtain ⟨a1, a2, a3, a4, a5, a6⟩ := h
  have c3 : encs (if (st1 x).2.2.1 = 0 then [] else [[nm 33, (st1 x).1, dec (st1 x).2.2.2.1]]) = kbC x := by
    unfold kbC
    show encs (if x.2.2.2.1 = 0 then [] else [[nm 33, x.2.1, dec (tmN x.2.2.2.1 x.2.2.2.2.1)]]) = _
    by_cases c : x.2.2.2.1 = 0
    · rw [if_pos c, if_pos c]; rfl
    · rw [if_neg c, if_neg c, encs_1, enc3]
      unfold tmN; rw [if_neg c]
  unfold dkR
  rw [encs_app, c3]
  congr 1
  show encs (if x.2.2.1 = 0 then [[nm 2, x.2.1, x.2.2.2.2.2.1]] else (ckF (ptS x.2.2.1) (x.2.2.2.2.2.2.map (fun y => y.2)).length (x.2.2.2.2.2.2.map (fun y => y.2))).map (rqE x.2.2.1 x.2.1)) = _
  unfold kbA kbB
  by_cases c : x.2.2.1 = 0
  · rw [if_pos c, if_pos c, encs_1, enc3]
    have e0 : x.2.2.2.2.2.2.map (fun y => y.2) = [] := a3.2.1 c
    rw [e0]
    exact (List.append_nil _).symm
  · rw [if_neg c, if_neg c, List.nil_append, List.length_map]
    have hs : x.2.2.1 = 1 ∨ x.2.2.1 = 2 ∨ x.2.2.1 = 3 ∨ x.2.2.1 = 4 := a6.resolve_left c
    have hl : (x.2.2.2.2.2.2.map (fun y => y.2)).length = x.2.2.2.2.2.2.length := List.length_map _
    exact (mb_enc hs _ _ 0 (by omega) (Nat.zero_mod _) (by omega)).symm
set_option maxRecDepth 100000 in
theorem c_rw_loop (K : mjK) {ws : Req} {ks : List KR} {N : Nat} (hL : LI (strip ks) N) : ∀ (Q1 P1 : List KR) (σ : mjS) (l : List Int32) (x1 : Int32) (l2 l3 l4 l5 l6 l7 l8 l9 : Option Value), ks = P1 ++ Q1 → x1 = nI P1.length → mjTY σ → RWI σ ws ks l → l.length + (encs (dmR (strip Q1))).length ≤ 380000 →
    (∀ (u : mjS) (x1 : Int32) (l2 l3 l4 l5 l6 l7 l8 l9 : Option Value), mjTY u → Fr nF nH3 σ u → RWI u ws ks (l ++ encs (dmR (strip Q1))) → mjY mjPP (mjQQ Y) (d + 5) 191 185 [some (.ref 0), some (.int x1), l2, l3, l4, l5, l6, l7, l8, l9] [] u K) →
    mjY mjPP (mjQQ Y) (d + 5) 191 13 [some (.ref 0), some (.int x1), l2, l3, l4, l5, l6, l7, l8, l9] [] σ K := by
  intro Q1
  induction Q1 with
  | nil =>
    intro P1 σ l x1 l2 l3 l4 l5 l6 l7 l8 l9 hk e1 ty h hl hK
    rw [List.append_nil] at hk
    obtain ⟨hs, fk, fe, k⟩ := h.1.1
    have hn := ks_len k
    refine mjZ_y rfl rfl 4 _ _ _ _ ty ?_
    refine (And.intro rfl (And.intro (fun c => ?_) (fun c => ?_)))
    · refine hK σ _ _ _ _ _ _ _ _ _ ty Fr.rf ?_
      show RWI σ ws ks (l ++ [])
      rw [List.append_nil]; exact h
    · exact absurd (show σ.1 f_keys ≤ x1 by rw [k.2.2.1, e1, hk]; exact Int32.le_refl _) c
  | cons x Q1 ih =>
    intro P1 σ l x1 l2 l3 l4 l5 l6 l7 l8 l9 hk e1 ty h hl hK
    subst hk
    have ha : AOK (st1 x) := hL.1.2 (st1 x) (by rw [strip_app, strip_cons]; exact List.mem_append_right _ List.mem_cons_self)
    have hm : x ∈ P1 ++ x :: Q1 := List.mem_append_right _ List.mem_cons_self
    have eB : encs (dmR (strip (x :: Q1))) = kbA x ++ kbB x ++ kbC x ++ encs (dmR (strip Q1)) := by
      rw [strip_cons]
      show encs (dkR (st1 x) ++ dmR (strip Q1)) = _
      rw [encs_app, kb_all ha]
    rw [eB] at hl hK
    rw [List.length_append, List.length_append, List.length_append] at hl
    obtain ⟨a1, a2, a3, a4, a5, a6⟩ := ha
    have hx : x.2.1.length ≤ 16384 := a1.1
    have ht : x.2.2.2.2.2.1.length ≤ 16384 := a2
    have wx := wl10 hx
    have wt := wl10 ht
    have h5 : x.2.2.1 = 0 ∨ x.2.2.1 = 1 ∨ x.2.2.1 = 2 ∨ x.2.2.1 = 3 ∨ x.2.2.1 = 4 := a6
    have hE : ∀ y ∈ x.2.2.2.2.2.2, y.2.1.length ≤ 16384 ∧ y.2.2.1.length ≤ 16384 := fun y hy => by
      have := a3.1 y.2 (List.mem_map.mpr ⟨y, hy, rfl⟩)
      exact ⟨this.1.1, this.2⟩
    have hn := W_len h.1
    obtain ⟨hs, fk, fe, k⟩ := h.1.1
    have hkl := ks_len k
    have hkl2 : P1.length + (Q1.length + 1) ≤ 4700 := by
      rw [List.length_append] at hkl
      have : (x :: Q1).length = Q1.length + 1 := rfl
      omega
    have gq : (P1 ++ x :: Q1)[P1.length]? = some x := by rw [List.getElem?_append_right (Nat.le_refl _), Nat.sub_self]; rfl
    have eo : σ.2.2.1 r_order x1.toNatClampNeg = nI x.1 := by rw [e1, nI_clamp (by omega)]; exact k.2.2.2.1 P1.length x gq
    have hx1 := h.1.id
    have key : ∀ x2 : Int32, x2 = nI x.1 → vp_in x2 4700 ∧ ∀ (u : mjS) (l : List Int32), Wd u ws (P1 ++ x :: Q1) l → u.2.2.1 r_kSort x2.toNatClampNeg = x.2.2.1 ∧ u.2.2.1 r_kTimed x2.toNatClampNeg = x.2.2.2.1 ∧ u.2.2.2 r_kTime x2.toNatClampNeg = x.2.2.2.2.1 ∧ (∃ a : Nat, u.2.2.1 r_kAt x2.toNatClampNeg = nI a ∧ u.2.2.1 r_kLen x2.toNatClampNeg = nI x.2.1.length ∧ a + x.2.1.length ≤ 300000 ∧ wd (u.2.2.1 r_heap) a x.2.1.length = x.2.1) ∧ (∃ a : Nat, u.2.2.1 r_tAt x2.toNatClampNeg = nI a ∧ u.2.2.1 r_tLen x2.toNatClampNeg = nI x.2.2.2.2.2.1.length ∧ a + x.2.2.2.2.2.1.length ≤ 300000 ∧ wd (u.2.2.1 r_heap) a x.2.2.2.2.2.1.length = x.2.2.2.2.2.1) := by
      intro x2 e2
      refine ⟨by rw [e2]; exact vp_in_nI hx1 (by decide), fun u l hu => ?_⟩
      obtain ⟨hs, hh, ko⟩ := hu.kok hm
      have c2 : x2.toNatClampNeg = x.1 := by rw [e2]; exact nI_clamp (by omega)
      refine ⟨by rw [c2]; exact ko.2.2.1, by rw [c2]; exact ko.2.2.2.1, by rw [c2]; exact ko.2.2.2.2.1, ko.2.1.clamp hh (by omega) e2, ko.2.2.2.2.2.1.clamp hh (by omega) e2⟩
    obtain ⟨x2, ex2⟩ : ∃ x2, x2 = σ.2.2.1 r_order x1.toNatClampNeg := ⟨_, rfl⟩
    have e2 : x2 = nI x.1 := ex2.trans eo
    obtain ⟨v2, key⟩ := key x2 e2
    have s183 : ∀ (u : mjS) (m3 m4 m5 m6 m7 m8 m9 : Option Value), mjTY u → Fr nF nH3 σ u → RWI u ws (P1 ++ x :: Q1) (l ++ (kbA x ++ kbB x ++ kbC x)) → mjY mjPP (mjQQ Y) (d + 5) 191 183 [some (.ref 0), some (.int x1), some (.int x2), m3, m4, m5, m6, m7, m8, m9] [] u K := by
      intro u m3 m4 m5 m6 m7 m8 m9 tu fu hu
      refine mjZ_y rfl rfl 2 _ _ _ _ tu ?_
      have el : (P1 ++ [x]).length = P1.length + 1 := by rw [List.length_append]; rfl
      refine ih (P1 ++ [x]) u _ _ _ _ _ _ _ _ _ _ (by rw [List.append_assoc]; rfl) (by rw [e1, el]; exact nI_1 _) tu hu (by rw [List.length_append, List.length_append, List.length_append]; omega) (fun v y1 n2 n3 n4 n5 n6 n7 n8 n9 tv fv hv => ?_)
      refine hK v y1 n2 n3 n4 n5 n6 n7 n8 n9 tv (fu.tr fv) ?_
      rw [← List.append_assoc]; exact hv
    have s155 : ∀ (u : mjS) (x3 x4 x5 x6 x7 x8 : Int32) (m9 : Option Value), mjTY u → Fr nF nH3 σ u → RWI u ws (P1 ++ x :: Q1) (l ++ (kbA x ++ kbB x)) → mjY mjPP (mjQQ Y) (d + 5) 191 155 [some (.ref 0), some (.int x1), some (.int x2), some (.int x3), some (.int x4), some (.int x5), some (.int x6), some (.int x7), some (.int x8), m9] [] u K := by
      intro u x3 x4 x5 x6 x7 x8 m9 tu fu hu
      obtain ⟨-, k2, k3, ⟨a, b1, b2, b3, b4⟩, -⟩ := key u _ hu.1
      refine mjZ_y rfl rfl 5 _ _ _ _ tu ?_
      refine (And.intro rfl (And.intro (Or.inr rfl) (And.intro v2 (And.intro (fun q => ?_) (fun q => ?_)))))
      · have q : x.2.2.2.1 = 0 := by rw [← k2]; exact q
        refine s183 u _ _ _ _ _ _ _ tu fu ?_
        unfold kbC
        rw [if_pos q, List.append_nil]; exact hu
      · have q : ¬ x.2.2.2.1 = 0 := by rw [← k2]; exact q
        have ec : kbC x = hdL 3 33 ++ wordL x.2.1 ++ wordL (dec x.2.2.2.2.1) := if_neg q
        rw [ec, List.length_append, List.length_append] at hl
        have hl0 : (l ++ (kbA x ++ kbB x)).length = l.length + ((kbA x).length + (kbB x).length) := by rw [List.length_append, List.length_append]
        refine mjZ_y rfl rfl 4 _ _ _ _ tu ?_
        refine (And.intro (Nat.le_of_ble_eq_true rfl) (And.intro rfl (And.intro (Nat.le_of_ble_eq_true rfl) (And.intro (Nat.le_of_ble_eq_true rfl) (mjY_mono tu (fun q_ v tv h_ => ?_) (w_noteB hu.1 tu hu.2.1 hu.2.2.1 hu.2.2.2 3 33 (by decide) (by decide) (by decide) rfl rfl (by omega)))))))
        obtain ⟨⟨z, rfl⟩, fv, hv⟩ := h_
        intro _
        obtain ⟨-, -, -, ⟨a, b1, b2, b3, b4⟩, -⟩ := key v _ hv
        have hl1 : (l ++ (kbA x ++ kbB x) ++ hdL 3 33).length = l.length + ((kbA x).length + (kbB x).length) + (hdL 3 33).length := by rw [List.length_append, hl0]
        refine mjZ_y rfl rfl 13 _ _ _ _ tv ?_
        refine (And.intro rfl (And.intro rfl (And.intro rfl (And.intro v2 (And.intro rfl (And.intro rfl (And.intro v2 (And.intro (Nat.le_of_ble_eq_true rfl) (And.intro rfl (And.intro (Nat.le_of_ble_eq_true rfl) (And.intro (Nat.le_of_ble_eq_true rfl) (mjY_mono tv (fun q_ w tw h_ => ?_) (w_noteH (d := d + 2) hv tv b1 b2 b3 b4 (by omega))))))))))))))
        obtain ⟨rfl, fw, hw⟩ := h_
        intro _
        obtain ⟨-, -, k3', -⟩ := key w _ hw
        have hl2 : (l ++ (kbA x ++ kbB x) ++ hdL 3 33 ++ wordL x.2.1).length = l.length + ((kbA x).length + (kbB x).length) + (hdL 3 33).length + (wordL x.2.1).length := by rw [List.length_append, hl1]
        refine mjZ_y rfl rfl 6 _ _ _ _ tw ?_
        refine (And.intro rfl (And.intro rfl (And.intro v2 (And.intro (Nat.le_of_ble_eq_true rfl) (And.intro rfl (And.intro (Nat.le_of_ble_eq_true rfl) (And.intro (Nat.le_of_ble_eq_true rfl) (mjY_mono tw (fun q_ y tyy h_ => ?_) (w_noteI (d := d + 1) hw tw _ (by omega))))))))))
        obtain ⟨rfl, fy, hy⟩ := h_
        intro _
        have hy : Wd y ws (P1 ++ x :: Q1) (l ++ (kbA x ++ kbB x) ++ hdL 3 33 ++ wordL x.2.1 ++ wordL (dec (w.2.2.2 r_kTime x2.toNatClampNeg))) := hy
        rw [k3'] at hy
        refine s183 y _ _ _ _ _ _ _ tyy (((fu.tr fv).tr fw).tr fy) ?_
        rw [ec]
        have := ((hu.nt fv hv).nt fw hw).nt fy hy
        rw [← List.append_assoc, ← List.append_assoc, ← List.append_assoc] 
        exact this
    have s56 : ∀ (u : mjS) (m3 m4 m5 m6 m7 m8 m9 : Option Value), mjTY u → Fr nF nH3 σ u → RWI u ws (P1 ++ x :: Q1) (l ++ kbA x) → mjY mjPP (mjQQ Y) (d + 5) 191 56 [some (.ref 0), some (.int x1), some (.int x2), m3, m4, m5, m6, m7, m8, m9] [] u K := by
      intro u m3 m4 m5 m6 m7 m8 m9 tu fu hu
      refine c_rw_id _ tu x1 x2 _ _ _ _ _ _ _ v2 (key u _ hu.1).1 h5 (fun x3 x4 x5 e3 e4 e5 => ?_)
      obtain ⟨-, w2, w3, -⟩ := W_tail hu.1 e2
      refine mjZ_y rfl rfl 12 _ _ _ _ tu ?_
      refine (And.intro rfl (And.intro rfl (And.intro v2 (And.intro (Nat.le_of_ble_eq_true rfl) (And.intro (Nat.le_of_ble_eq_true rfl) (And.intro rfl (And.intro rfl (And.intro v2 (And.intro (Nat.le_of_ble_eq_true rfl) ?_)))))))))
      refine c_rw_in _ hx hE hn x1 x2 x3 x4 x5 _ e2 e3 e4 e5 w3 x.2.2.2.2.2.2 [] u (l ++ kbA x) _ _ _ rfl w2 rfl tu hu ?_ (fun v y7 y8 n9 tv fv hv => ?_)
      · rw [List.length_append]; show _ + (kbB x).length ≤ _; omega
      · refine s155 v _ _ _ _ _ _ _ tv (fu.tr fv) ?_
        rw [← List.append_assoc]; exact hv
    refine mjZ_y rfl rfl 4 _ _ _ _ ty ?_
    refine (And.intro rfl (And.intro (fun c => ?_) (fun c => ?_)))
    · refine absurd (show σ.1 f_keys ≤ x1 from c) ?_
      rw [k.2.2.1, e1]
      refine nI_ge ?_ (by omega)
      rw [List.length_append]; show P1.length < P1.length + (Q1.length + 1); omega
    refine mjZ_y rfl rfl 10 _ _ _ _ ty ?_
    refine (And.intro rfl (And.intro rfl (And.intro (show vp_in x1 4700 by rw [e1]; exact vp_in_nI (by omega) (by decide)) (And.intro (Nat.le_of_ble_eq_true rfl) (And.intro rfl (And.intro rfl (And.intro (show vp_in (σ.2.2.1 r_order x1.toNatClampNeg) 4700 by rw [← ex2]; exact v2) (And.intro (fun q => ?_) (fun q => ?_)))))))))
    · have q : ¬ x.2.2.1 = 0 := fun z => q (show σ.2.2.1 r_kSort (σ.2.2.1 r_order x1.toNatClampNeg).toNatClampNeg = 0 by rw [← ex2, (key σ _ h.1).1]; exact z)
      subst ex2
      refine s56 σ _ _ _ _ _ _ _ ty Fr.rf ?_
      unfold kbA
      rw [if_neg q, List.append_nil]; exact h
    · have q : x.2.2.1 = 0 := by
        have z : σ.2.2.1 r_kSort (σ.2.2.1 r_order x1.toNatClampNeg).toNatClampNeg = 0 := Decidable.of_not_not q
        rw [← ex2, (key σ _ h.1).1] at z; exact z
      subst ex2
      have ea : kbA x = hdL 3 2 ++ wordL x.2.1 ++ wordL x.2.2.2.2.2.1 := if_pos q
      have hl9 := hl
      rw [ea, List.length_append, List.length_append] at hl9
      refine mjZ_y rfl rfl 4 _ _ _ _ ty ?_
      refine (And.intro (Nat.le_of_ble_eq_true rfl) (And.intro rfl (And.intro (Nat.le_of_ble_eq_true rfl) (And.intro (Nat.le_of_ble_eq_true rfl) (mjY_mono ty (fun q_ v tv h_ => ?_) (w_noteB h.1 ty h.2.1 h.2.2.1 h.2.2.2 3 2 (by decide) (by decide) (by decide) rfl rfl (by omega)))))))
      obtain ⟨⟨z, rfl⟩, fv, hv⟩ := h_
      intro _
      obtain ⟨-, -, -, ⟨a, b1, b2, b3, b4⟩, -⟩ := key v _ hv
      have hl1 : (l ++ hdL 3 2).length = l.length + (hdL 3 2).length := List.length_append
      refine mjZ_y rfl rfl 13 _ _ _ _ tv ?_
      refine (And.intro rfl (And.intro rfl (And.intro rfl (And.intro v2 (And.intro rfl (And.intro rfl (And.intro v2 (And.intro (Nat.le_of_ble_eq_true rfl) (And.intro rfl (And.intro (Nat.le_of_ble_eq_true rfl) (And.intro (Nat.le_of_ble_eq_true rfl) (mjY_mono tv (fun q_ w tw h_ => ?_) (w_noteH (d := d + 2) hv tv b1 b2 b3 b4 (by omega))))))))))))))
      obtain ⟨rfl, fw, hw⟩ := h_
      intro _
      obtain ⟨-, -, -, -, ⟨a', b1', b2', b3', b4'⟩⟩ := key w _ hw
      have hl2 : (l ++ hdL 3 2 ++ wordL x.2.1).length = l.length + (hdL 3 2).length + (wordL x.2.1).length := by rw [List.length_append, hl1]
      refine mjZ_y rfl rfl 12 _ _ _ _ tw ?_
      refine (And.intro rfl (And.intro rfl (And.intro rfl (And.intro v2 (And.intro rfl (And.intro rfl (And.intro v2 (And.intro (Nat.le_of_ble_eq_true rfl) (And.intro rfl (And.intro (Nat.le_of_ble_eq_true rfl) (And.intro (Nat.le_of_ble_eq_true rfl) (mjY_mono tw (fun q_ y tyy h_ => ?_) (w_noteH (d := d + 2) hw tw b1' b2' b3' b4' (by omega))))))))))))))
      obtain ⟨rfl, fy, hy⟩ := h_
      intro _
      refine s56 y _ _ _ _ _ _ _ tyy ((fv.tr fw).tr fy) ?_
      rw [ea, ← List.append_assoc, ← List.append_assoc]
      exact ((h.nt fv hv).nt fw hw).nt fy hy
end REWRITE2
