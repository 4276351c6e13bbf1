/-! expire, pass. -/
section EXPIRE
variable {Y : Nat → MethodName × ByteArray} {d : Nat}
theorem ky_get {A : List AK} {i : Nat} {a : AK} (hA : SRT A) (hi : A[i]? = some a) : kyI A a.1 = some i := by
  have hl : (anm A).length = A.length := anm_len A
  obtain ⟨h1, h2⟩ := List.getElem?_eq_some_iff.mp hi
  have en : ∀ j (h : j < A.length), (anm A).getD j [] = (A[j]).1 := fun j h => anm_get (List.getElem?_eq_getElem h)
  have hp : plF (anm A) a.1 = i := by
    refine plF_uniq hA a.1 i (by omega) (fun j hj => ?_) (fun j g1 g2 => ?_)
    · have := hA j i hj (by omega)
      rw [en i h1, h2] at this; exact this
    · by_cases c : j = i
      · subst c; rw [en j h1, h2, cmpW_self]; decide
      · have := hA i j (by omega) g2
        rw [en i h1, h2] at this
        rw [cmpW_anti a.1]; omega
  unfold kyI
  rw [hp, hi]
  show (if cmpW a.1 a.1 = 0 then some i else none) = some i
  rw [if_pos (cmpW_self _)]
theorem blk_1 (q : Req) : blkB false [q] = encR q := by
  unfold blkB pendB
  rw [if_neg (by simp), if_neg (by decide), if_neg (by simp), if_neg (by decide), encs_1]; rfl
theorem LI_rm {A : List AK} {P p : Nat} (h : LI A P) : LI (rmA A p) P := by
  obtain ⟨h1, h2, h3, h4, h5, h6⟩ := h
  obtain ⟨k1, ⟨m1, m2, m3, m4, m5⟩, mz⟩ := rmU (p := p) h1
  exact ⟨k1, by omega, by omega, by omega, by omega, mz _ h6⟩
theorem kap_rm {P Q : List AK} {a : AK} : kap (P ++ a :: Q) = kap (P ++ Q) + 92 + a.1.length := by
  unfold kap
  rw [nB_app, nB_app, List.length_append, List.length_append]
  show 92 * (P.length + (Q.length + 1)) + (nB P + (a.1.length + nB Q)) = _
  omega
/-- a key whose time has come goes, and is noted -/
theorem ex_LC {P Q : List AK} {a : AK} {N : Nat} (h : LI (P ++ a :: Q) N) : LC N (P ++ a :: Q) [[nm 22, a.1]] (P ++ Q) ∧ LI (P ++ Q) N ∧ (blkB false [[nm 22, a.1]]).length + kap (P ++ Q) + 50 * N ≤ kap (P ++ a :: Q) + 50 * N := by
  have hL := LI_rm (p := P.length) h
  rw [rmA_at] at hL
  have hk : kyI (P ++ a :: Q) a.1 = some P.length := ky_get h.1.1 (by rw [List.getElem?_append_right (Nat.le_refl _), Nat.sub_self]; rfl)
  have ha := (h.1.2 a (List.mem_append_right _ List.mem_cons_self)).1
  obtain ⟨h1, h2, h3, h4, h5, h6⟩ := h
  have s1 : sl [a.1] = a.1.length := rfl
  have s2 : (gw [nm 22, a.1] 1).length = a.1.length := rfl
  have s3 : sz [a.1] = a.1.length + 26 := rfl
  have hs : LSt (P ++ a :: Q) [nm 22, a.1] (P ++ Q) := by
    refine LSt_mk (by decide) (by decide) rfl (show afX 22 1 = true by decide) (by show 1 ≤ _; omega) (fun w hw => by rw [List.mem_singleton.mp hw]; exact ha) (fun now => ?_) (by have := ha.1; omega) (by show _ + 1 < _; omega) (by show _ + 1 < _; omega) (by have := ha.1; omega) (fun z => absurd z (by decide))
    have := re_del hk (nm 22) now
    rw [rmA_at] at this; exact this
  refine ⟨⟨P ++ Q, hs, hL, rfl⟩, hL, ?_⟩
  rw [blk_1, kap_rm]
  have := encR_len 22 (by decide) [a.1]
  omega
theorem w_noteH {σ : mjS} {ws : Req} {ks : List KR} {l w : List Int32} (h : Wd σ ws ks l) (ty : mjTY σ) {a : Nat} {xa xn : Int32} (ea : xa = nI a) (en : xn = nI w.length) (ha : a + w.length ≤ 300000) (hw : wd (σ.2.2.1 r_heap) a w.length = w) (hl : l.length + w.length + 26 ≤ 420000) : mjY mjPP (mjQQ Y) (d + 2) 44 0 (mjL0 5 [.ref 0, .ref r_heap, .int xa, .int xn]) [] σ (fun r u => r = none ∧ Fr nF nH3 σ u ∧ Wd u ws ks (l ++ wordL w)) := by
  rw [ea, en]
  refine mjY_mono ty (fun _ u _ q => ?_) (c_noteWord ty h.2.2.1 r_heap a w.length rfl (by decide) (by decide) ha (by decide) hl)
  obtain ⟨e, f, p⟩ := q
  rw [hw] at p
  have f : Fr nF nH3 σ u := f.up (by decide) (by decide)
  exact ⟨e, f, h.nt f p⟩
theorem Wd.p0 {σ u : mjS} {ws : Req} {ks : List KR} {l : List Int32} (h : Wd σ ws ks l) (f : Fr [f_pendingSize] [] σ u) (e : u.1 f_pendingSize = nI 0) : Wd u ws ks [] := h.nt (f.up (by decide) (by decide)) ⟨e, Nat.zero_le _, rfl⟩
set_option maxRecDepth 100000 in
theorem c_expire_loop {bud t P qe we ce : Nat} : ∀ (j : Nat) (σ : mjS) (ws : Req) (ks : List KR) (l : List Int32) (I : Nat → Nat) (G : Nat → List Req) (q : Nat) (x1 x2 : Int32) (l3 : Option Value), ks.length - q ≤ j → q ≤ ks.length → x2 = nI q → mjTY σ → Wd σ ws ks l → CX σ qe we ce I G → (TB σ ∧ σ.1 f_replays = 0 ∧ σ.1 f_inBlock = 0 ∧ 0 ≤ σ.2.1 f_now0 ∧ BU σ ∧ gG G) → (σ.1 f_tapeSize = nI t ∧ bud + t + tpA I + tpG G ≤ P) → ¬ σ.1 f_up = 0 → HI σ (strip ks) P → (qe + 3 * (bud + t + tpA I) ≤ 200000 ∧ we + (bud + t + tpA I) ≤ 50000 ∧ ce + (bud + t + tpA I) ≤ 50000) →
    mjY mjPP (mjQQ Y) (d + 13) 180 4 [some (.ref 0), some (.int x1), some (.int x2), l3] [] σ (gK bud) := by
  intro j
  induction j with
  | zero =>
    intro σ ws ks l I G q x1 x2 l3 hj hq e2 ty hW hX hT hB hu hH hb
    obtain ⟨hs, fk, fe, k⟩ := hW.1
    have hl := ks_len k
    refine mjZ_y rfl rfl 4 _ _ _ _ ty ?_
    refine (And.intro rfl (And.intro (fun c => ?_) (fun c => ?_)))
    · refine mjZ_y rfl rfl 2 _ _ _ _ ty ?_
      refine And.intro rfl (And.intro (Or.inl rfl) ?_)
      exact ⟨⟨_, rfl⟩, ws, ks, l, qe, we, ce, I, G, P, t, hW, hX, hT, hB, Or.inl ⟨hu, hH⟩, hb⟩
    · exact absurd (show σ.1 f_keys ≤ x2 by rw [k.2.2.1, e2]; exact nI_le (by omega) (by omega)) c
  | succ j ih =>
    intro σ ws ks l I G q x1 x2 l3 hj hq e2 ty hW hX hT hB hu hH hb
    obtain ⟨hs, fk, fe, k⟩ := hW.1
    have hl := ks_len k
    refine mjZ_y rfl rfl 4 _ _ _ _ ty ?_
    refine (And.intro rfl (And.intro (fun c => ?_) (fun c => ?_)))
    · refine mjZ_y rfl rfl 2 _ _ _ _ ty ?_
      refine And.intro rfl (And.intro (Or.inl rfl) ?_)
      exact ⟨⟨_, rfl⟩, ws, ks, l, qe, we, ce, I, G, P, t, hW, hX, hT, hB, Or.inl ⟨hu, hH⟩, hb⟩
    have hq2 : q < ks.length := Nat.lt_of_not_le (fun z => c (show σ.1 f_keys ≤ x2 by rw [k.2.2.1, e2]; exact nI_le z (by omega)))
    obtain ⟨P1, Q1, hk1, hk2⟩ := get_split (List.getElem?_eq_getElem hq2)
    obtain ⟨x, hx⟩ : ∃ x, x = ks[q] := ⟨_, rfl⟩
    rw [← hx] at hk1
    subst hk1
    have gq : (P1 ++ x :: Q1)[q]? = some x := by rw [← hk2, List.getElem?_append_right (Nat.le_refl _), Nat.sub_self]; rfl
    have eo : σ.2.2.1 r_order x2.toNatClampNeg = nI x.1 := by rw [e2, nI_clamp (by omega)]; exact k.2.2.2.1 q x gq
    have hm : x ∈ P1 ++ x :: Q1 := List.mem_append_right _ List.mem_cons_self
    have hko := k.2.2.2.2.1 x hm
    obtain ⟨o1, o2, o3, o4, o5, -⟩ := hko
    have vx : vp_in (σ.2.2.1 r_order x2.toNatClampNeg) 4700 := by rw [eo]; exact vp_in_nI o1 (by decide)
    have cx : (σ.2.2.1 r_order x2.toNatClampNeg).toNatClampNeg = x.1 := by rw [eo]; exact nI_clamp (by omega)
    have nxt : ∀ (y3 : Int32), mjY mjPP (mjQQ Y) (d + 13) 180 26 [some (.ref 0), some (.int x1), some (.int x2), some (.int y3)] [] σ (gK bud) := by
      intro y3
      refine mjZ_y rfl rfl 2 _ _ _ _ ty ?_
      exact ih σ ws _ l I G (q + 1) _ _ _ (by omega) (by omega) (by rw [e2]; exact nI_1 q) ty hW hX hT hB hu hH hb
    refine mjZ_y rfl rfl 10 _ _ _ _ ty ?_
    refine (And.intro rfl (And.intro rfl (And.intro (show vp_in x2 4700 by rw [e2]; exact vp_in_nI (by omega) (by decide)) (And.intro (Nat.le_of_ble_eq_true rfl) (And.intro rfl (And.intro (Or.inr rfl) (And.intro vx (And.intro (fun r => ?_) (fun r => ?_)))))))))
    · exact nxt _
    refine mjZ_y rfl rfl 8 _ _ _ _ ty ?_
    refine (And.intro rfl (And.intro rfl (And.intro vx (And.intro rfl (And.intro (fun s => ?_) (fun s => ?_))))))
    · refine mjZ_y rfl rfl 3 _ _ _ _ ty ?_
      refine (And.intro rfl (And.intro (Or.inl rfl) (fun ty' => ?_)))
      have go : ∀ u : mjS, mjTY u → u = (upd σ.1 f_pendingSize 0, σ.2) → mjY mjPP (mjQQ Y) (d + 13) 180 31 [some (.ref 0), some (.int x1), some (.int x2), some (.int (σ.2.2.1 r_order x2.toNatClampNeg))] [] u (gK bud) := by
        intro u tu eu
        have fu : Fr [f_pendingSize] [] σ u := by rw [eu]; exact Fr.i (by decide)
        have eu0 : u.1 f_pendingSize = nI 0 := by rw [eu]; exact pk_us (f := σ.1) (k := f_pendingSize) (x := 0)
        have hu0 := hW.p0 fu eu0
        refine mjZ_y rfl rfl 4 _ _ _ _ tu ?_
        refine (And.intro (Nat.le_of_ble_eq_true rfl) (And.intro rfl (And.intro (Nat.le_of_ble_eq_true rfl) (And.intro (Nat.le_of_ble_eq_true rfl) (mjY_mono tu (fun q_ u1 ty1 h_ => ?_) (c_noteNumber tu hu0.2.2.1 (by show 0 + 23 ≤ _; omega) _ (by decide) _))))))
        obtain ⟨rfl, f1, p1⟩ := h_
        intro _
        have f1 : Fr nF nH3 u u1 := f1.up (by decide) (by decide)
        have p1 : pnd u1 ([] ++ (42 :: dec 2 ++ [13, 10])) := p1
        have h1 := hu0.nt f1 p1
        have l1 : ([] ++ (42 :: dec 2 ++ [13, 10]) : List Int32).length ≤ 23 := by decide
        refine mjZ_y rfl rfl 3 _ _ _ _ ty1 ?_
        refine (And.intro (Nat.le_of_ble_eq_true rfl) (And.intro rfl (And.intro (Nat.le_of_ble_eq_true rfl) (And.intro (Nat.le_of_ble_eq_true rfl) (mjY_mono ty1 (fun q_ u2 ty2 h_ => ?_) (c_noteName ty1 h1.2.2.1 22 (by decide) (by omega)))))))
        obtain ⟨rfl, f2, p2⟩ := h_
        intro _
        have h2 := h1.nt f2 p2
        have T1 : TB u1 := (hT.1.fr fu (by decide)).fr f1 (by decide)
        have f02 : Fr nF nH3 σ u2 := ((fu.up (by decide) (by decide)).tr f1).tr f2
        obtain ⟨hs2, hh2, hk2'⟩ := h2.kok hm
        obtain ⟨a, b1, b2, b3, b4⟩ := hk2'.2.1.clamp hh2 (by omega) eo
        have hLI : LI (strip (P1 ++ x :: Q1)) P := by obtain ⟨E, -, -, z, -⟩ := hH; exact z
        have hwx : WOK x.2.1 := (hLI.1.2 (st1 x) (by rw [strip_app, strip_cons]; exact List.mem_append_right _ List.mem_cons_self)).1
        have hw1 := hwx.1
        have l2 : (([] ++ (42 :: dec 2 ++ [13, 10]) : List Int32) ++ wordL (nmOf u1 22)).length ≤ 100 := by
          rw [List.length_append, T1.nmE (by decide) (by decide)]
          have : (wordL (nm 22)).length ≤ 50 := by decide +kernel
          omega
        refine mjZ_y rfl rfl 12 _ _ _ _ ty2 ?_
        refine (And.intro rfl (And.intro rfl (And.intro rfl (And.intro vx (And.intro rfl (And.intro rfl (And.intro vx (And.intro (Nat.le_of_ble_eq_true rfl) (And.intro rfl (And.intro (Nat.le_of_ble_eq_true rfl) (And.intro (Nat.le_of_ble_eq_true rfl) (mjY_mono ty2 (fun q_ u3 ty3 h_ => ?_) (w_noteH h2 ty2 b1 b2 b3 b4 (by omega))))))))))))))
        obtain ⟨rfl, f3, h3⟩ := h_
        intro _
        refine mjZ_y rfl rfl 3 _ _ _ _ ty3 ?_
        refine (And.intro (Nat.le_of_ble_eq_true rfl) (And.intro rfl (And.intro (Nat.le_of_ble_eq_true rfl) (And.intro (Nat.le_of_ble_eq_true rfl) (mjY_mono ty3 (fun q_ u4 ty4 h_ => ?_) (w_goneKey h3 ty3 eo))))))
        obtain ⟨rfl, h4, f4⟩ := h_
        intro _
        have eL : ([] ++ (42 :: dec 2 ++ [13, 10]) : List Int32) ++ wordL (nmOf u1 22) ++ wordL x.2.1 = blkB false [[nm 22, x.2.1]] := by
          rw [blk_1, T1.nmE (by decide) (by decide)]
          have := head_enc (σ := u1) 22 [x.2.1]
          rw [T1.nmE (by decide) (by decide)] at this
          rw [← this]
          unfold headL wordsL
          rw [T1.nmE (by decide) (by decide)]
          simp only [List.flatMap_cons, List.flatMap_nil, List.append_nil, List.nil_append]
          rfl
        have h4 : Wd u4 ws (P1 ++ Q1) (blkB false [[nm 22, x.2.1]]) := by rw [← eL]; exact h4
        have f04 : Fr (nF ++ kF) (nH3 ++ kH1) σ u4 := ((f02.up (by decide) (by decide)).tr (f3.up (by decide) (by decide))).tr (f4.up (by decide) (by decide))
        obtain ⟨E, d1, d2, d3, d4⟩ := hH
        rw [strip_app, strip_cons] at d2 d3 d4
        obtain ⟨g1, g2, g3⟩ := ex_LC d3
        have g1 : LC P (strip P1 ++ st1 x :: strip Q1) [[nm 22, x.2.1]] (strip P1 ++ strip Q1) := g1
        have g3 : (blkB false [[nm 22, x.2.1]]).length + kap (strip P1 ++ strip Q1) + 50 * P ≤ kap (strip P1 ++ st1 x :: strip Q1) + 50 * P := g3
        obtain ⟨t1, t2, t3, t4, t5, t6⟩ := hT
        refine mjZ_y rfl rfl 3 _ _ _ _ ty4 ?_
        refine (And.intro (Nat.le_of_ble_eq_true rfl) (And.intro rfl (And.intro (Nat.le_of_ble_eq_true rfl) (And.intro (Nat.le_of_ble_eq_true rfl) (mjY_mono ty4 (fun q_ v tv h_ => ?_) (c_sync (d := d + 8) h4 ty4 (hX.fr f04 (by decide) (by decide)) (d1.fr f04 (by decide) (by decide)) (t5.fr f04 (by decide)) (by omega)))))))
        have kk := h_
        intro _
        obtain ⟨fv, bv, kk⟩ := kk
        have f0v : Fr (nF ++ syF) (nH3 ++ r_disturbed :: r_heap2 :: syH) σ v := (f04.up (by decide) (by decide)).tr (fv.up (by decide) (by decide))
        have tv0 : TB v ∧ v.1 f_replays = 0 ∧ v.1 f_inBlock = 0 ∧ 0 ≤ v.2.1 f_now0 ∧ BU v := ⟨t1.fr f0v (by decide), by rw [f0v.1 _ (by decide)]; exact t2, by rw [f0v.1 _ (by decide)]; exact t3, by rw [f0v.2.1 _ (by decide)]; exact t4, bv⟩
        have tvT : v.1 f_tapeSize = nI t := by rw [f0v.1 _ (by decide)]; exact hB.1
        rcases kk with ⟨rfl, k1, k2, k3, k4⟩ | ⟨rfl, k1, k2, ⟨n, k3⟩, I', G', k4, k5, k6⟩
        · refine mjZ_y rfl rfl 1 _ _ _ _ tv ?_
          refine And.intro (fun y => ?_) (fun y => ?_)
          · have hHv : HI v (strip (P1 ++ Q1)) P := by
              rw [strip_app]
              exact HI_app d2 d4 (Nat.le_refl _) k3 g2 g1 (fun _ => Nat.le_refl _) g3
            have len : (P1 ++ Q1).length + 1 = (P1 ++ x :: Q1).length := by rw [List.length_append, List.length_append]; rfl
            refine mjZ_y rfl rfl 1 _ _ _ _ tv ?_
            exact ih v ws (P1 ++ Q1) [] I G q _ _ _ (by omega) (by omega) e2 tv k2 k4 ⟨tv0.1, tv0.2.1, tv0.2.2.1, tv0.2.2.2.1, tv0.2.2.2.2, t6⟩ ⟨tvT, hB.2⟩ (by rw [k1, f04.1 _ (by decide)]; exact hu) hHv hb
          · exact absurd (show ¬ (1 : Int32) = 0 by decide) y
        · refine mjZ_y rfl rfl 1 _ _ _ _ tv ?_
          refine And.intro (fun y => ?_) (fun y => ?_)
          · exact absurd (show ¬ (0 : Int32) = 0 from y) (fun z => z rfl)
          · refine mjZ_y rfl rfl 2 _ _ _ _ tv ?_
            refine And.intro rfl (And.intro (Or.inl rfl) ?_)
            have a1 := tpA_le k5.leI
            have a2 := k5.tpg
            have hDv : HD v P := HD_app d2 d3 d4 (Nat.le_refl _) k3 g2 g1 (fun _ => Nat.le_refl _) g3
            exact ⟨⟨_, rfl⟩, ws, [], [], qe, we, ce, I', G', P, t, k2, k4, ⟨tv0.1, tv0.2.1, tv0.2.2.1, tv0.2.2.2.1, tv0.2.2.2.2, t6.cl k5⟩, ⟨tvT, by omega⟩, Or.inr ⟨k1, ⟨rfl, rfl⟩, hDv⟩, by omega, by omega, by omega⟩
      exact go _ ty' rfl
    · exact nxt _
set_option maxRecDepth 100000 in
theorem g_expire {σ : mjS} {bud : Nat} (h : GI σ bud) (ty : mjTY σ) (hu : ¬ σ.1 f_up = 0) : mjY mjPP (mjQQ Y) (d + 13) 180 0 (mjL0 4 [.ref 0]) [] σ (gK bud) := by
  obtain ⟨ws, ks, l, qe, we, ce, I, G, P, t, g1, g2, g3, g4, g5, g6⟩ := h
  have hH : HI σ (strip ks) P := by
    rcases g5 with ⟨-, b⟩ | ⟨b, -⟩
    · exact b
    · exact absurd b hu
  refine mjZ_y rfl rfl 4 _ _ _ _ ty ?_
  refine (And.intro (Nat.le_of_ble_eq_true rfl) (And.intro (Nat.le_of_ble_eq_true rfl) ?_))
  exact c_expire_loop ks.length σ ws ks l I G 0 _ _ _ (by omega) (Nat.zero_le _) rfl ty g1 g2 g3 g4 hu hH g6
end EXPIRE
