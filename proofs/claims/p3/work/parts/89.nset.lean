/-! How SET is noted. -/
section NSET
variable {Y : Nat → MethodName × ByteArray} {d : Nat}
def kTT : List Int32 := [75, 69, 69, 80, 84, 84, 76]
def pXT : List Int32 := [80, 88, 65, 84]
/-- the words behind the value -/
def nsT (keep timed : Int32) (t : Int64) : List Int32 := if keep = 0 then (if timed = 0 then [] else wordL pXT ++ wordL (dec t)) else wordL kTT
def nsN (keep timed : Int32) : Nat := if keep = 0 then (if timed = 0 then 3 else 5) else 4
def ntS (σ : mjS) (l w v : List Int32) (keep timed : Int32) (t : Int64) : List Int32 := if σ.1 f_replays = 0 then l ++ begL σ l (lN (nsN keep timed)) 2 ++ wordL w ++ wordL v ++ nsT keep timed t else l
theorem ntS_fr {σ u : mjS} (f : Fr cF cH σ u) (l w v : List Int32) (a b : Int32) (t : Int64) : ntS u l w v a b t = ntS σ l w v a b t := by
  unfold ntS
  rw [begL_fr f, f.1 f_replays (by decide)]
set_option maxRecDepth 100000 in
theorem c_ns_2 (K : mjK) {σ : mjS} {ws : List (List Int32)} {ks : List KR} {l : List Int32} (h : Wd σ ws ks l) (ty : mjTY σ) (x1 x2 x3 : Int32) (k : Nat) (e2 : x2 = nI k) (hk : k < 4700) (hl : l.length + 200 ≤ 420000)
    (hK : ∀ u, mjTY u → Fr nF nH3 σ u → Wd u ws ks (l ++ nsT (σ.1 f_optKeep) (σ.1 f_timed) (σ.2.2.2 r_kTime k)) → K none u) :
    mjY mjPP (mjQQ Y) (d + 5) 78 25 [some (.ref 0), some (.int x1), some (.int x2), some (.int x3)] [] σ K := by
  have v2 : vp_in x2 4700 := by rw [e2]; exact vp_in_nI hk (by decide)
  have c2 : x2.toNatClampNeg = k := by rw [e2]; exact nI_clamp (by omega)
  have vs : ∀ i : Nat, i < 32 → vp_in (nI i) 32 := fun i hi => vp_in_nI hi (by decide)
  refine mjZ_y rfl rfl 35 _ _ _ _ ty ?_
  refine (And.intro rfl (And.intro (Or.inl ⟨rfl, rfl⟩) (And.intro (vs 0 (by decide)) (fun ty' => (And.intro rfl (And.intro (Or.inl ⟨rfl, rfl⟩) (And.intro (vs 1 (by decide)) (fun ty'' => (And.intro rfl (And.intro (Or.inl ⟨rfl, rfl⟩) (And.intro (vs 2 (by decide)) (fun ty''' => (And.intro rfl (And.intro (Or.inl ⟨rfl, rfl⟩) (And.intro (vs 3 (by decide)) (fun ty'''' => (And.intro rfl (And.intro (Or.inl ⟨rfl, rfl⟩) (And.intro (vs 4 (by decide)) (fun ty''''' => (And.intro rfl (And.intro (Or.inl ⟨rfl, rfl⟩) (And.intro (vs 5 (by decide)) (fun ty'''''' => (And.intro rfl (And.intro (Or.inl ⟨rfl, rfl⟩) (And.intro (vs 6 (by decide)) (fun ty''''''' => ?_))))))))))))))))))))))))))))
  have go : ∀ u : mjS, mjTY u → Fr [] [r_spelt] σ u → wd (u.2.2.1 r_spelt) 0 7 = kTT → mjY mjPP (mjQQ Y) (d + 5) 78 60 [some (.ref 0), some (.int x1), some (.int x2), some (.int x3)] [] u K := by
    intro u tu fu eu
    have hu := h.fr fu (by decide) (by decide)
    have eK : u.1 f_optKeep = σ.1 f_optKeep := fu.1 _ (by decide)
    have eT : u.1 f_timed = σ.1 f_timed := fu.1 _ (by decide)
    have eM : u.2.2.2 r_kTime = σ.2.2.2 r_kTime := (fu.2.2 _ (by decide)).2
    refine mjZ_y rfl rfl 3 _ _ _ _ tu ?_
    refine (And.intro rfl (And.intro (fun q => ?_) (fun q => ?_)))
    · have q : u.1 f_optKeep = 0 := q
      rw [eK] at q
      refine mjZ_y rfl rfl 3 _ _ _ _ tu ?_
      refine (And.intro rfl (And.intro (fun c => ?_) (fun c => ?_)))
      · have c : u.1 f_timed = 0 := c
        rw [eT] at c
        refine mjZ_y rfl rfl 1 _ _ _ _ tu ?_
        refine And.intro rfl (And.intro rfl ?_)
        refine hK u tu (fu.up (by decide) (by decide)) ?_
        unfold nsT; rw [if_pos q, if_pos c, List.append_nil]; exact hu
      · have c : ¬ u.1 f_timed = 0 := c
        rw [eT] at c
        refine mjZ_y rfl rfl 20 _ _ _ _ tu ?_
        refine (And.intro rfl (And.intro (Or.inl ⟨rfl, rfl⟩) (And.intro (vs 0 (by decide)) (fun tu' => (And.intro rfl (And.intro (Or.inl ⟨rfl, rfl⟩) (And.intro (vs 1 (by decide)) (fun tu'' => (And.intro rfl (And.intro (Or.inl ⟨rfl, rfl⟩) (And.intro (vs 2 (by decide)) (fun tu''' => (And.intro rfl (And.intro (Or.inl ⟨rfl, rfl⟩) (And.intro (vs 3 (by decide)) (fun tu'''' => ?_))))))))))))))))
        have go2 : ∀ u2 : mjS, mjTY u2 → Fr [] [r_spelt] u u2 → wd (u2.2.2.1 r_spelt) 0 4 = pXT → mjY mjPP (mjQQ Y) (d + 5) 78 93 [some (.ref 0), some (.int x1), some (.int x2), some (.int x3)] [] u2 K := by
          intro u2 t2 f2 e2'
          have h2 := hu.fr f2 (by decide) (by decide)
          refine mjZ_y rfl rfl 6 _ _ _ _ t2 ?_
          refine (And.intro rfl (And.intro (Nat.le_of_ble_eq_true rfl) (And.intro rfl (And.intro (Nat.le_of_ble_eq_true rfl) (And.intro (Nat.le_of_ble_eq_true rfl) (mjY_mono t2 (fun q_ u3 t3 h_ => ?_) (c_noteWord t2 h2.2.2.1 r_spelt 0 4 rfl (by decide) (by decide) (by decide) (by decide) (by omega))))))))
          obtain ⟨rfl, f3, p3⟩ := h_
          intro _
          rw [e2'] at p3
          have h3 : Wd u3 ws ks (l ++ wordL pXT) := h2.nt (f3.up (by decide) (by decide)) p3
          have l3 := wordL_len pXT
          have l4 : pXT.length = 4 := rfl
          have eM3 : u3.2.2.2 r_kTime = σ.2.2.2 r_kTime := by rw [(f3.2.2 _ (by decide)).2, (f2.2.2 _ (by decide)).2]; exact eM
          refine mjZ_y rfl rfl 6 _ _ _ _ t3 ?_
          refine (And.intro rfl (And.intro rfl (And.intro v2 (And.intro (Nat.le_of_ble_eq_true rfl) (And.intro rfl (And.intro (Nat.le_of_ble_eq_true rfl) (And.intro (Nat.le_of_ble_eq_true rfl) (mjY_mono t3 (fun q_ u4 t4 h_ => ?_) (c_noteInteger t3 h3.2.2.1 (u3.2.2.2 r_kTime x2.toNatClampNeg) (by rw [List.length_append]; omega))))))))))
          obtain ⟨rfl, f4, p4⟩ := h_
          intro _
          rw [eM3, c2] at p4
          refine mjZ_y rfl rfl 1 _ _ _ _ t4 ?_
          refine And.intro rfl (And.intro rfl ?_)
          have h4 := h3.nt (f4.up (by decide) (by decide)) p4
          refine hK u4 t4 (((fu.up (by decide) (by decide)).tr (f2.up (by decide) (by decide))).tr ((f3.up (by decide) (by decide)).tr (f4.up (by decide) (by decide)))) ?_
          unfold nsT; rw [if_pos q, if_neg c, ← List.append_assoc]; exact h4
        refine go2 _ tu'''' ?_ rfl
        exact ((((Fr.a (by decide)).tr (Fr.a (by decide))).tr (Fr.a (by decide))).tr (Fr.a (by decide)))
    · have q : ¬ u.1 f_optKeep = 0 := q
      rw [eK] at q
      refine mjZ_y rfl rfl 6 _ _ _ _ tu ?_
      refine (And.intro rfl (And.intro (Nat.le_of_ble_eq_true rfl) (And.intro rfl (And.intro (Nat.le_of_ble_eq_true rfl) (And.intro (Nat.le_of_ble_eq_true rfl) (mjY_mono tu (fun q_ u3 t3 h_ => ?_) (c_noteWord tu hu.2.2.1 r_spelt 0 7 rfl (by decide) (by decide) (by decide) (by decide) (by omega))))))))
      obtain ⟨rfl, f3, p3⟩ := h_
      intro _
      rw [eu] at p3
      refine mjZ_y rfl rfl 2 _ _ _ _ t3 ?_
      refine And.intro rfl (And.intro rfl ?_)
      have h3 : Wd u3 ws ks (l ++ wordL kTT) := hu.nt (f3.up (by decide) (by decide)) p3
      refine hK u3 t3 ((fu.up (by decide) (by decide)).tr (f3.up (by decide) (by decide))) ?_
      unfold nsT; rw [if_neg q]; exact h3
  refine go _ ty''''''' ?_ rfl
  exact (((((((Fr.a (by decide)).tr (Fr.a (by decide))).tr (Fr.a (by decide))).tr (Fr.a (by decide))).tr (Fr.a (by decide))).tr (Fr.a (by decide))).tr (Fr.a (by decide)))
set_option maxRecDepth 100000 in
theorem c_ns_1 (K : mjK) {σ : mjS} {ws : List (List Int32)} {ks : List KR} {l : List Int32} (h : Wd σ ws ks l) (ty : mjTY σ) {w v : List Int32} {j : Nat} (h1 : ws[1]? = some w) (hj : ws[j]? = some v) (x1 x2 x3 : Int32) (e1 : x1 = nI j) (k : Nat) (e2 : x2 = nI k) (hk : k < 4700) (e3 : x3 = nI (nsN (σ.1 f_optKeep) (σ.1 f_timed))) (hl : l.length + w.length + v.length + 400 ≤ 420000)
    (hK : ∀ u, mjTY u → Fr nF nH3 σ u → Wd u ws ks (ntS σ l w v (σ.1 f_optKeep) (σ.1 f_timed) (σ.2.2.2 r_kTime k)) → K none u) :
    mjY mjPP (mjQQ Y) (d + 5) 78 13 [some (.ref 0), some (.int x1), some (.int x2), some (.int x3)] [] σ K := by
  have hN : nsN (σ.1 f_optKeep) (σ.1 f_timed) < 2 ^ 31 := by unfold nsN; split; split <;> decide; decide
  have hc := c_noteBegins (Y := Y) (d := d) ty h.2.2.1 (nsN (σ.1 f_optKeep) (σ.1 f_timed)) 2 hN (by decide) (by omega)
  rw [← e3] at hc
  refine mjZ_y rfl rfl 4 _ _ _ _ ty ?_
  refine (And.intro (Nat.le_of_ble_eq_true rfl) (And.intro rfl (And.intro (Nat.le_of_ble_eq_true rfl) (And.intro (Nat.le_of_ble_eq_true rfl) (mjY_mono ty (fun q_ u1 ty1 h_ => ?_) (hc))))))
  have h2 := h_
  intro _
  rcases h2 with ⟨c, rfl, rfl⟩ | ⟨c, rfl, f1, p1⟩
  · refine mjZ_y rfl rfl 1 _ _ _ _ ty ?_
    refine And.intro (fun q => ?_) (fun q => ?_)
    · exact absurd rfl q
    · refine mjZ_y rfl rfl 1 _ _ _ _ ty ?_
      refine And.intro rfl (And.intro rfl ?_)
      refine hK u1 ty Fr.rf ?_
      unfold ntS; rw [if_neg c]; exact h
  · refine mjZ_y rfl rfl 1 _ _ _ _ ty1 ?_
    refine And.intro (fun q => ?_) (fun q => ?_)
    · have hb := begL_len (σ := σ) l (lN (nsN (σ.1 f_optKeep) (σ.1 f_timed))) 2
      have h2 : Wd u1 ws ks _ := h.nt f1 p1
      refine mjZ_y rfl rfl 3 _ _ _ _ ty1 ?_
      refine (And.intro (Nat.le_of_ble_eq_true rfl) (And.intro rfl (And.intro (Nat.le_of_ble_eq_true rfl) (And.intro (Nat.le_of_ble_eq_true rfl) (mjY_mono ty1 (fun q_ u2 ty2 h_ => ?_) (c_noteArg ty1 h2.2.2.1 h2.2.1 1 w h1 (by rw [List.length_append]; omega)))))))
      obtain ⟨rfl, f2, p2⟩ := h_
      intro _
      have h3 : Wd u2 ws ks _ := h2.nt (f2.up (by decide) (by decide)) p2
      have lw := wordL_len w
      have lv := wordL_len v
      have hc2 := c_noteArg (Y := Y) (d := d + 1) ty2 h3.2.2.1 h3.2.1 j v hj (by rw [List.length_append, List.length_append]; omega)
      rw [← e1] at hc2
      refine mjZ_y rfl rfl 3 _ _ _ _ ty2 ?_
      refine (And.intro (Nat.le_of_ble_eq_true rfl) (And.intro rfl (And.intro (Nat.le_of_ble_eq_true rfl) (And.intro (Nat.le_of_ble_eq_true rfl) (mjY_mono ty2 (fun q_ u3 ty3 h_ => ?_) (hc2))))))
      obtain ⟨rfl, f3, p3⟩ := h_
      intro _
      have h4 : Wd u3 ws ks _ := h3.nt (f3.up (by decide) (by decide)) p3
      have fa : Fr nF nH3 σ u3 := (f1.tr (f2.up (by decide) (by decide))).tr (f3.up (by decide) (by decide))
      refine c_ns_2 K h4 ty3 x1 x2 x3 k e2 hk (by rw [List.length_append, List.length_append, List.length_append]; omega) (fun u tu fu hu => hK u tu (fa.tr fu) ?_)
      rw [fa.1 f_optKeep (by decide), fa.1 f_timed (by decide), (fa.2.2 r_kTime (by decide)).2] at hu
      unfold ntS; rw [if_pos c]; exact hu
    · exact absurd (show ¬ (1 : Int32) = 0 by decide) q
set_option maxRecDepth 100000 in
theorem w_noteSet {σ : mjS} {ws : List (List Int32)} {ks : List KR} {l : List Int32} (h : Wd σ ws ks l) (ty : mjTY σ) {w v : List Int32} {j : Nat} (h1 : ws[1]? = some w) (hj : ws[j]? = some v) {x1 x2 : Int32} (e1 : x1 = nI j) (k : Nat) (e2 : x2 = nI k) (hk : k < 4700) (hl : l.length + w.length + v.length + 400 ≤ 420000) :
    mjY mjPP (mjQQ Y) (d + 5) 78 0 (mjL0 4 [.ref 0, .int x1, .int x2]) [] σ (fun r u => r = none ∧ Fr nF nH3 σ u ∧ Wd u ws ks (ntS σ l w v (σ.1 f_optKeep) (σ.1 f_timed) (σ.2.2.2 r_kTime k))) := by
  refine mjZ_y rfl rfl 5 _ _ _ _ ty ?_
  refine (And.intro (Nat.le_of_ble_eq_true rfl) (And.intro rfl (And.intro (fun q => ?_) (fun q => ?_))))
  · have q : σ.1 f_optKeep = 0 := q
    refine mjZ_y rfl rfl 3 _ _ _ _ ty ?_
    refine (And.intro rfl (And.intro (fun c => ?_) (fun c => ?_)))
    · have c : σ.1 f_timed = 0 := c
      exact c_ns_1 _ h ty h1 hj x1 x2 _ e1 k e2 hk (by unfold nsN; rw [if_pos q, if_pos c]; rfl) hl (fun u _ f hu => ⟨rfl, f, hu⟩)
    · have c : ¬ σ.1 f_timed = 0 := c
      refine mjZ_y rfl rfl 2 _ _ _ _ ty ?_
      refine (And.intro (Nat.le_of_ble_eq_true rfl) ?_)
      exact c_ns_1 _ h ty h1 hj x1 x2 _ e1 k e2 hk (by unfold nsN; rw [if_pos q, if_neg c]; rfl) hl (fun u _ f hu => ⟨rfl, f, hu⟩)
  · have q : ¬ σ.1 f_optKeep = 0 := q
    refine mjZ_y rfl rfl 3 _ _ _ _ ty ?_
    refine (And.intro (Nat.le_of_ble_eq_true rfl) ?_)
    exact c_ns_1 _ h ty h1 hj x1 x2 _ e1 k e2 hk (by unfold nsN; rw [if_neg q]; rfl) hl (fun u _ f hu => ⟨rfl, f, hu⟩)
end NSET
