/-! replay. -/
section REPLAY2
variable {Y : Nat → MethodName × ByteArray} {d : Nat}
theorem Wd.la {σ u : mjS} {ws ws' : List (List Int32)} {ks : List KR} {l : List Int32} (h : Wd σ ws ks l) (f : Fr laF awH σ u) (a : AR u ws') : Wd u ws' ks l := by
  obtain ⟨⟨hs', fk, fe, k⟩, -, p, ⟨⟨n, hn, en⟩, -⟩, t⟩ := h
  exact ⟨⟨hs', fk, fe, k.fr f (by decide) (by decide)⟩, a, pnd_fr p f (by decide) (by decide), ⟨⟨n, hn, by rw [f.1 _ (by decide)]; exact en⟩, trivial⟩, t.fr f (by decide) (by decide) (by decide)⟩
theorem Wd.a0 {σ u : mjS} {ws : List (List Int32)} {ks : List KR} {l : List Int32} (h : Wd σ ws ks l) (f : Fr [f_answerSize, f_tooLong] [] σ u) (e : u.1 f_answerSize = nI 0) : Wd u ws ks l := by
  obtain ⟨⟨hs', fk, fe, k⟩, a, p, -, t⟩ := h
  exact ⟨⟨hs', fk, fe, k.fr f (by decide) (by decide)⟩, a.fr f (by decide) (by decide) (by decide) (by decide), pnd_fr p f (by decide) (by decide), ⟨⟨0, by decide, e⟩, trivial⟩, t.fr f (by decide) (by decide) (by decide)⟩
theorem lg_rn : ∀ i, i < 106 → lgB i = true → i ∈ rnI := by decide +kernel
/-- a replayed request has the room that it wants -/
theorem BD_rep {σ : mjS} {i : Nat} {q : Req} {ks : List KR} {P : Nat} (hL : LI (strip ks) P) (hlg : lgB i = true) (af : afX i (q.length - 1) = true) (hi : i ≤ 105) (h1024 : q.length ≤ 1024) (hW : ∀ w ∈ q, WOK w) (h1 : 1 ≤ q.length) (hR : RB (strip ks) i q) : BD σ i q ks [] := by
  obtain ⟨r1, r2, r3, r4, r5, r6⟩ := hR
  obtain ⟨l1, l2, l3, l4, l5, _⟩ := hL
  have hk : ks.length = (strip ks).length := (strip_len ks).symm
  obtain ⟨q1, q2, q3⟩ := af_lo (by omega) (by omega) af
  refine ⟨by omega, by omega, by omega, by show 0 + 700 + _ ≤ _; omega, by rw [memA_B]; omega, l1, hW, fun c s => ?_, fun c nr s => ?_⟩
  · have : i = 71 ∨ i = 72 ∨ i = 73 := by omega
    rcases this with rfl | rfl | rfl <;> exact absurd hlg (by decide)
  · have hlo : 2 ≤ q.length - 1 := by
      have : i = 74 ∨ i = 75 ∨ i = 76 := by omega
      rcases this with rfl | rfl | rfl <;> exact q1
    have rk := rkM_ok l1 (i - 74) q 2 (by omega) ((soL_of s).2 c)
    have hm := r5 c
    have m := memB_ge (strip ks)
    have := (hW _ (gw_mem (k := 1) (by omega))).1
    exact ⟨by omega, by omega⟩
/-- requests that a replay goes through -/
def RC (P : Nat) : List AK → List Req → List AK → Prop
  | A, [], B => B = A
  | A, q :: qs, B => ((q = [nm 99] ∨ q = [nm 100]) ∧ RC P A qs B) ∨ ∃ D, LSt A q D ∧ LI D P ∧ RC P D qs B
theorem LC_RC {P : Nat} {T : List Req} {B C : List AK} (hT : RC P B T C) : ∀ {ns : List Req} {A : List AK}, LC P A ns B → RC P A (ns ++ T) C := by
  intro ns
  induction ns with
  | nil => intro A h; have h : B = A := h; rw [← h]; exact hT
  | cons q ns ih => intro A h; obtain ⟨D, h1, h2, h3⟩ := h; exact Or.inr ⟨D, h1, h2, ih h3⟩
abbrev rpF : List Nat := laF ++ cF
abbrev rpH : List Nat := awH ++ cH
set_option maxRecDepth 100000 in
theorem c_replay_loop {P e en : Nat} (he : e ≤ 700000) (hen : en ≤ e) (x1 x2 : Int32) (e2 : x2 = nI en) {B : List AK} : ∀ (qs : List Req) (p : Nat) (σ : mjS) (ws : Req) (ks : List KR) (x3 : Int32), RC P (strip ks) qs B → LI (strip ks) P → x3 = nI p → p + (encs qs).length = en → mjTY σ → Wd σ ws ks [] → TB σ → ¬ σ.1 f_replays = 0 → σ.1 f_diskSize = nI e → AT (σ.2.2.1 r_disk) p e (encs qs) →
    mjY mjPP (mjQQ Y) (d + 10) 188 2 [some (.ref 0), some (.int x1), some (.int x2), some (.int x3)] [] σ (fun r u => r = none ∧ Fr rpF rpH σ u ∧ ∃ ws' ks', Wd u ws' ks' [] ∧ strip ks' = B) := by
  intro qs
  induction qs with
  | nil =>
    intro p σ ws ks x3 hR hL e3 hp ty hW hT hr ee h
    have hp : p + 0 = en := hp
    refine mjZ_y rfl rfl 3 _ _ _ _ ty ?_
    refine And.intro (fun c => ?_) (fun c => ?_)
    · refine mjZ_y rfl rfl 1 _ _ _ _ ty ?_
      refine And.intro rfl (And.intro rfl ?_)
      exact ⟨rfl, Fr.rf, ws, ks, hW, hR.symm⟩
    · exact absurd (show x2 ≤ x3 by rw [e2, e3]; exact nI_le (by omega) (by omega)) c
  | cons q qs ih =>
    intro p σ ws ks x3 hR hL e3 hp ty hW hT hr ee h
    rw [encs_cons] at hp h
    rw [List.length_append] at hp
    have hl : 1 ≤ (encR q).length := by rw [encR_l]; omega
    refine mjZ_y rfl rfl 3 _ _ _ _ ty ?_
    refine And.intro (fun c => ?_) (fun c => ?_)
    · exact absurd (show x2 ≤ x3 from c) (by rw [e2, e3]; exact nI_ge (by omega) (by omega))
    have ok : ∃ i, QOK q i ∧ (((q = [nm 99] ∨ q = [nm 100]) ∧ (i = 99 ∨ i = 100) ∧ RC P (strip ks) qs B) ∨ (lgB i = true ∧ ∃ D, LSt (strip ks) q D ∧ LI D P ∧ RC P D qs B)) := by
      rcases hR with ⟨rfl | rfl, hR⟩ | ⟨D, h1, h2, h3⟩
      · exact ⟨99, MU_ok, Or.inl ⟨Or.inl rfl, Or.inl rfl, hR⟩⟩
      · exact ⟨100, EX_ok, Or.inl ⟨Or.inr rfl, Or.inr rfl, hR⟩⟩
      · obtain ⟨i, a, b⟩ := LSt_ok h1
        exact ⟨i, a, Or.inr ⟨b, D, h1, h2, h3⟩⟩
    obtain ⟨i, hq, ok⟩ := ok
    have hi := hq.2.2.1
    refine mjZ_y rfl rfl 3 _ _ _ _ ty ?_
    refine (And.intro (Nat.le_of_ble_eq_true rfl) (And.intro rfl (And.intro (Nat.le_of_ble_eq_true rfl) (And.intro (Nat.le_of_ble_eq_true rfl) (mjY_mono ty (fun q_ u tu h_ => ?_) (c_logAt0 (d := d + 4) hW.2.1 ty hT (by omega) he ee hq h.l e3))))))
    obtain ⟨fu, k⟩ := h_
    intro _
    rcases k with ⟨k1, rfl, k3, k4⟩ | ⟨k1, -⟩
    · have hu := hW.la fu k4
      have fu2 : Fr rpF rpH σ u := fu.up (by decide) (by decide)
      have Tu := hT.fr fu (by decide)
      have ru : ¬ u.1 f_replays = 0 := by rw [fu.1 _ (by decide)]; exact hr
      have eu : u.1 f_diskSize = nI e := by rw [fu.1 _ (by decide)]; exact ee
      have hd : AT (u.2.2.1 r_disk) (p + (encR q).length) e (encs qs) := by rw [(fu.2.2 _ (by decide)).1]; exact h.r
      rcases ok with ⟨-, oi, hR⟩ | ⟨lg, D, s1, s2, s3⟩
      · have nx : mjY mjPP (mjQQ Y) (d + 10) 188 2 [some (.ref 0), some (.int x1), some (.int x2), some (.int (nI (p + (encR q).length)))] [] u (fun r u => r = none ∧ Fr rpF rpH σ u ∧ ∃ ws' ks', Wd u ws' ks' [] ∧ strip ks' = B) := by
          refine mjY_mono tu (fun r v tv k => ?_) (ih _ u q ks _ hR hL rfl (by omega) tu hu Tu ru eu hd)
          exact ⟨k.1, fu2.tr k.2.1, k.2.2⟩
        refine mjZ_y rfl rfl 1 _ _ _ _ tu ?_
        refine (And.intro (Nat.le_of_ble_eq_true rfl) ?_)
        refine mjZ_y rfl rfl 4 _ _ _ _ tu ?_
        refine (And.intro rfl (And.intro (fun m => ?_) (fun m => ?_)))
        · exact nx
        refine mjZ_y rfl rfl 4 _ _ _ _ tu ?_
        refine (And.intro rfl (And.intro (fun o => ?_) (fun o => ?_)))
        · rcases oi with rfl | rfl
          · exact absurd (show u.1 f_logCommand = nI 99 from k3) m
          · exact absurd (show u.1 f_logCommand = nI 100 from k3) o
        · refine mjZ_y rfl rfl 1 _ _ _ _ tu ?_
          exact nx
      · obtain ⟨m1, m2⟩ := lg_mx lg
        refine mjZ_y rfl rfl 1 _ _ _ _ tu ?_
        refine (And.intro (Nat.le_of_ble_eq_true rfl) ?_)
        refine mjZ_y rfl rfl 4 _ _ _ _ tu ?_
        refine (And.intro rfl (And.intro (fun m => ?_) (fun m => ?_)))
        · exact absurd ((nI_eq (a := i) (b := 99) (by omega) (by decide)).mp (k3.symm.trans m)) m1
        refine mjZ_y rfl rfl 4 _ _ _ _ tu ?_
        refine (And.intro rfl (And.intro (fun o => ?_) (fun o => ?_)))
        · refine mjZ_y rfl rfl 6 _ _ _ _ tu ?_
          refine (And.intro rfl (And.intro (Or.inl rfl) (fun tu' => (And.intro rfl (And.intro (Or.inr ⟨rfl, Or.inl rfl⟩) (fun tu'' => ?_))))))
          have go : ∀ v : mjS, mjTY v → v = (upd (upd u.1 f_answerSize 0) f_tooLong 0, u.2) → mjY mjPP (mjQQ Y) (d + 10) 188 24 [some (.ref 0), some (.int x1), some (.int x2), some (.int (nI (p + (encR q).length)))] [] v (fun r u => r = none ∧ Fr rpF rpH σ u ∧ ∃ ws' ks', Wd u ws' ks' [] ∧ strip ks' = B) := by
            intro v tv ev
            have fv : Fr [f_answerSize, f_tooLong] [] u v := by rw [ev]; exact (Fr.i (by decide)).tr (Fr.i (by decide))
            have ea : v.1 f_answerSize = nI 0 := by
              rw [ev]; show upd (upd u.1 f_answerSize 0) f_tooLong 0 f_answerSize = _
              rw [pk_un (by decide)]; exact pk_us (f := u.1) (k := f_answerSize) (x := 0)
            have hv := hu.a0 fv ea
            have rv : ¬ v.1 f_replays = 0 := by rw [fv.1 _ (by decide)]; exact ru
            obtain ⟨i', z1, z2, z3, z4, z5, z6, z7, z8, z9, zR⟩ := s1
            have ei : i' = i := z1.symm.trans hq.1
            subst ei
            obtain ⟨⟨j, as⟩, z9⟩ := z9 (v.2.1 f_now0)
            have eE : rnE v ks i' q = some (D, j, as) := by
              unfold rnE
              rw [if_neg (fun y => rv y.2.1), decide_eq_true rv]; exact z9
            refine mjZ_y rfl rfl 4 _ _ _ _ tv ?_
            refine (And.intro rfl (And.intro (Nat.le_of_ble_eq_true rfl) (And.intro rfl (And.intro (Nat.le_of_ble_eq_true rfl) (And.intro (Nat.le_of_ble_eq_true rfl) (mjY_mono tv (fun q_ w tw h_ => ?_) (rn_all (d := d) hv tv i' (lg_rn i' (by omega) lg) (BD_rep hL lg z5 z3 z7 z8 z6 zR) z5 z6 (show v.1 f_logCommand = nI i' by rw [fv.1 _ (by decide)]; exact k3))))))))
            obtain ⟨rfl, fw, ks', hw, ek⟩ := h_
            intro _
            rw [eE] at hw ek
            have hw : Wd w q ks' (if v.1 f_replays = 0 then [] ++ begL v [] (lN (as.length + 1)) j ++ wordsL as else []) := hw
            rw [if_neg rv] at hw
            have ek : strip ks' = D := ek
            have fw2 : Fr rpF rpH u w := (fv.up (by decide) (by decide)).tr (fw.up (by decide) (by decide))
            refine mjZ_y rfl rfl 1 _ _ _ _ tw ?_
            refine mjY_mono tw (fun r y ty' k => ?_) (ih _ w q ks' _ (by rw [ek]; exact s3) (by rw [ek]; exact s2) rfl (by omega) tw hw ((Tu.fr fv (by decide)).fr fw (by decide)) (by rw [fw.1 _ (by decide)]; exact rv) (by rw [fw2.1 _ (by decide)]; exact eu) (by rw [(fw2.2.2 _ (by decide)).1]; exact hd))
            exact ⟨k.1, (fu2.tr fw2).tr k.2.1, k.2.2⟩
          exact go _ tu'' rfl
        · exact absurd (fun y => m2 ((nI_eq (a := i) (b := 100) (by omega) (by decide)).mp (k3.symm.trans y))) o
    · exact absurd k1 (by omega)
set_option maxRecDepth 100000 in
theorem c_replay {P e en p : Nat} (he : e ≤ 700000) (hen : en ≤ e) {x1 x2 : Int32} (e1 : x1 = nI p) (e2 : x2 = nI en) {A B : List AK} {qs : List Req} {σ : mjS} {ws : Req} {ks : List KR} (hA : strip ks = A) (hR : RC P A qs B) (hL : LI A P) (hp : p + (encs qs).length = en) (ty : mjTY σ) (hW : Wd σ ws ks []) (hT : TB σ) (hr : ¬ σ.1 f_replays = 0) (ee : σ.1 f_diskSize = nI e) (h : AT (σ.2.2.1 r_disk) p e (encs qs)) : mjY mjPP (mjQQ Y) (d + 10) 188 0 (mjL0 4 [.ref 0, .int x1, .int x2]) [] σ (fun r u => r = none ∧ Fr rpF rpH σ u ∧ ∃ ws' ks', Wd u ws' ks' [] ∧ strip ks' = B) := by
  subst hA
  refine mjZ_y rfl rfl 2 _ _ _ _ ty ?_
  refine (And.intro (Nat.le_of_ble_eq_true rfl) ?_)
  exact c_replay_loop he hen x1 x2 e2 qs p σ ws ks _ hR hL e1 hp ty hW hT hr ee h
end REPLAY2
