/-! logAt0, blockEnd. -/
section LOGAT
variable {Y : Nat → MethodName × ByteArray} {d : Nat}
theorem x_isLogged {σ : mjS} (ty : mjTY σ) {x : Int32} (i : Nat) (hi : i < 2 ^ 30) (ex : x = nI i) : mjY mjPP (mjQQ Y) d 185 0 (mjL0 1 [.int x]) [] σ (fun r u => r = some (.int (bI (lgB i))) ∧ u = σ) := by
  rw [ex]; exact c_isLogged ty i hi
/-- a request as it may stand in the log -/
def QOK (q : Req) (i : Nat) : Prop := cmC (gw q 0) = i ∧ 1 ≤ i ∧ i ≤ 105 ∧ (lgB i = true ∨ i = 99 ∨ i = 100) ∧ afX i (q.length - 1) = true ∧ 1 ≤ q.length ∧ q.length ≤ 1024 ∧ (∀ w ∈ q, WOK w) ∧ sl q ≤ 131200
abbrev laF : List Nat := f_logCommand :: stFs
def laK (σ : mjS) (p e : Nat) (q : Req) (i : Nat) : mjK := fun r u => Fr laF awH σ u ∧ ((p + (encR q).length ≤ e ∧ r = some (.int (nI (p + (encR q).length))) ∧ u.1 f_logCommand = nI i ∧ AR u q) ∨ (e < p + (encR q).length ∧ r = some (.int (-1)) ∧ ∃ ws, AR u ws))
set_option maxRecDepth 100000 in
theorem c_logAt0 {σ : mjS} {ws0 : Req} (a0 : AR σ ws0) (ty : mjTY σ) (hT : TB σ) {p e : Nat} (hp : p ≤ e) (he : e ≤ 700000) (ee : σ.1 f_diskSize = nI e) {q : Req} {i : Nat} (hq : QOK q i) (h : AT (σ.2.2.1 r_disk) p e (encR q)) {x1 : Int32} (e1 : x1 = nI p) : mjY mjPP (mjQQ Y) (d + 5) 186 0 (mjL0 3 [.ref 0, .int x1]) [] σ (laK σ p e q i) := by
  obtain ⟨q1, q2, q3, q4, q5, q6, q7, q8, q9⟩ := hq
  have qw : ∀ w ∈ q, w.length ≤ 16384 := fun w hw => (q8 w hw).1
  have hl : 1 ≤ (encR q).length := by rw [encR_l]; omega
  refine mjZ_y rfl rfl 3 _ _ _ _ ty ?_
  refine (And.intro rfl (And.intro (Or.inl rfl) (fun ty' => ?_)))
  have go : ∀ u : mjS, mjTY u → u = (upd σ.1 f_logCommand 0, σ.2) → mjY mjPP (mjQQ Y) (d + 5) 186 3 [some (.ref 0), some (.int x1), none] [] u (laK σ p e q i) := by
    intro u tu eu
    have fu : Fr [f_logCommand] [] σ u := by rw [eu]; exact Fr.i (by decide)
    have fu2 : Fr laF awH σ u := fu.up (by decide) (by decide)
    have eeu : u.1 f_diskSize = nI e := by rw [fu.1 _ (by decide)]; exact ee
    have au := a0.fr fu (by decide) (by decide) (by decide) (by decide)
    have hu : AT (u.2.2.1 r_disk) p e (encR q) := by rw [(fu.2.2 _ (by decide)).1]; exact h
    refine mjZ_y rfl rfl 4 _ _ _ _ tu ?_
    refine (And.intro rfl (And.intro (fun c => ?_) (fun c => ?_)))
    · have c : e ≤ p := Nat.le_of_not_lt (fun z => absurd (show u.1 f_diskSize ≤ x1 from c) (by rw [eeu, e1]; exact nI_ge z (by omega)))
      refine mjZ_y rfl rfl 2 _ _ _ _ tu ?_
      refine And.intro rfl (And.intro (Or.inl rfl) ?_)
      exact ⟨fu2, Or.inr ⟨by omega, rfl, ws0, au⟩⟩
    have hpe : p < e := Nat.lt_of_not_le (fun z => c (show u.1 f_diskSize ≤ x1 by rw [eeu, e1]; exact nI_le z (by omega)))
    have v1 : vp_in x1 700000 := by rw [e1]; exact vp_in_nI (by omega) (by decide)
    have c1 : x1.toNatClampNeg = p := by rw [e1]; exact nI_clamp (by omega)
    have b42 : u.2.2.1 r_disk p = 42 := hu.enc.1.hd hpe
    refine mjZ_y rfl rfl 6 _ _ _ _ tu ?_
    refine (And.intro rfl (And.intro (Or.inl rfl) (And.intro v1 (And.intro (fun s => ?_) (fun s => ?_)))))
    · refine mjZ_y rfl rfl 7 _ _ _ _ tu ?_
      refine (And.intro rfl (And.intro rfl (And.intro (Nat.le_of_ble_eq_true rfl) (And.intro rfl (And.intro (Nat.le_of_ble_eq_true rfl) (And.intro (Nat.le_of_ble_eq_true rfl) (mjY_mono tu (fun q_ v tv h_ => ?_) (c_starAt tu r_disk p e rfl (by decide) (by decide) (by decide) he (by decide) hpe (star_slk q7 qw q9 hu) e1 eeu))))))))
      have k := h_
      intro _
      obtain ⟨fv, ⟨ws', av⟩, m⟩ := k
      have fv2 : Fr laF awH σ v := fu2.tr (fv.up (by decide) (by decide))
      by_cases full : p + (encR q).length ≤ e
      · rw [star_ok q7 qw hu full] at m
        have m : q_ = some (.int (nI (p + (encR q).length))) ∧ AR v ([] ++ q) := m
        obtain ⟨rfl, m2⟩ := m
        rw [List.nil_append] at m2
        refine mjZ_y rfl rfl 1 _ _ _ _ tv ?_
        refine (And.intro (Nat.le_of_ble_eq_true rfl) ?_)
        refine mjZ_y rfl rfl 2 _ _ _ _ tv ?_
        refine And.intro (fun r => ?_) (fun r => ?_)
        · exact absurd (show nI (p + (encR q).length) < 0 from r) (nI_n0 (by omega))
        refine mjZ_y rfl rfl 3 _ _ _ _ tv ?_
        refine (And.intro rfl (And.intro (fun g => ?_) (fun g => ?_)))
        · refine mjZ_y rfl rfl 3 _ _ _ _ tv ?_
          refine (And.intro (Nat.le_of_ble_eq_true rfl) (And.intro rfl (And.intro (Nat.le_of_ble_eq_true rfl) (And.intro (Nat.le_of_ble_eq_true rfl) (mjY_mono tv (fun q_ w tw h_ => ?_) (c_command m2 tv (gw_at (show 0 < q.length by omega))))))))
          obtain ⟨rfl, rfl⟩ := h_
          intro _
          rw [(hT.fr fv2 (by decide)).cm, q1]
          refine mjZ_y rfl rfl 1 _ _ _ _ tw ?_
          refine (And.intro rfl (And.intro (Or.inl rfl) (fun tw' => ?_)))
          have go2 : ∀ z : mjS, mjTY z → z = (upd w.1 f_logCommand (nI i), w.2) → mjY mjPP (mjQQ Y) (d + 5) 186 34 [some (.ref 0), some (.int x1), some (.int (nI (p + (encR q).length)))] [] z (laK σ p e q i) := by
            intro z tz ez
            have fz : Fr [f_logCommand] [] w z := by rw [ez]; exact Fr.i (by decide)
            have ec : z.1 f_logCommand = nI i := by rw [ez]; exact pk_us (f := w.1) (k := f_logCommand) (x := nI i)
            have az := m2.fr fz (by decide) (by decide) (by decide) (by decide)
            have fz2 : Fr laF awH σ z := fv2.tr (fz.up (by decide) (by decide))
            have fin : mjY mjPP (mjQQ Y) (d + 5) 186 58 [some (.ref 0), some (.int x1), some (.int (nI (p + (encR q).length)))] [] z (laK σ p e q i) := by
              refine mjZ_y rfl rfl 2 _ _ _ _ tz ?_
              refine And.intro rfl (And.intro (Or.inl rfl) ?_)
              exact ⟨fz2, Or.inl ⟨full, rfl, ec, az⟩⟩
            refine mjZ_y rfl rfl 3 _ _ _ _ tz ?_
            refine (And.intro rfl (And.intro (fun y => ?_) (fun y => ?_)))
            · refine absurd (show z.1 f_logCommand = nI 0 from y) (fun y => ?_)
              rw [ec] at y
              have := (nI_eq (a := i) (b := 0) (by omega) (by decide)).mp y; omega
            refine mjZ_y rfl rfl 4 _ _ _ _ tz ?_
            refine (And.intro rfl (And.intro (Nat.le_of_ble_eq_true rfl) (And.intro rfl (And.intro (Nat.le_of_ble_eq_true rfl) (And.intro (Nat.le_of_ble_eq_true rfl) (mjY_mono tz (fun q_ w2 tw2 h_ => ?_) (c_arityFits az tz q6 i (by omega) ec)))))))
            obtain ⟨rfl, rfl⟩ := h_
            intro _
            rw [(hT.fr fz2 (by decide)).af q2 q3, q5]
            refine mjZ_y rfl rfl 1 _ _ _ _ tw2 ?_
            refine And.intro (fun o => ?_) (fun o => ?_)
            · refine mjZ_y rfl rfl 4 _ _ _ _ tw2 ?_
              refine (And.intro rfl (And.intro (fun k1 => ?_) (fun k1 => ?_)))
              · exact fin
              have k1 : ¬ i = 99 := fun y => k1 (show w2.1 f_logCommand = nI 99 by rw [ec, y])
              refine mjZ_y rfl rfl 4 _ _ _ _ tw2 ?_
              refine (And.intro rfl (And.intro (fun k2 => ?_) (fun k2 => ?_)))
              · exact fin
              have k2 : ¬ i = 100 := fun y => k2 (show w2.1 f_logCommand = nI 100 by rw [ec, y])
              have lg : lgB i = true := q4.elim (fun y => y) (fun y => y.elim (fun y => absurd y k1) (fun y => absurd y k2))
              refine mjZ_y rfl rfl 3 _ _ _ _ tw2 ?_
              refine (And.intro rfl (And.intro (Nat.le_of_ble_eq_true rfl) (And.intro (Nat.le_of_ble_eq_true rfl) (And.intro (Nat.le_of_ble_eq_true rfl) (mjY_mono tw2 (fun q_ w3 tw3 h_ => ?_) (x_isLogged tw2 i (by omega) ec))))))
              obtain ⟨rfl, rfl⟩ := h_
              intro _
              rw [lg]
              refine mjZ_y rfl rfl 1 _ _ _ _ tw3 ?_
              refine And.intro (fun j => ?_) (fun j => ?_)
              · exact fin
              · exact absurd (show ¬ bI true = 0 by decide) j
            · exact absurd (show ¬ bI true = 0 by decide) o
          exact go2 _ tw' rfl
        · refine absurd (fun y => ?_) g
          have y : v.1 f_words = nI 0 := y
          rw [m2.1] at y
          have := (nI_eq (a := q.length) (b := 0) (by omega) (by decide)).mp y; omega
      · rw [star_torn q7 qw hu (by omega)] at m
        have m : q_ = some (.int (-1)) := m
        subst m
        refine mjZ_y rfl rfl 1 _ _ _ _ tv ?_
        refine (And.intro (Nat.le_of_ble_eq_true rfl) ?_)
        refine mjZ_y rfl rfl 2 _ _ _ _ tv ?_
        refine And.intro (fun r => ?_) (fun r => ?_)
        · refine mjZ_y rfl rfl 2 _ _ _ _ tv ?_
          refine And.intro rfl (And.intro (Or.inl rfl) ?_)
          exact ⟨fv2, Or.inr ⟨by omega, rfl, ws', av⟩⟩
        · exact absurd (show (-1 : Int32) < 0 by decide) r
    · exact absurd (show u.2.2.1 r_disk x1.toNatClampNeg = 42 by rw [c1]; exact b42) s
  exact go _ ty' rfl
theorem AT.end {b : Nat → Int32} {e : Nat} {L : List Int32} : AT b e e L := fun i _ _ h => by omega
/-- the bytes of requests, one behind another -/
theorem encs_cons (q : Req) (ns : List Req) : encs (q :: ns) = encR q ++ encs ns := by unfold encs; rw [List.flatMap_cons]
theorem EX_ok : QOK [nm 100] 100 := ⟨by decide +kernel, by decide, by decide, Or.inr (Or.inr rfl), by decide +kernel, by decide, by decide, fun w hw => by rw [List.mem_singleton.mp hw]; exact nm_wok (by decide), by decide +kernel⟩
theorem MU_ok : QOK [nm 99] 99 := ⟨by decide +kernel, by decide, by decide, Or.inr (Or.inl rfl), by decide +kernel, by decide, by decide, fun w hw => by rw [List.mem_singleton.mp hw]; exact nm_wok (by decide), by decide +kernel⟩
theorem LSt_ok {A B : List AK} {q : Req} (h : LSt A q B) : ∃ i, QOK q i ∧ lgB i = true := by
  obtain ⟨i, h1, h2, h3, h4, h5, h6, h7, h8, h9, b1, b2, b3, b4, b5, b6⟩ := h
  exact ⟨i, ⟨h1, h2, h3, Or.inl h4, h5, h6, h7, h8, b6⟩, h4⟩
theorem LC_ok {P : Nat} : ∀ {ns : List Req} {A B : List AK}, LC P A ns B → ∀ q ∈ ns, ∃ i, QOK q i ∧ lgB i = true := by
  intro ns
  induction ns with
  | nil => intro A B _ q hq; cases hq
  | cons r ns ih =>
    intro A B h q hq
    obtain ⟨D, h1, _, h3⟩ := h
    rcases List.mem_cons.mp hq with rfl | hq
    · exact LSt_ok h1
    · exact ih h3 q hq
theorem lg_mx {i : Nat} (h : lgB i = true) : ¬ i = 99 ∧ ¬ i = 100 := ⟨fun z => by subst z; exact absurd h (by decide), fun z => by subst z; exact absurd h (by decide)⟩
/-- what blockEnd answers -/
def beK (σ : mjS) (p e n : Nat) : mjK := fun r u => Fr laF awH σ u ∧ (∃ ws, AR u ws) ∧ ((p + n ≤ e ∧ r = some (.int (nI (p + n)))) ∨ (e < p + n ∧ r = some (.int (-1))))
set_option maxRecDepth 100000 in
theorem c_blockEnd_loop {e : Nat} (he : e ≤ 700000) (x1 : Int32) : ∀ (ns : List Req) (p : Nat) (σ : mjS) (ws0 : Req) (x2 : Int32) (l4 : Option Value), (∀ q ∈ ns, ∃ i, QOK q i ∧ lgB i = true) → x2 = nI p → p ≤ e → mjTY σ → AR σ ws0 → TB σ → σ.1 f_diskSize = nI e → AT (σ.2.2.1 r_disk) p e (encs ns ++ encR [nm 100]) →
    mjY mjPP (mjQQ Y) (d + 6) 187 4 [some (.ref 0), some (.int x1), some (.int x2), some (.int (Int32.ofInt 1)), l4] [] σ (beK σ p e (encs ns ++ encR [nm 100]).length) := by
  have w1 : ∀ (K : mjK) (u : mjS) (x2 : Int32) (x4 : Int32), mjTY u → K (some (.int x2)) u → mjY mjPP (mjQQ Y) (d + 6) 187 4 [some (.ref 0), some (.int x1), some (.int x2), some (.int (Int32.ofInt 0)), some (.int x4)] [] u K := by
    intro K u x2 x4 tu k
    refine mjZ_y rfl rfl 2 _ _ _ _ tu ?_
    refine And.intro (fun c => ?_) (fun c => ?_)
    · refine mjZ_y rfl rfl 2 _ _ _ _ tu ?_
      refine And.intro rfl (And.intro (Or.inl rfl) ?_)
      exact k
    · exact absurd (show Int32.ofInt 0 = 0 from rfl) c
  intro ns
  induction ns with
  | nil =>
    intro p σ ws0 x2 l4 hn e2 hp ty a0 hT ee h
    have h : AT (σ.2.2.1 r_disk) p e (encR [nm 100]) := h
    show mjY mjPP (mjQQ Y) (d + 6) 187 4 _ [] σ (beK σ p e (encR [nm 100]).length)
    refine mjZ_y rfl rfl 2 _ _ _ _ ty ?_
    refine And.intro (fun c => ?_) (fun c => ?_)
    · exact absurd (show Int32.ofInt 1 = 0 from c) (by decide)
    refine mjZ_y rfl rfl 3 _ _ _ _ ty ?_
    refine (And.intro (Nat.le_of_ble_eq_true rfl) (And.intro rfl (And.intro (Nat.le_of_ble_eq_true rfl) (And.intro (Nat.le_of_ble_eq_true rfl) (mjY_mono ty (fun q_ u tu h_ => ?_) (c_logAt0 a0 ty hT hp he ee EX_ok h e2))))))
    obtain ⟨fu, k⟩ := h_
    intro _
    rcases k with ⟨k1, rfl, k3, k4⟩ | ⟨k1, rfl, ws, k4⟩
    · refine mjZ_y rfl rfl 1 _ _ _ _ tu ?_
      refine (And.intro (Nat.le_of_ble_eq_true rfl) ?_)
      refine mjZ_y rfl rfl 2 _ _ _ _ tu ?_
      refine And.intro (fun r => ?_) (fun r => ?_)
      · exact absurd (show nI (p + (encR [nm 100]).length) < 0 from r) (nI_n0 (by omega))
      refine mjZ_y rfl rfl 4 _ _ _ _ tu ?_
      refine (And.intro rfl (And.intro (fun g => ?_) (fun g => ?_)))
      · refine mjZ_y rfl rfl 6 _ _ _ _ tu ?_
        refine (And.intro (Nat.le_of_ble_eq_true rfl) (And.intro rfl (And.intro (fun o => ?_) (fun o => ?_))))
        · refine mjZ_y rfl rfl 3 _ _ _ _ tu ?_
          refine (And.intro (Nat.le_of_ble_eq_true rfl) ?_)
          exact w1 _ u _ _ tu ⟨fu, ⟨_, k4⟩, Or.inl ⟨k1, rfl⟩⟩
        · exact absurd (show u.1 f_logCommand = nI 100 from k3) o
      · exact absurd (fun y => absurd ((nI_eq (a := 100) (b := 99) (by decide) (by decide)).mp (k3.symm.trans y)) (by decide)) g
    · refine mjZ_y rfl rfl 1 _ _ _ _ tu ?_
      refine (And.intro (Nat.le_of_ble_eq_true rfl) ?_)
      refine mjZ_y rfl rfl 2 _ _ _ _ tu ?_
      refine And.intro (fun r => ?_) (fun r => ?_)
      · refine mjZ_y rfl rfl 2 _ _ _ _ tu ?_
        refine And.intro rfl (And.intro (Or.inl rfl) ?_)
        exact ⟨fu, ⟨_, k4⟩, Or.inr ⟨k1, rfl⟩⟩
      · exact absurd (show (-1 : Int32) < 0 by decide) r
  | cons q ns ih =>
    intro p σ ws0 x2 l4 hn e2 hp ty a0 hT ee h
    obtain ⟨i, hq, lg⟩ := hn q List.mem_cons_self
    obtain ⟨m1, m2⟩ := lg_mx lg
    have hi := hq.2.2.1
    rw [encs_cons, List.append_assoc] at h ⊢
    rw [List.length_append]
    refine mjZ_y rfl rfl 2 _ _ _ _ ty ?_
    refine And.intro (fun c => ?_) (fun c => ?_)
    · exact absurd (show Int32.ofInt 1 = 0 from c) (by decide)
    refine mjZ_y rfl rfl 3 _ _ _ _ ty ?_
    refine (And.intro (Nat.le_of_ble_eq_true rfl) (And.intro rfl (And.intro (Nat.le_of_ble_eq_true rfl) (And.intro (Nat.le_of_ble_eq_true rfl) (mjY_mono ty (fun q_ u tu h_ => ?_) (c_logAt0 a0 ty hT hp he ee hq h.l e2))))))
    obtain ⟨fu, k⟩ := h_
    intro _
    rcases k with ⟨k1, rfl, k3, k4⟩ | ⟨k1, rfl, ws, k4⟩
    · refine mjZ_y rfl rfl 1 _ _ _ _ tu ?_
      refine (And.intro (Nat.le_of_ble_eq_true rfl) ?_)
      refine mjZ_y rfl rfl 2 _ _ _ _ tu ?_
      refine And.intro (fun r => ?_) (fun r => ?_)
      · exact absurd (show nI (p + (encR q).length) < 0 from r) (nI_n0 (by omega))
      refine mjZ_y rfl rfl 4 _ _ _ _ tu ?_
      refine (And.intro rfl (And.intro (fun g => ?_) (fun g => ?_)))
      · refine mjZ_y rfl rfl 6 _ _ _ _ tu ?_
        refine (And.intro (Nat.le_of_ble_eq_true rfl) (And.intro rfl (And.intro (fun o => ?_) (fun o => ?_))))
        · exact absurd ((nI_eq (a := i) (b := 100) (by omega) (by decide)).mp (k3.symm.trans o)) m2
        · refine mjZ_y rfl rfl 4 _ _ _ _ tu ?_
          refine (And.intro (Nat.le_of_ble_eq_true rfl) ?_)
          refine mjY_mono tu (fun r v tv k => ?_) (ih (p + (encR q).length) u q _ _ (fun q hq => hn q (List.mem_cons_of_mem _ hq)) rfl k1 tu k4 (hT.fr fu (by decide)) (by rw [fu.1 _ (by decide)]; exact ee) (by rw [(fu.2.2 _ (by decide)).1]; exact h.r))
          obtain ⟨f2, a2, kk⟩ := k
          refine ⟨fu.tr f2, a2, ?_⟩
          rw [← Nat.add_assoc]; exact kk
      · exact absurd (fun y => m1 ((nI_eq (a := i) (b := 99) (by omega) (by decide)).mp (k3.symm.trans y))) g
    · refine mjZ_y rfl rfl 1 _ _ _ _ tu ?_
      refine (And.intro (Nat.le_of_ble_eq_true rfl) ?_)
      refine mjZ_y rfl rfl 2 _ _ _ _ tu ?_
      refine And.intro (fun r => ?_) (fun r => ?_)
      · refine mjZ_y rfl rfl 2 _ _ _ _ tu ?_
        refine And.intro rfl (And.intro (Or.inl rfl) ?_)
        exact ⟨fu, ⟨_, k4⟩, Or.inr ⟨by omega, rfl⟩⟩
      · exact absurd (show (-1 : Int32) < 0 by decide) r
set_option maxRecDepth 100000 in
theorem c_blockEnd {σ : mjS} {ws0 : Req} (a0 : AR σ ws0) (ty : mjTY σ) (hT : TB σ) {p e : Nat} (hp : p ≤ e) (he : e ≤ 700000) (ee : σ.1 f_diskSize = nI e) {ns : List Req} (hn : ∀ q ∈ ns, ∃ i, QOK q i ∧ lgB i = true) (h : AT (σ.2.2.1 r_disk) p e (encs ns ++ encR [nm 100])) {x1 : Int32} (e1 : x1 = nI p) : mjY mjPP (mjQQ Y) (d + 6) 187 0 (mjL0 5 [.ref 0, .int x1]) [] σ (beK σ p e (encs ns ++ encR [nm 100]).length) := by
  refine mjZ_y rfl rfl 4 _ _ _ _ ty ?_
  refine (And.intro (Nat.le_of_ble_eq_true rfl) (And.intro (Nat.le_of_ble_eq_true rfl) ?_))
  exact c_blockEnd_loop he x1 ns p σ ws0 _ _ hn e1 hp ty a0 hT ee h
end LOGAT
