/-! EXEC: the block's commands, one behind another; what is noted of them. -/
section EXECS
variable {Y : Nat → MethodName × ByteArray} {d : Nat}
/-- a request as the log has it -/
def encR (q : Req) : List Int32 := 42 :: dec (lN q.length) ++ [13, 10] ++ wordsL q
def encs (ns : List Req) : List Int32 := ns.flatMap encR
def pendB (b : Bool) (ns : List Req) : List Int32 := if ns = [] then [] else (if b = true then encR [nm 99] else []) ++ encs ns
def noteR : Eff → List Req
  | none => []
  | some (_, j, as) => [nm j :: as]
theorem head_enc {σ : mjS} (j : Nat) (as : List (List Int32)) : headL σ (lN (as.length + 1)) j ++ wordsL as = encR (nmOf σ j :: as) := by
  unfold headL encR
  show 42 :: dec (lN (as.length + 1)) ++ [13, 10] ++ wordL (nmOf σ j) ++ wordsL as = 42 :: dec (lN (as.length + 1)) ++ [13, 10] ++ wordsL (nmOf σ j :: as)
  unfold wordsL
  simp only [List.flatMap_cons, List.append_assoc]
theorem head_1 {σ : mjS} (j : Nat) : headL σ 1 j = encR [nmOf σ j] := by
  have := head_enc (σ := σ) j []
  rw [← this]
  show _ = headL σ (lN (0 + 1)) j ++ []
  rw [List.append_nil]; rfl
theorem encs_app (a b : List Req) : encs (a ++ b) = encs a ++ encs b := by unfold encs; rw [List.flatMap_append]
theorem encs_1 (q : Req) : encs [q] = encR q := by unfold encs; simp
theorem encR_ne (q : Req) : encR q ≠ [] := by unfold encR; simp
theorem pendB_nil {b : Bool} {ns : List Req} : pendB b ns = [] ↔ ns = [] := by
  refine ⟨fun h => ?_, fun h => by unfold pendB; rw [if_pos h]⟩
  unfold pendB at h
  by_cases c : ns = []
  · exact c
  · rw [if_neg c] at h
    cases ns with
    | nil => exact absurd rfl c
    | cons q r =>
      have := (List.append_eq_nil_iff.mp h).2
      unfold encs at this
      rw [List.flatMap_cons] at this
      exact absurd (List.append_eq_nil_iff.mp this).1 (encR_ne q)
theorem rnL_pend {σ : mjS} {b : Bool} {ns : List Req} {e : Eff} (hT : TB σ) (hb : (¬ σ.1 f_inBlock = 0) ↔ b = true) (hr : σ.1 f_replays = 0) (hj : ∀ A j as, e = some (A, j, as) → 1 ≤ j ∧ j ≤ 105) (hn : b = true ∨ ns = []) : rnL σ (pendB b ns) e = pendB b (ns ++ noteR e) := by
  cases e with
  | none => show pendB b ns = pendB b (ns ++ []); rw [List.append_nil]
  | some q =>
    obtain ⟨A, j, as⟩ := q
    obtain ⟨j1, j2⟩ := hj A j as rfl
    show (if σ.1 f_replays = 0 then pendB b ns ++ begL σ (pendB b ns) (lN (as.length + 1)) j ++ wordsL as else pendB b ns) = pendB b (ns ++ [nm j :: as])
    rw [if_pos hr]
    unfold begL
    rw [List.append_assoc, List.append_assoc, head_enc, hT.nmE j1 j2, head_1, hT.nmE (i := 99) (by decide) (by decide)]
    have e1 : pendB b (ns ++ [nm j :: as]) = (if b = true then encR [nm 99] else []) ++ (encs ns ++ encR (nm j :: as)) := by
      unfold pendB; rw [if_neg (by simp), encs_app, encs_1]
    rw [e1]
    by_cases c : ns = []
    · subst c
      have e2 : pendB b [] = [] := rfl
      rw [e2]
      by_cases hb1 : b = true
      · rw [if_pos ⟨hb.mpr hb1, rfl⟩, if_pos hb1]; rfl
      · rw [if_neg (fun z => hb1 (hb.mp z.1)), if_neg hb1]; rfl
    · have hb1 := hn.resolve_right c
      rw [if_neg (fun z => c (pendB_nil.mp z.2)), if_pos hb1]
      unfold pendB
      rw [if_neg c, if_pos hb1]; simp
theorem encR_len (j : Nat) (hj : j < 106) (as : List (List Int32)) : (encR (nm j :: as)).length ≤ 66 + sz as := by
  unfold encR
  have h1 := dec_len (lN (nm j :: as).length)
  have h2 := wordsL_len (nm j :: as)
  rw [sz_cons] at h2
  have h3 := (nm_ok j hj).1
  simp only [List.length_append, List.length_cons, List.length_nil] at h1 h2 ⊢
  omega
/-- the lists on the way from one to another by requests of the log -/
def LC (p : Nat) : List AK → List Req → List AK → Prop
  | A, [], A' => A' = A
  | A, q :: ns, A' => ∃ B, LSt A q B ∧ LI B p ∧ LC p B ns A'
theorem LC_app {p : Nat} : ∀ {ns ms : List Req} {A B C : List AK}, LC p A ns B → LC p B ms C → LC p A (ns ++ ms) C := by
  intro ns
  induction ns with
  | nil => intro ms A B C h g; have h : B = A := h; rw [← h]; exact g
  | cons q ns ih => intro ms A B C h g; obtain ⟨D, h1, h2, h3⟩ := h; exact ⟨D, h1, h2, ih h3 g⟩
theorem LC_less {p q : Nat} (hq : q ≤ p) : ∀ {ns : List Req} {A B : List AK}, LC p A ns B → LC q A ns B := by
  intro ns
  induction ns with
  | nil => intro A B h; exact h
  | cons r ns ih => intro A B h; obtain ⟨D, h1, h2, h3⟩ := h; exact ⟨D, h1, h2.less hq, ih h3⟩
/-- what one live command adds -/
theorem step_LC {σ : mjS} {i : Nat} {ws : Req} {ks : List KR} {p : Nat} (hT : TB σ) (hi1 : 1 ≤ i) (hi : i ≤ 105) (hL : LI (strip ks) p) (hr : rw ws ≤ p) (hw : 1 ≤ ws.length) (h1024 : ws.length ≤ 1024) (hW : ∀ w ∈ ws, WOK w) (af : afX i (ws.length - 1) = true) (hrp : σ.1 f_replays = 0) (hn : 0 ≤ σ.2.1 f_now0) : LC (p - rw ws) (strip ks) (noteR (rnE σ ks i ws)) (efA (strip ks) (rnE σ ks i ws)) ∧ (∀ A j as, rnE σ ks i ws = some (A, j, as) → 1 ≤ j ∧ j ≤ 105) ∧ (encs (noteR (rnE σ ks i ws))).length ≤ 176 + sz ws := by
  have hl := LI_run hT hi1 hi hL hr hw h1024 hW af hrp hn
  have hp : p ≤ 10240 := by have := hL.2.2.1; omega
  cases e : rnE σ ks i ws with
  | none => exact ⟨rfl, fun A j as z => (by cases z), Nat.zero_le _⟩
  | some q =>
    obtain ⟨A', j, as⟩ := q
    rw [e] at hl
    have nr : ¬ refP σ ks i := fun z => by unfold rnE at e; rw [if_pos z] at e; cases e
    have er : decide (¬ σ.1 f_replays = 0) = false := decide_eq_false (fun z => z hrp)
    have e2 : rnF i ws (σ.2.1 f_now0) false (strip ks) = some (A', j, as) := by
      unfold rnE at e; rw [if_neg nr, er] at e; exact e
    obtain ⟨k1, k2, k3, k4⟩ := live_LS hL hr hp hW hw h1024 hi1 hi af hn (fun hv => by
      have hv2 : ¬ σ.2.2.1 r_heavy i = 0 := (hT i hi1 hi).2.2.2.2.mpr hv
      rw [← memA_B]
      exact Nat.lt_of_not_le (fun z => nr ⟨hv2, hrp, z⟩)) e2
    refine ⟨⟨A', k1, hl, rfl⟩, fun A j2 as2 z => (by cases z; exact ⟨k3, k4⟩), ?_⟩
    show (encs [nm j :: as]).length ≤ _
    rw [encs_1]
    have := encR_len j (by omega) as
    omega
theorem step_cost {σ : mjS} {i : Nat} {ws : Req} {ks : List KR} {p : Nat} (hT : TB σ) (hi1 : 1 ≤ i) (hi : i ≤ 105) (hL : LI (strip ks) p) (hr : rw ws ≤ p) (hw : 1 ≤ ws.length) (h1024 : ws.length ≤ 1024) (hW : ∀ w ∈ ws, WOK w) (af : afX i (ws.length - 1) = true) (h3 : 1 ≤ cmC (gw ws 0)) (hrp : σ.1 f_replays = 0) (hn : 0 ≤ σ.2.1 f_now0) : (encs (noteR (rnE σ ks i ws))).length + kap (efA (strip ks) (rnE σ ks i ws)) + 50 * (p - rw ws) ≤ kap (strip ks) + 50 * p := by
  have s2 := (step_LC hT hi1 hi hL hr hw h1024 hW af hrp hn).2.1
  cases e : rnE σ ks i ws with
  | none => show 0 + kap (strip ks) + _ ≤ _; omega
  | some q =>
    obtain ⟨A', j, as⟩ := q
    have nr : ¬ refP σ ks i := fun z => by unfold rnE at e; rw [if_pos z] at e; cases e
    have er : decide (¬ σ.1 f_replays = 0) = false := decide_eq_false (fun z => z hrp)
    have e2 : rnF i ws (σ.2.1 f_now0) false (strip ks) = some (A', j, as) := by
      unfold rnE at e; rw [if_neg nr, er] at e; exact e
    have c := live_cost hw hi h1024 af (cm_len h3) e2
    obtain ⟨-, ⟨g1, g2⟩, -⟩ := gr_rn hL.1 hW hw h1024 (by omega) af hn rfl e2
    have r1 := rw_ge ws
    have := encR_len j (by have := (s2 A' j as e).2; omega) as
    show (encs [nm j :: as]).length + kap A' + _ ≤ _
    rw [encs_1]
    unfold kap
    omega
/-- what a block may hold -/
def gQ (q : Req) : Prop := 1 ≤ q.length ∧ q.length ≤ 1024 ∧ (∀ w ∈ q, WOK w) ∧ 1 ≤ cmC (gw q 0) ∧ cmC (gw q 0) ∉ [96, 97, 99, 100, 101, 102, 103] ∧ afX (cmC (gw q 0)) (q.length - 1) = true
def rqs : List Req → Nat
  | [] => 0
  | q :: r => rw q + rqs r
theorem rqs_mem {q : Req} : ∀ {l : List Req}, q ∈ l → rw q ≤ rqs l := by
  intro l
  induction l with
  | nil => intro h; cases h
  | cons y r ih =>
    intro h
    rcases List.mem_cons.mp h with rfl | h
    · exact Nat.le_add_right _ _
    · exact Nat.le_trans (ih h) (Nat.le_add_left _ _)
abbrev exFs : List Nat := f_words :: f_reqSize :: f_inBlock :: cF
abbrev exHs : List Nat := awH ++ ruH
theorem Wd.dq {σ u : mjS} {ws ws' : List (List Int32)} {ks : List KR} {l : List Int32} (h : Wd σ ws ks l) (f : Fr dqF awH σ u) (a : AR u ws') : Wd u ws' ks l := by
  obtain ⟨⟨hs', fk, fe, k⟩, -, p, ⟨⟨n, hn, en⟩, -⟩, t⟩ := h
  exact ⟨⟨hs', fk, fe, k.fr f (by decide) (by decide)⟩, a, pnd_fr p f (by decide) (by decide), ⟨⟨n, hn, by rw [f.1 _ (by decide)]; exact en⟩, trivial⟩, t.fr f (by decide) (by decide) (by decide)⟩
theorem pendB_len {b : Bool} {ns : List Req} : (pendB b ns).length ≤ 66 + (encs ns).length := by
  unfold pendB
  by_cases c : ns = []
  · rw [if_pos c]; exact Nat.zero_le _
  · rw [if_neg c, List.length_append]
    have := encR_len 99 (by decide) []
    have e : sz [] = 0 := rfl
    by_cases hb : b = true
    · rw [if_pos hb]; omega
    · rw [if_neg hb]; show 0 + _ ≤ _; omega
set_option maxRecDepth 100000 in
theorem c_exec_loop (K : mjK) {c : Nat} (hc : c < 4) {qs : List Req} {qe we ce : Nat} {A0 : List AK} {M : Nat} (hq : qs.length ≤ 200) (hg : ∀ q ∈ qs, gQ q) (x1 x2 x3 x4 : Int32) (e1 : x1 = nI c) (e4 : x4 = nI qs.length) : ∀ (j k : Nat) (σ : mjS) (ws : Req) (ks : List KR) (ns : List Req) (I : Nat → Nat) (G : Nat → List Req) (p : Nat) (x5 : Int32), x5 = nI k → k + j = qs.length → mjTY σ → Wd σ ws ks (pendB true ns) → CX σ qe we ce I G → TB σ → σ.1 f_cur = nI c → ¬ σ.1 f_inBlock = 0 → σ.1 f_replays = 0 → 0 ≤ σ.2.1 f_now0 → LI (strip ks) p →
    (∀ i q, k ≤ i → qs[i]? = some q → ∃ pos : Nat, σ.2.2.1 r_queuedAt (200 * c + i) = nI pos ∧ pos + 2 + qsz q ≤ 200000 ∧ QE (σ.2.2.1 r_queue) pos q) → rqs (qs.drop k) ≤ p → (encs ns).length + 176 * j + 14 * rqs (qs.drop k) ≤ 250000 → LC p A0 ns (strip ks) → (encs ns).length + kap (strip ks) + 50 * p ≤ M →
    (∀ u ws' ks' ns' I' G' x5, mjTY u → Fr exFs exHs σ u → Wd u ws' ks' (pendB true ns') → CX u qe we ce I' G' → CL I I' G G' → LI (strip ks') (p - rqs (qs.drop k)) → LC (p - rqs (qs.drop k)) A0 ns' (strip ks') → (encs ns').length ≤ 250000 → (encs ns').length + kap (strip ks') + 50 * (p - rqs (qs.drop k)) ≤ M → mjY mjPP (mjQQ Y) (d + 10) 153 67 [some (.ref 0), some (.int x1), some (.int x2), some (.int x3), some (.int x4), some (.int x5)] [] u K) →
    mjY mjPP (mjQQ Y) (d + 10) 153 48 [some (.ref 0), some (.int x1), some (.int x2), some (.int x3), some (.int x4), some (.int x5)] [] σ K := by
  intro j
  induction j with
  | zero =>
    intro k σ ws ks ns I G p x5 e5 hk ty hW hX hT hcur hB hrp hnow hL hQ hp hlen hC hM hK
    have ed : rqs (qs.drop k) = 0 := by rw [List.drop_eq_nil_of_le (by omega)]; rfl
    rw [ed] at hK
    refine mjZ_y rfl rfl 3 _ _ _ _ ty ?_
    refine And.intro (fun q => ?_) (fun q => ?_)
    · exact hK σ ws ks ns I G _ ty Fr.rf hW hX CL.rf hL hC (by omega) (by omega)
    · exact absurd (show x4 ≤ x5 by rw [e4, e5]; exact nI_le (by omega) (by omega)) q
  | succ j ih =>
    intro k σ ws ks ns I G p x5 e5 hk ty hW hX hT hcur hB hrp hnow hL hQ hp hlen hC hM hK
    have hkl : k < qs.length := by omega
    obtain ⟨q, hqk⟩ : ∃ q, qs[k]? = some q := ⟨qs[k], List.getElem?_eq_getElem hkl⟩
    have eq : qs[k] = q := by rw [List.getElem?_eq_getElem hkl] at hqk; exact Option.some.inj hqk
    have ed : rqs (qs.drop k) = rw q + rqs (qs.drop (k + 1)) := by rw [List.drop_eq_getElem_cons hkl, eq]; rfl
    obtain ⟨q1, q2, q3, q4, q5, q6⟩ := hg q (List.mem_of_getElem? hqk)
    obtain ⟨pos, p1, p2, p3⟩ := hQ k q (Nat.le_refl _) hqk
    have rq := rw_ge q
    have hp10 : p ≤ 10240 := by have := hL.2.2.1; omega
    refine mjZ_y rfl rfl 3 _ _ _ _ ty ?_
    refine And.intro (fun z => ?_) (fun z => ?_)
    · exact absurd (show x4 ≤ x5 from z) (by rw [e4, e5]; exact nI_ge (by omega) (by omega))
    have ei : (Int16.ofInt 200).toInt32 * x1 + x5 = nI (200 * c + k) := by rw [e1, e5]; exact nI_mul200 c k
    have vi : vp_in ((Int16.ofInt 200).toInt32 * x1 + x5) 800 := by rw [ei]; exact vp_in_nI (by omega) (by decide)
    have ci : ((Int16.ofInt 200).toInt32 * x1 + x5).toNatClampNeg = 200 * c + k := by rw [ei]; exact nI_clamp (by omega)
    refine mjZ_y rfl rfl 10 _ _ _ _ ty ?_
    refine (And.intro rfl (And.intro rfl (And.intro vi (And.intro (Nat.le_of_ble_eq_true rfl) (And.intro rfl (And.intro (Nat.le_of_ble_eq_true rfl) (And.intro (Nat.le_of_ble_eq_true rfl) (mjY_mono ty (fun q_ u1 ty1 h_ => ?_) (c_dequeue ty p2 q2 (by omega) p3 (by rw [ci]; exact p1))))))))))
    obtain ⟨rfl, f1, a1⟩ := h_
    intro _
    have h1 := hW.dq f1 a1
    have hX1 := hX.fr f1 (by decide) (by decide)
    have hT1 := hT.fr f1 (by decide)
    have g0 : q[0]? = some (gw q 0) := gw_at (by omega)
    refine mjZ_y rfl rfl 3 _ _ _ _ ty1 ?_
    refine (And.intro (Nat.le_of_ble_eq_true rfl) (And.intro rfl (And.intro (Nat.le_of_ble_eq_true rfl) (And.intro (Nat.le_of_ble_eq_true rfl) (mjY_mono ty1 (fun q_ u2 ty2 h_ => ?_) (c_command a1 ty1 g0))))))
    obtain ⟨rfl, rfl⟩ := h_
    intro _
    rw [hT1.cm]
    have hi := cmC_le (gw q 0)
    have hrp1 : u2.1 f_replays = 0 := by rw [f1.1 _ (by decide)]; exact hrp
    have hnow1 : 0 ≤ u2.2.1 f_now0 := by rw [f1.2.1 _ (by decide)]; exact hnow
    have pl := pendB_len (b := true) (ns := ns)
    have szq := sz_rw q
    have B := BD_live hT1 q4 hi hL (by omega) q2 q3 q6 (l := pendB true ns) (by omega) hrp1
    obtain ⟨s1, s2, s3⟩ := step_LC hT1 q4 hi hL (by omega) q1 q2 q3 q6 hrp1 hnow1
    have hl' := LI_run hT1 q4 hi hL (by omega) q1 q2 q3 q6 hrp1 hnow1
    refine mjZ_y rfl rfl 1 _ _ _ _ ty2 ?_
    refine (And.intro (Nat.le_of_ble_eq_true rfl) (And.intro rfl (And.intro (Nat.le_of_ble_eq_true rfl) (And.intro (Nat.le_of_ble_eq_true rfl) (mjY_mono ty2 (fun q_ u3 ty3 h_ => ?_) (run_all h1 ty2 hX1 hc (by rw [f1.1 _ (by decide)]; exact hcur) _ q4 hi q5 B q6 q1 rfl))))))
    obtain ⟨rfl, f3, ⟨ks3, h3, ek3⟩, I3, G3, hX3, l3⟩ := h_
    intro _
    have f13 : Fr exFs exHs σ u3 := (f1.up (by decide) (by decide)).tr (f3.up (by decide) (by decide))
    have eb : (¬ u2.1 f_inBlock = 0) ↔ true = true := ⟨fun _ => rfl, fun _ => by rw [f1.1 _ (by decide)]; exact hB⟩
    rw [rnL_pend hT1 eb hrp1 s2 (Or.inl rfl)] at h3
    refine mjZ_y rfl rfl 2 _ _ _ _ ty3 ?_
    have eB3 : ¬ u3.1 f_inBlock = 0 := by rw [f3.1 _ (by decide), f1.1 _ (by decide)]; exact hB
    have fq : Fr (f_words :: f_reqSize :: cF) exHs σ u3 := (f1.up (by decide) (by decide)).tr (f3.up (by decide) (by decide))
    refine ih (k + 1) u3 q ks3 _ I3 G3 (p - rw q) _ (by rw [e5]; exact nI_1 k) (by omega) ty3 h3 hX3 ((hT1.fr f3 (by decide))) (by rw [fq.1 _ (by decide)]; exact hcur) eB3 (by rw [fq.1 _ (by decide)]; exact hrp) (by rw [fq.2.1 _ (by decide)]; exact hnow) (by rw [ek3]; exact hl') (fun i r hik hir => ?_) (by omega) ?_ ?_ ?_ (fun u ws' ks' ns' I' G' x5 tu fu hu xu lu au cu len cst => ?_)
    · obtain ⟨pos, p1, p2, p3⟩ := hQ i r (by omega) hir
      exact ⟨pos, by rw [(fq.2.2 _ (by decide)).1]; exact p1, p2, by rw [(fq.2.2 _ (by decide)).1]; exact p3⟩
    · rw [encs_app, List.length_append]; omega
    · rw [ek3]; exact LC_app (LC_less (by omega) hC) s1
    · have sc := step_cost hT1 q4 hi hL (by omega) q1 q2 q3 q6 q4 hrp1 hnow1
      rw [ek3, encs_app, List.length_append]; omega
    · have es : p - rqs (qs.drop k) = p - rw q - rqs (qs.drop (k + 1)) := by omega
      exact hK u ws' ks' ns' I' G' x5 tu (f13.tr fu) hu xu (l3.tr lu) (by rw [es]; exact au) (by rw [es]; exact cu) len (by rw [es]; exact cst)
end EXECS
