/-! DEL, FLUSHALL, EXPIRE and its like, PERSIST. -/
section DELS
variable {Y : Nat → MethodName × ByteArray} {d : Nat}
def delA (A : List AK) (w : List Int32) : List AK := match kyI A w with
  | some p => rmA A p
  | none => A
def dlA : List AK → List (List Int32) → List AK
  | A, [] => A
  | A, w :: r => dlA (delA A w) r
def dlN : List AK → List (List Int32) → Nat
  | _, [] => 0
  | A, w :: r => (if kyI A w = none then 0 else 1) + dlN (delA A w) r
theorem dlN_0 : ∀ (r : List (List Int32)) (A : List AK), dlN A r = 0 → dlA A r = A := by
  intro r
  induction r with
  | nil => intro A _; rfl
  | cons w r ih =>
    intro A h
    have h : (if kyI A w = none then 0 else 1) + dlN (delA A w) r = 0 := h
    by_cases c : kyI A w = none
    · have e : delA A w = A := by unfold delA; rw [c]
      rw [if_pos c, e] at h
      show dlA (delA A w) r = A
      rw [e]; exact ih A (by omega)
    · rw [if_neg c] at h; omega
theorem dlN_le : ∀ (r : List (List Int32)) (A : List AK), dlN A r ≤ r.length := by
  intro r
  induction r with
  | nil => intro A; exact Nat.le_refl _
  | cons w r ih =>
    intro A
    show (if kyI A w = none then 0 else 1) + dlN (delA A w) r ≤ r.length + 1
    have := ih (delA A w)
    split <;> omega
theorem drop1 {ws : List (List Int32)} {a m : Nat} (h : a + (m + 1) = ws.length) : ∃ w, ws[a]? = some w ∧ ws.drop a = w :: ws.drop (a + 1) := by
  have h1 : a < ws.length := by omega
  exact ⟨ws[a], List.getElem?_eq_getElem h1, List.drop_eq_getElem_cons h1⟩
theorem ky_ge {σ : mjS} {ws : List (List Int32)} {ks : List KR} {l : List Int32} (h : Wd σ ws ks l) (w : List Int32) : ((0 : Int32) ≤ kyS ks w ↔ ¬ kyI (strip ks) w = none) ∧ (kyS ks w < 0 ↔ kyI (strip ks) w = none) := by
  have kneg : kyS ks w < 0 ↔ kyI (strip ks) w = none := by
    rcases ky_cases ks w with ⟨g1, g2⟩ | ⟨P, y, Q, g0, g1, g2, -⟩
    · exact ⟨fun _ => g1, fun _ => lt_m1 g2⟩
    · refine ⟨fun z => absurd z ?_, fun z => by rw [g1] at z; cases z⟩
      subst g0
      exact lt_nI (by have := h.id; omega) g2
  exact ⟨by rw [← kneg]; exact Int32.not_lt.symm, kneg⟩
theorem ky_some {ks : List KR} {w : List Int32} (h : ¬ kyI (strip ks) w = none) : ∃ P x Q, ks = P ++ x :: Q ∧ kyI (strip ks) w = some P.length ∧ kyS ks w = nI x.1 ∧ cmpW x.2.1 w = 0 := by
  rcases ky_cases ks w with ⟨g1, g2⟩ | g
  · exact absurd g1 h
  · exact g
theorem ky_none {ks : List KR} {w : List Int32} (h : kyI (strip ks) w = none) : kyS ks w = -1 := by
  rcases ky_cases ks w with ⟨g1, g2⟩ | ⟨P, y, Q, g0, g1, g2, -⟩
  · exact g2
  · rw [g1] at h; cases h
set_option maxRecDepth 100000 in
theorem c_del_loop (K : mjK) {ws : List (List Int32)} {l : List Int32} : ∀ (m a n : Nat) (σ : mjS) (ks : List KR) (x1 x2 : Int32) (l3 : Option Value), a + m = ws.length → n + m ≤ 2000 → x1 = nI n → x2 = nI a → mjTY σ → Wd σ ws ks l →
    (∀ u ks' x1 x2 l3, mjTY u → Fr kF kH1 σ u → Wd u ws ks' l → strip ks' = dlA (strip ks) (ws.drop a) → x1 = nI (n + dlN (strip ks) (ws.drop a)) → mjY mjPP (mjQQ Y) (d + 4) 97 21 [some (.ref 0), some (.int x1), some (.int x2), l3] [] u K) →
    mjY mjPP (mjQQ Y) (d + 4) 97 4 [some (.ref 0), some (.int x1), some (.int x2), l3] [] σ K := by
  intro m
  induction m with
  | zero =>
    intro a n σ ks x1 x2 l3 ha hn e1 e2 ty h hK
    have h1024 := h.2.1.2.1
    refine mjZ_y rfl rfl 4 _ _ _ _ ty ?_
    refine (And.intro rfl (And.intro (fun q => ?_) (fun q => ?_)))
    · refine hK σ ks _ _ _ ty Fr.rf h ?_ ?_
      · rw [List.drop_of_length_le (by omega)]; rfl
      · rw [List.drop_of_length_le (by omega)]; exact e1
    · exact absurd (show σ.1 f_words ≤ x2 by rw [h.2.1.1, e2]; exact nI_le (by omega) (by omega)) q
  | succ m ih =>
    intro a n σ ks x1 x2 l3 ha hn e1 e2 ty h hK
    have h1024 := h.2.1.2.1
    obtain ⟨w, hw, ed⟩ := drop1 ha
    rw [ed] at hK
    refine mjZ_y rfl rfl 4 _ _ _ _ ty ?_
    refine (And.intro rfl (And.intro (fun q => ?_) (fun q => ?_)))
    · exact absurd (show σ.1 f_words ≤ x2 from q) (by rw [h.2.1.1, e2]; exact nI_ge (by omega) (by omega))
    · refine mjZ_y rfl rfl 3 _ _ _ _ ty ?_
      refine (And.intro (Nat.le_of_ble_eq_true rfl) (And.intro rfl (And.intro (Nat.le_of_ble_eq_true rfl) (And.intro (Nat.le_of_ble_eq_true rfl) (mjY_mono ty (fun q_ u1 ty1 h_ => ?_) (w_key h ty hw e2))))))
      obtain ⟨rfl, rfl⟩ := h_
      intro _
      refine mjZ_y rfl rfl 3 _ _ _ _ ty1 ?_
      refine (And.intro (Nat.le_of_ble_eq_true rfl) (And.intro (fun c => ?_) (fun c => ?_)))
      · have c := (ky_ge h w).1.mp c
        obtain ⟨P, x, Q, g0, g1, g2, -⟩ := ky_some c
        have e3 : kyS ks w = nI x.1 := g2
        generalize kyS ks w = x3 at e3
        subst g0
        refine mjZ_y rfl rfl 3 _ _ _ _ ty1 ?_
        refine (And.intro (Nat.le_of_ble_eq_true rfl) (And.intro rfl (And.intro (Nat.le_of_ble_eq_true rfl) (And.intro (Nat.le_of_ble_eq_true rfl) (mjY_mono ty1 (fun q_ u2 ty2 h_ => ?_) (w_goneKey h ty1 e3))))))
        obtain ⟨rfl, h2, f2⟩ := h_
        intro _
        refine mjZ_y rfl rfl 3 _ _ _ _ ty2 ?_
        have er : strip (P ++ Q) = delA (strip (P ++ x :: Q)) w := by unfold delA; rw [g1]; exact strip_rm
        refine ih (a + 1) (n + 1) u2 (P ++ Q) _ _ _ (by omega) (by omega) (by rw [e1]; exact nI_1 n) (by rw [e2]; exact nI_1 a) ty2 h2 (fun u ks' x1 x2 l3 tu fu hu eu en => hK u ks' x1 x2 l3 tu (f2.tr fu) hu ?_ ?_)
        · rw [er] at eu; exact eu
        · rw [en, er]; congr 1
          show _ = n + ((if kyI (strip (P ++ x :: Q)) w = none then 0 else 1) + _)
          rw [if_neg c]; omega
      · have c : kyI (strip ks) w = none := Decidable.of_not_not (fun z => c ((ky_ge h w).1.mpr z))
        refine mjZ_y rfl rfl 3 _ _ _ _ ty1 ?_
        have er : delA (strip ks) w = strip ks := by unfold delA; rw [c]
        refine ih (a + 1) n u1 ks _ _ _ (by omega) (by omega) e1 (by rw [e2]; exact nI_1 a) ty1 h (fun u ks' x1 x2 l3 tu fu hu eu en => hK u ks' x1 x2 l3 tu fu hu ?_ ?_)
        · show _ = dlA (delA (strip ks) w) _; rw [er]; exact eu
        · rw [en]; congr 1
          show _ = n + ((if kyI (strip ks) w = none then 0 else 1) + dlN (delA (strip ks) w) _)
          rw [if_pos c, er]; omega
def delF (A : List AK) (r : List (List Int32)) : Option (List AK) := if dlN A r = 0 then none else some (dlA A r)
set_option maxRecDepth 100000 in
theorem r_del {σ : mjS} {ws : List (List Int32)} {ks : List KR} {l : List Int32} (h : Wd σ ws ks l) (ty : mjTY σ) (hw : 1 ≤ ws.length) (hs : l.length + 132 + sz ws ≤ 420000) : mjY mjPP (mjQQ Y) (d + 6) 97 0 (mjL0 4 [.ref 0]) [] σ (cmdK σ ws ks l 22 (delF (strip ks) (ws.drop 1))) := by
  have h1024 := h.2.1.2.1
  refine mjZ_y rfl rfl 4 _ _ _ _ ty ?_
  refine (And.intro (Nat.le_of_ble_eq_true rfl) (And.intro (Nat.le_of_ble_eq_true rfl) ?_))
  refine c_del_loop _ (ws.length - 1) 1 0 σ ks _ _ _ (by omega) (by omega) rfl rfl ty h (fun u ks' x1 x2 l3 tu fu hu eu en => ?_)
  have hle := dlN_le (ws.drop 1) (strip ks)
  rw [List.length_drop] at hle
  rw [Nat.zero_add] at en
  refine mjZ_y rfl rfl 2 _ _ _ _ tu ?_
  refine And.intro (fun q => ?_) (fun q => ?_)
  · have q : dlN (strip ks) (ws.drop 1) = 0 := by
      have q : x1 ≤ nI 0 := q
      rw [en] at q
      have := (nI_leI (by omega) (by decide)).mp q; omega
    have eo : delF (strip ks) (ws.drop 1) = none := if_pos q
    rw [eo]
    refine mjZ_y rfl rfl 4 _ _ _ _ tu ?_
    refine (And.intro (Nat.le_of_ble_eq_true rfl) (And.intro rfl (And.intro (Nat.le_of_ble_eq_true rfl) (And.intro (Nat.le_of_ble_eq_true rfl) (mjY_mono tu (fun q_ u2 ty2 h_ => ?_) (w_number hu tu _))))))
    obtain ⟨rfl, h2, f2⟩ := h_
    intro _
    refine mjZ_y rfl rfl 1 _ _ _ _ ty2 ?_
    refine And.intro rfl (And.intro rfl ?_)
    refine ⟨rfl, fu.k1.tr f2.c, ks', h2, ?_⟩
    rw [eu]; exact dlN_0 _ _ q
  · have q : ¬ dlN (strip ks) (ws.drop 1) = 0 := fun z => q (show x1 ≤ nI 0 by rw [en, z]; exact nI_le (Nat.le_refl _) (by decide))
    have eo : delF (strip ks) (ws.drop 1) = some (dlA (strip ks) (ws.drop 1)) := if_neg q
    rw [eo]
    refine mjZ_y rfl rfl 3 _ _ _ _ tu ?_
    refine (And.intro (Nat.le_of_ble_eq_true rfl) (And.intro rfl (And.intro (Nat.le_of_ble_eq_true rfl) (And.intro (Nat.le_of_ble_eq_true rfl) (mjY_mono tu (fun q_ u2 ty2 h_ => ?_) (w_noteAll hu tu hw 22 rfl (by decide) hs))))))
    obtain ⟨rfl, h2, f2⟩ := h_
    intro _
    refine mjZ_y rfl rfl 4 _ _ _ _ ty2 ?_
    refine (And.intro (Nat.le_of_ble_eq_true rfl) (And.intro rfl (And.intro (Nat.le_of_ble_eq_true rfl) (And.intro (Nat.le_of_ble_eq_true rfl) (mjY_mono ty2 (fun q_ u3 ty3 h_ => ?_) (w_number h2 ty2 _))))))
    obtain ⟨rfl, h3, f3⟩ := h_
    intro _
    refine mjZ_y rfl rfl 1 _ _ _ _ ty3 ?_
    refine And.intro rfl (And.intro rfl ?_)
    rw [ntA_fr fu.k1] at h3
    exact ⟨rfl, (fu.k1.tr f2.n).tr f3.c, ks', h3, eu⟩
-- FLUSHALL
set_option maxRecDepth 100000 in
theorem c_flush_loop (K : mjK) (x1 : Int32) {ws : List (List Int32)} {l : List Int32} : ∀ (m : Nat) (σ : mjS) (ks : List KR), ks.length = m → mjTY σ → Wd σ ws ks l →
    (∀ u, mjTY u → Fr kF kH1 σ u → Wd u ws [] l → mjY mjPP (mjQQ Y) (d + 4) 101 20 [some (.ref 0), some (.int x1)] [] u K) →
    mjY mjPP (mjQQ Y) (d + 4) 101 7 [some (.ref 0), some (.int x1)] [] σ K := by
  intro m
  induction m with
  | zero =>
    intro σ ks hm ty h hK
    have e0 : ks = [] := List.length_eq_zero_iff.mp hm
    subst e0
    obtain ⟨⟨hs, fk, fe, k⟩, -⟩ := id h
    have ek : σ.1 f_keys = nI 0 := k.2.2.1
    refine mjZ_y rfl rfl 3 _ _ _ _ ty ?_
    refine (And.intro rfl (And.intro (fun q => ?_) (fun q => ?_)))
    · exact hK σ ty Fr.rf h
    · exact absurd (show σ.1 f_keys ≤ 0 by rw [ek]; decide) q
  | succ m ih =>
    intro σ ks hm ty h hK
    obtain ⟨⟨hs, fk, fe, k⟩, -⟩ := id h
    have ek : σ.1 f_keys = nI (m + 1) := by rw [← hm]; exact k.2.2.1
    have hl := ks_len k
    rcases List.eq_nil_or_concat ks with rfl | ⟨R, x, rfl⟩
    · rw [List.length_nil] at hm; omega
    · rw [List.concat_eq_append] at h k hm hl
      have hR : R.length = m := by rw [List.length_append, List.length_singleton] at hm; omega
      have eo : σ.2.2.1 r_order m = nI x.1 := k.2.2.2.1 m x (by rw [← hR, List.getElem?_append_right (Nat.le_refl _), Nat.sub_self]; rfl)
      have e5 : σ.1 f_keys - Int32.ofInt 1 = nI m := by rw [ek]; exact pk_sub (b := 1) (by omega)
      rw [List.length_append, List.length_singleton] at hl
      have v5 : vp_in (σ.1 f_keys - Int32.ofInt 1) 4700 := by rw [e5]; exact vp_in_nI (by omega) (by decide)
      refine mjZ_y rfl rfl 3 _ _ _ _ ty ?_
      refine (And.intro rfl (And.intro (fun q => ?_) (fun q => ?_)))
      · exact absurd (show σ.1 f_keys ≤ nI 0 from q) (by rw [ek]; exact nI_ge (by omega) (by omega))
      · refine mjZ_y rfl rfl 9 _ _ _ _ ty ?_
        refine (And.intro rfl (And.intro rfl (And.intro rfl (And.intro v5 (And.intro (Nat.le_of_ble_eq_true rfl) (And.intro rfl (And.intro (Nat.le_of_ble_eq_true rfl) (And.intro (Nat.le_of_ble_eq_true rfl) (mjY_mono ty (fun q_ u2 ty2 h_ => ?_) (w_goneKey (P := R) (Q := []) h ty (show σ.2.2.1 r_order (σ.1 f_keys - Int32.ofInt 1).toNatClampNeg = nI x.1 by rw [e5, nI_clamp (by omega)]; exact eo)))))))))))
        obtain ⟨rfl, h2, f2⟩ := h_
        intro _
        refine mjZ_y rfl rfl 1 _ _ _ _ ty2 ?_
        rw [List.append_nil] at h2
        exact ih u2 R hR ty2 h2 (fun u tu fu hu => hK u tu (f2.tr fu) hu)
def flF (A : List AK) : Option (List AK) := match A with
  | [] => none
  | _ => some []
set_option maxRecDepth 100000 in
theorem r_flush {σ : mjS} {ws : List (List Int32)} {ks : List KR} {l : List Int32} (h : Wd σ ws ks l) (ty : mjTY σ) (hw : 1 ≤ ws.length) (hs : l.length + 132 + sz ws ≤ 420000) : mjY mjPP (mjQQ Y) (d + 6) 101 0 (mjL0 2 [.ref 0]) [] σ (cmdK σ ws ks l 29 (flF (strip ks))) := by
  obtain ⟨⟨hz, fk, fe, k⟩, -⟩ := id h
  have hl := ks_len k
  have ek : σ.1 f_keys = nI ks.length := k.2.2.1
  refine mjZ_y rfl rfl 3 _ _ _ _ ty ?_
  refine (And.intro rfl (And.intro (fun q => ?_) (fun q => ?_)))
  · have e0 : ks = [] := by
      have q : σ.1 f_keys ≤ nI 0 := q
      rw [ek] at q
      exact List.length_eq_zero_iff.mp (by have := (nI_leI (by omega) (by decide)).mp q; omega)
    refine mjZ_y rfl rfl 2 _ _ _ _ ty ?_
    refine (And.intro (Nat.le_of_ble_eq_true rfl) ?_)
    refine c_flush_loop _ _ ks.length σ ks rfl ty h (fun u tu fu hu => ?_)
    subst e0
    refine mjZ_y rfl rfl 2 _ _ _ _ tu ?_
    refine And.intro (fun c => ?_) (fun c => ?_)
    · refine mjZ_y rfl rfl 2 _ _ _ _ tu ?_
      refine (And.intro (Nat.le_of_ble_eq_true rfl) (And.intro rfl (And.intro (Nat.le_of_ble_eq_true rfl) (And.intro (Nat.le_of_ble_eq_true rfl) (mjY_mono tu (fun q_ u2 ty2 h_ => ?_) (w_ok hu tu))))))
      obtain ⟨rfl, h2, f2⟩ := h_
      intro _
      refine mjZ_y rfl rfl 1 _ _ _ _ ty2 ?_
      refine And.intro rfl (And.intro rfl ?_)
      exact ⟨rfl, fu.k1.tr f2.c, [], h2, rfl⟩
    · exact absurd rfl c
  · have e0 : ¬ ks = [] := fun z => q (show σ.1 f_keys ≤ nI 0 by rw [ek, z]; exact nI_le (Nat.le_refl _) (by decide))
    have eo : flF (strip ks) = some [] := by
      cases ks with
      | nil => exact absurd rfl e0
      | cons x r => rfl
    rw [eo]
    refine mjZ_y rfl rfl 3 _ _ _ _ ty ?_
    refine (And.intro (Nat.le_of_ble_eq_true rfl) ?_)
    refine c_flush_loop _ _ ks.length σ ks rfl ty h (fun u tu fu hu => ?_)
    refine mjZ_y rfl rfl 2 _ _ _ _ tu ?_
    refine And.intro (fun c => ?_) (fun c => ?_)
    · exact absurd (show (1 : Int32) = 0 from c) (by decide)
    · refine mjZ_y rfl rfl 3 _ _ _ _ tu ?_
      refine (And.intro (Nat.le_of_ble_eq_true rfl) (And.intro rfl (And.intro (Nat.le_of_ble_eq_true rfl) (And.intro (Nat.le_of_ble_eq_true rfl) (mjY_mono tu (fun q_ u2 ty2 h_ => ?_) (w_noteAll hu tu hw 29 rfl (by decide) hs))))))
      obtain ⟨rfl, h2, f2⟩ := h_
      intro _
      refine mjZ_y rfl rfl 2 _ _ _ _ ty2 ?_
      refine (And.intro (Nat.le_of_ble_eq_true rfl) (And.intro rfl (And.intro (Nat.le_of_ble_eq_true rfl) (And.intro (Nat.le_of_ble_eq_true rfl) (mjY_mono ty2 (fun q_ u3 ty3 h_ => ?_) (w_ok h2 ty2))))))
      obtain ⟨rfl, h3, f3⟩ := h_
      intro _
      refine mjZ_y rfl rfl 1 _ _ _ _ ty3 ?_
      refine And.intro rfl (And.intro rfl ?_)
      rw [ntA_fr fu.k1] at h3
      exact ⟨rfl, (fu.k1.tr f2.n).tr f3.c, [], h3, rfl⟩
-- EXPIRE
def ntE (σ : mjS) (l w : List Int32) (t : Int64) : List Int32 := if σ.1 f_replays = 0 then l ++ begL σ l 3 33 ++ wordL w ++ wordL (dec t) else l
theorem ntE_fr {σ u : mjS} (f : Fr cF cH σ u) (l w : List Int32) (t : Int64) : ntE u l w t = ntE σ l w t := by
  unfold ntE
  rw [begL_fr f, f.1 f_replays (by decide)]
def exF (t : Int64) (a : AK) : AK := (a.1, a.2.1, 1, t, a.2.2.2.2.1, a.2.2.2.2.2)
abbrev overP (σ : mjS) : Prop := σ.2.1 f_time ≤ σ.2.1 f_now0 ∧ σ.1 f_replays = 0
def expR (σ : mjS) (A : List AK) (w : List Int32) : List AK := match kyI A w with
  | none => A
  | some p => if overP σ then rmA A p else upA A p (exF (σ.2.1 f_time))
def expL (σ : mjS) (l : List Int32) (A : List AK) (w : List Int32) : List Int32 := match kyI A w with
  | none => l
  | some _ => if overP σ then ntG σ l w else ntE σ l w (σ.2.1 f_time)
set_option maxRecDepth 100000 in
theorem r_expire {σ : mjS} {ws : List (List Int32)} {ks : List KR} {l : List Int32} (h : Wd σ ws ks l) (ty : mjTY σ) {w : List Int32} (h1 : ws[1]? = some w) (hs : l.length + 300 + w.length ≤ 420000) : mjY mjPP (mjQQ Y) (d + 6) 99 0 (mjL0 2 [.ref 0]) [] σ (fun r u => r = none ∧ Fr cF cH σ u ∧ ∃ ks', Wd u ws ks' (expL σ l (strip ks) w) ∧ strip ks' = expR σ (strip ks) w) := by
  refine mjZ_y rfl rfl 3 _ _ _ _ ty ?_
  refine (And.intro (Nat.le_of_ble_eq_true rfl) (And.intro rfl (And.intro (Nat.le_of_ble_eq_true rfl) (And.intro (Nat.le_of_ble_eq_true rfl) (mjY_mono ty (fun q_ u1 ty1 h_ => ?_) (w_key h ty h1 (x := Int32.ofInt 1) rfl))))))
  obtain ⟨rfl, rfl⟩ := h_
  intro _
  refine mjZ_y rfl rfl 3 _ _ _ _ ty1 ?_
  refine (And.intro (Nat.le_of_ble_eq_true rfl) (And.intro (fun c => ?_) (fun c => ?_)))
  · have c := (ky_ge h w).1.mp c
    obtain ⟨P, x, Q, g0, g1, g2, -⟩ := ky_some c
    have e1 : kyS ks w = nI x.1 := g2
    generalize kyS ks w = x1 at e1
    subst g0
    have hid := h.id
    have v1 : vp_in x1 4700 := by rw [e1]; exact vp_in_nI hid (by decide)
    have c1 : x1.toNatClampNeg = x.1 := by rw [e1]; exact nI_clamp (by omega)
    have tail : ∀ (u : mjS) (ks' : List KR), mjTY u → Fr cF cH u1 u → Wd u ws ks' (expL u1 l (strip (P ++ x :: Q)) w) → strip ks' = expR u1 (strip (P ++ x :: Q)) w → mjY mjPP (mjQQ Y) (d + 6) 99 52 [some (.ref 0), some (.int x1)] [] u (fun r u => r = none ∧ Fr cF cH u1 u ∧ ∃ ks', Wd u ws ks' (expL u1 l (strip (P ++ x :: Q)) w) ∧ strip ks' = expR u1 (strip (P ++ x :: Q)) w) := by
      intro u ks' tu fu hu eu
      refine mjZ_y rfl rfl 3 _ _ _ _ tu ?_
      refine (And.intro (Nat.le_of_ble_eq_true rfl) (And.intro rfl (And.intro (Nat.le_of_ble_eq_true rfl) (And.intro (Nat.le_of_ble_eq_true rfl) (mjY_mono tu (fun q_ u3 ty3 h_ => ?_) (w_number hu tu _))))))
      obtain ⟨rfl, h3, f3⟩ := h_
      intro _
      refine mjZ_y rfl rfl 1 _ _ _ _ ty3 ?_
      refine And.intro rfl (And.intro rfl ?_)
      exact ⟨rfl, fu.tr f3.c, ks', h3, eu⟩
    have sets : ¬ overP u1 → mjY mjPP (mjQQ Y) (d + 6) 99 26 [some (.ref 0), some (.int x1)] [] u1 (fun r u => r = none ∧ Fr cF cH u1 u ∧ ∃ ks', Wd u ws ks' (expL u1 l (strip (P ++ x :: Q)) w) ∧ strip ks' = expR u1 (strip (P ++ x :: Q)) w) := by
      intro no
      have eL : expL u1 l (strip (P ++ x :: Q)) w = ntE u1 l w (u1.2.1 f_time) := by unfold expL; rw [g1]; exact if_neg no
      have eR : expR u1 (strip (P ++ x :: Q)) w = upA (strip (P ++ x :: Q)) P.length (exF (u1.2.1 f_time)) := by unfold expR; rw [g1]; exact if_neg no
      refine mjZ_y rfl rfl 11 _ _ _ _ ty1 ?_
      refine (And.intro rfl (And.intro (Or.inr ⟨rfl, Or.inr rfl⟩) (And.intro v1 (fun ty1' => (And.intro rfl (And.intro rfl (And.intro rfl (And.intro v1 (fun ty1'' => ?_)))))))))
      have h2 := h.timed c1 1
      have h3 := h2.time (x := (x.1, x.2.1, x.2.2.1, 1, x.2.2.2.2.1, x.2.2.2.2.2.1, x.2.2.2.2.2.2)) c1 (u1.2.1 f_time)
      have f1 : Fr cF cH u1 (u1.1, u1.2.1, mjIu u1.2.2.1 r_kTimed x1.toNatClampNeg 1, mjLu u1.2.2.2 r_kTime x1.toNatClampNeg (u1.2.1 f_time)) := (Fr.a (h := r_kTimed) (by decide)).tr (Fr.j (h := r_kTime) (by decide))
      have es : strip (P ++ (x.1, x.2.1, x.2.2.1, 1, u1.2.1 f_time, x.2.2.2.2.2.1, x.2.2.2.2.2.2) :: Q) = expR u1 (strip (P ++ x :: Q)) w := by rw [eR]; exact strip_up rfl
      refine mjZ_y rfl rfl 3 _ _ _ _ ty1'' ?_
      refine (And.intro (Nat.le_of_ble_eq_true rfl) (And.intro rfl (And.intro (Nat.le_of_ble_eq_true rfl) (And.intro (Nat.le_of_ble_eq_true rfl) (mjY_mono ty1'' (fun q_ u3 ty3 h_ => ?_) (w_touch h3 ty1'' (x := (x.1, x.2.1, x.2.2.1, 1, u1.2.1 f_time, x.2.2.2.2.2.1, x.2.2.2.2.2.2)) (List.mem_append_right _ List.mem_cons_self) e1))))))
      obtain ⟨rfl, h4, f4⟩ := h_
      intro _
      have fa : Fr cF cH u1 u3 := f1.tr f4.t
      refine mjZ_y rfl rfl 4 _ _ _ _ ty3 ?_
      refine (And.intro (Nat.le_of_ble_eq_true rfl) (And.intro rfl (And.intro (Nat.le_of_ble_eq_true rfl) (And.intro (Nat.le_of_ble_eq_true rfl) (mjY_mono ty3 (fun q_ u4 ty4 h_ => ?_) (c_noteBegins ty3 h4.2.2.1 3 33 (by decide) (by decide) (by omega)))))))
      have h5 := h_
      intro _
      rcases h5 with ⟨r, rfl, rfl⟩ | ⟨r, rfl, f5, p5⟩
      · refine mjZ_y rfl rfl 1 _ _ _ _ ty3 ?_
        refine And.intro (fun b => ?_) (fun b => ?_)
        · refine tail u4 _ ty3 fa ?_ es
          rw [eL, ← ntE_fr fa]; unfold ntE; rw [if_neg r]; exact h4
        · exact absurd rfl b
      · have h6 := h4.nt f5 p5
        have hb := begL_len (σ := u3) l (lN 3) 33
        have lw := wordL_len w
        refine mjZ_y rfl rfl 1 _ _ _ _ ty4 ?_
        refine And.intro (fun b => ?_) (fun b => ?_)
        · exact absurd (show (1 : Int32) = 0 from b) (by decide)
        · refine mjZ_y rfl rfl 3 _ _ _ _ ty4 ?_
          refine (And.intro (Nat.le_of_ble_eq_true rfl) (And.intro rfl (And.intro (Nat.le_of_ble_eq_true rfl) (And.intro (Nat.le_of_ble_eq_true rfl) (mjY_mono ty4 (fun q_ u5 ty5 h_ => ?_) (c_noteArg ty4 h6.2.2.1 h6.2.1 1 w h1 (by rw [List.length_append]; omega)))))))
          obtain ⟨rfl, f7, p7⟩ := h_
          intro _
          have h7 := h6.nt (f7.up (by decide) (by decide)) p7
          have et : u5.2.1 f_time = u1.2.1 f_time := by rw [f7.2.1 _ (by decide), f5.2.1 _ (by decide), f4.2.1 _ (by decide)]
          refine mjZ_y rfl rfl 4 _ _ _ _ ty5 ?_
          refine (And.intro rfl (And.intro (Nat.le_of_ble_eq_true rfl) (And.intro rfl (And.intro (Nat.le_of_ble_eq_true rfl) (And.intro (Nat.le_of_ble_eq_true rfl) (mjY_mono ty5 (fun q_ u6 ty6 h_ => ?_) (c_noteInteger ty5 h7.2.2.1 (u5.2.1 f_time) (by rw [List.length_append, List.length_append]; omega))))))))
          obtain ⟨rfl, f8, p8⟩ := h_
          intro _
          rw [et] at p8
          have h8 := h7.nt (f8.up (by decide) (by decide)) p8
          refine tail u6 _ ty6 (((fa.tr f5.n).tr (f7.up (by decide) (by decide))).tr (f8.up (by decide) (by decide))) ?_ es
          rw [eL, ← ntE_fr fa]; unfold ntE; rw [if_pos r]; exact h8
    refine mjZ_y rfl rfl 6 _ _ _ _ ty1 ?_
    refine (And.intro rfl (And.intro rfl (And.intro (fun b => ?_) (fun b => ?_))))
    · exact sets (fun z => Int64.not_lt.mpr z.1 ((lg_cmp_gt _ _).mp b))
    · have b : u1.2.1 f_time ≤ u1.2.1 f_now0 := Int64.not_lt.mp (fun z => b ((lg_cmp_gt _ _).mpr z))
      refine mjZ_y rfl rfl 3 _ _ _ _ ty1 ?_
      refine (And.intro rfl (And.intro (fun r => ?_) (fun r => ?_)))
      · exact sets (fun z => r z.2)
      · have r : u1.1 f_replays = 0 := Decidable.of_not_not r
        have eL : expL u1 l (strip (P ++ x :: Q)) w = ntG u1 l w := by unfold expL; rw [g1]; exact if_pos ⟨b, r⟩
        have eR : expR u1 (strip (P ++ x :: Q)) w = rmA (strip (P ++ x :: Q)) P.length := by unfold expR; rw [g1]; exact if_pos ⟨b, r⟩
        refine mjZ_y rfl rfl 3 _ _ _ _ ty1 ?_
        refine (And.intro (Nat.le_of_ble_eq_true rfl) (And.intro rfl (And.intro (Nat.le_of_ble_eq_true rfl) (And.intro (Nat.le_of_ble_eq_true rfl) (mjY_mono ty1 (fun q_ u2 ty2 h_ => ?_) (w_goneKey h ty1 e1))))))
        obtain ⟨rfl, h2, f2⟩ := h_
        intro _
        refine mjZ_y rfl rfl 3 _ _ _ _ ty2 ?_
        refine (And.intro (Nat.le_of_ble_eq_true rfl) (And.intro rfl (And.intro (Nat.le_of_ble_eq_true rfl) (And.intro (Nat.le_of_ble_eq_true rfl) (mjY_mono ty2 (fun q_ u3 ty3 h_ => ?_) (w_noteGone h2 ty2 h1 (x := Int32.ofInt 1) rfl (by omega)))))))
        obtain ⟨rfl, h3, f3⟩ := h_
        intro _
        refine mjZ_y rfl rfl 1 _ _ _ _ ty3 ?_
        refine tail u3 _ ty3 (f2.k1.tr f3.n) ?_ (by rw [eR]; exact strip_rm)
        rw [eL, ← ntG_fr f2.k1]; exact h3
  · have c : kyI (strip ks) w = none := Decidable.of_not_not (fun z => c ((ky_ge h w).1.mpr z))
    have eL : expL u1 l (strip ks) w = l := by unfold expL; rw [c]
    have eR : expR u1 (strip ks) w = strip ks := by unfold expR; rw [c]
    rw [eL, eR]
    refine mjZ_y rfl rfl 3 _ _ _ _ ty1 ?_
    refine (And.intro (Nat.le_of_ble_eq_true rfl) (And.intro rfl (And.intro (Nat.le_of_ble_eq_true rfl) (And.intro (Nat.le_of_ble_eq_true rfl) (mjY_mono ty1 (fun q_ u2 ty2 h_ => ?_) (w_number h ty1 _))))))
    obtain ⟨rfl, h2, f2⟩ := h_
    intro _
    refine mjZ_y rfl rfl 1 _ _ _ _ ty2 ?_
    refine And.intro rfl (And.intro rfl ?_)
    exact ⟨rfl, f2.c, ks, h2, rfl⟩
end DELS
