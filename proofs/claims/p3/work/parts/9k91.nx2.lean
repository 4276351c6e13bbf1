/-! More of what a change leaves of texts, times, orders. -/
section NX2
theorem mkEN {A : List AK} {w : List Int32} {s : Int32} {g : List AE → List AE} {x1 x2 : Nat} (hA : IA A) (hs : soT A w s = true) (h0 : s = 1 ∨ s = 2 ∨ s = 3 ∨ s = 4) (hw : WOK w) (hg : EU s g x1 x2) : IA (upA (orA A w s).1 (orA A w s).2 (esF g)) ∧ MSN A (upA (orA A w s).1 (orA A w s).2 (esF g)) 1 (w.length + x1) x2 (64 + w.length + (x1 + memW s * x2)) w.length :=
  mkUN hA (fun _ => rfl) (fun _ ka => EU_a hA hs h0 hw hg ka)
theorem mkE2N {A : List AK} {w : List Int32} {s : Int32} {g : List AE → List AE} {x1 x2 : Nat} (hA : IA A) (hs : soT A w s = true) (h0 : s = 1 ∨ s = 2 ∨ s = 3 ∨ s = 4) (hw : WOK w) (hg : EU s g x1 x2) (hk : kyI A w ≠ none) : IA (upA (orA A w s).1 (orA A w s).2 (esF g)) ∧ MSN A (upA (orA A w s).1 (orA A w s).2 (esF g)) 0 x1 x2 (x1 + memW s * x2) 0 := by
  cases h : kyI A w with
  | none => exact absurd h hk
  | some p =>
    obtain ⟨a, ha, -⟩ := kyI_get h
    rw [orA_some h]
    exact upUN hA ha rfl (EU_a hA hs h0 hw hg (Or.inr ⟨p, h, ha⟩))
theorem g_puN {A A' : List AK} {w : List Int32} {i : Nat} {vs : List (List Int32)} (hA : IA A) (hs : soT A w 1 = true) (hw : WOK w) (hv : ∀ v ∈ vs, WOK v) (hn : 1 ≤ vs.length) (h : puF A w i vs = some A') : IA A' ∧ MSN A A' 1 (w.length + sl vs) vs.length (64 + w.length + (sl vs + 16 * vs.length)) w.length := by
  unfold puF at h
  by_cases c : kyI A w = none ∧ (i = 39 ∨ i = 40)
  · rw [if_pos c] at h; cases h
  · rw [if_neg c] at h; cases h
    refine mkEN hA hs (Or.inl rfl) hw (fun es he => ?_)
    obtain ⟨k1, k2, k3⟩ := ps_ok i vs es he hv
    exact ⟨k1, ne_len (by rw [k3]; omega), by rw [k2]; exact Nat.le_refl _, by rw [k3]; exact Nat.le_refl _⟩
theorem g_lpN {A A' : List AK} {w v : List Int32} {i1 : Nat} {n : Int64} (hA : IA A) (hs : soT A w 1 = true) (hv : WOK v) (h : lpF A w i1 n v = some A') : IA A' ∧ MSN A A' 0 v.length 0 v.length 0 := by
  unfold lpF at h
  cases e : kyI A w with
  | none => rw [e] at h; cases h
  | some p =>
    rw [e] at h
    obtain ⟨a, ha, -⟩ := kyI_get e
    generalize hq : (sI n (lN (mnA A w))).toInt.toNat = q at h
    have h : (if i1 = 46 ∧ (¬ sI n (lN (mnA A w)) < 0) ∧ sI n (lN (mnA A w)) < lN (mnA A w) then some (upA A p (esF (stE q v))) else none) = some A' := h
    by_cases c : i1 = 46 ∧ (¬ sI n (lN (mnA A w)) < 0) ∧ sI n (lN (mnA A w)) < lN (mnA A w)
    · rw [if_pos c] at h; cases h
      obtain ⟨s1, s2, s3⟩ := soT_ky hA hs e ha
      obtain ⟨k1, k2, k3⟩ := st_ok v hv _ q s3
      have k := kM_es (a := a) (g := stE q v) (x1 := v.length) (x2 := 0) k2 (by rw [k3]; exact Nat.le_refl _)
      refine upUN hA ha rfl ⟨AOK_es s2 (by rw [s1]; exact k1) (fun z => ?_), k⟩
      have hne := (s2.2.2.2.1 (by rw [s1]; decide)).1
      have : a.2.2.2.2.2.length = 0 := by rw [← k3, z]; rfl
      exact hne (List.length_eq_zero_iff.mp this)
    · rw [if_neg c] at h; cases h
theorem g_liN {A A' : List AK} {w o piv v : List Int32} (hA : IA A) (hs : soT A w 1 = true) (hv : WOK v) (h : liF A w o piv v = some A') : IA A' ∧ MSN A A' 0 v.length 1 (v.length + 16) 0 := by
  unfold liF at h
  cases e : kyI A w with
  | none => rw [e] at h; cases h
  | some p =>
    rw [e] at h
    obtain ⟨a, ha, -⟩ := kyI_get e
    have h : (match A[p]? with | none => none | some a => (match fdE piv a.2.2.2.2.2 with | none => none | some i => some (upA A p (esF (inE (if bfI o = 0 then i + 1 else i) v))))) = some A' := h
    rw [ha] at h
    have h : (match fdE piv a.2.2.2.2.2 with | none => none | some i => some (upA A p (esF (inE (if bfI o = 0 then i + 1 else i) v)))) = some A' := h
    cases f : fdE piv a.2.2.2.2.2 with
    | none => rw [f] at h; cases h
    | some i =>
      rw [f] at h; cases h
      obtain ⟨s1, s2, s3⟩ := soT_ky hA hs e ha
      obtain ⟨k1, k2, k3, k4⟩ := in_ok v hv (if bfI o = 0 then i + 1 else i) _ s3
      have k := kM_es (a := a) (g := inE (if bfI o = 0 then i + 1 else i) v) (x1 := v.length) (x2 := 1) k3 k4
      rw [s1] at k
      exact upUN hA ha rfl ⟨AOK_es s2 (by rw [s1]; exact k1) k2, k⟩
theorem saEN {w : List Int32} (hw : WOK w) : ∀ (vs : List (List Int32)) (A : List AK) (cur : Option Nat), IA A → soT A w 3 = true → kyI A w ≠ none → (∀ v ∈ vs, WOK v) → IA (saA w A cur vs) ∧ MSN A (saA w A cur vs) 0 (sl vs) vs.length (sl vs + 24 * vs.length) 0 := by
  intro vs
  induction vs with
  | nil => intro A cur hA _ _ _; exact ⟨hA, MSN.rf⟩
  | cons v vs ih =>
    intro A cur hA hs hk hv
    have hv2 : ∀ x ∈ vs, WOK x := fun x hx => hv x (List.mem_cons_of_mem _ hx)
    have hvl := hv v List.mem_cons_self
    show IA (if curH A cur v = true then saA w A cur vs else saA w (upA (orA A w 3).1 (orA A w 3).2 (esF (ptE v))) (some (orA A w 3).2) vs) ∧ MSN A (if curH A cur v = true then saA w A cur vs else saA w (upA (orA A w 3).1 (orA A w 3).2 (esF (ptE v))) (some (orA A w 3).2) vs) 0 (v.length + sl vs) (vs.length + 1) (v.length + sl vs + 24 * (vs.length + 1)) 0
    by_cases c : curH A cur v = true
    · rw [if_pos c]
      obtain ⟨k1, k2⟩ := ih A cur hA hs hk hv2
      exact ⟨k1, k2.up (Nat.le_refl _) (by omega) (by omega) (by omega)⟩
    · rw [if_neg c]
      obtain ⟨g1, g2⟩ := mkE2N hA hs (Or.inr (Or.inr (Or.inl rfl))) hw (pt_ok hvl) hk
      obtain ⟨t1, t2⟩ := mkE_so (g := ptE v) hA hs
      obtain ⟨k1, k2⟩ := ih _ (some (orA A w 3).2) g1 t1 (by rw [t2]; exact fun z => by cases z) hv2
      have ew : memW 3 = 24 := rfl
      rw [ew] at g2
      exact ⟨k1, (g2.tr k2).up (Nat.le_refl _) (by omega) (by omega) (by omega)⟩
theorem saGN {w : List Int32} (hw : WOK w) : ∀ (vs : List (List Int32)) (A : List AK) (cur : Option Nat), IA A → soT A w 3 = true → (∀ v ∈ vs, WOK v) → IA (saA w A cur vs) ∧ MSN A (saA w A cur vs) 1 (w.length + sl vs) vs.length (64 + w.length + (sl vs + 24 * vs.length)) w.length := by
  intro vs
  induction vs with
  | nil => intro A cur hA _ _; exact ⟨hA, MSN.rf.up (Nat.zero_le _) (Nat.zero_le _) (Nat.zero_le _) (Nat.zero_le _) (Nat.zero_le _)⟩
  | cons v vs ih =>
    intro A cur hA hs hv
    have hv2 : ∀ x ∈ vs, WOK x := fun x hx => hv x (List.mem_cons_of_mem _ hx)
    have hvl := hv v List.mem_cons_self
    show IA (if curH A cur v = true then saA w A cur vs else saA w (upA (orA A w 3).1 (orA A w 3).2 (esF (ptE v))) (some (orA A w 3).2) vs) ∧ MSN A (if curH A cur v = true then saA w A cur vs else saA w (upA (orA A w 3).1 (orA A w 3).2 (esF (ptE v))) (some (orA A w 3).2) vs) 1 (w.length + (v.length + sl vs)) (vs.length + 1) (64 + w.length + (v.length + sl vs + 24 * (vs.length + 1))) w.length
    by_cases c : curH A cur v = true
    · rw [if_pos c]
      obtain ⟨k1, k2⟩ := ih A cur hA hs hv2
      exact ⟨k1, k2.up (Nat.le_refl _) (by omega) (by omega) (by omega)⟩
    · rw [if_neg c]
      obtain ⟨g1, g2⟩ := mkEN hA hs (Or.inr (Or.inr (Or.inl rfl))) hw (pt_ok hvl)
      obtain ⟨t1, t2⟩ := mkE_so (g := ptE v) hA hs
      obtain ⟨k1, k2⟩ := saEN hw vs _ (some (orA A w 3).2) g1 t1 (by rw [t2]; exact fun z => by cases z) hv2
      have ew : memW 3 = 24 := rfl
      rw [ew] at g2
      exact ⟨k1, (g2.tr k2).up (Nat.le_refl _) (by omega) (by omega) (by omega)⟩
theorem g_saN {A A' : List AK} {w : List Int32} {vs : List (List Int32)} (hA : IA A) (hs : soT A w 3 = true) (hw : WOK w) (hv : ∀ v ∈ vs, WOK v) (h : saF A w vs = some A') : IA A' ∧ MSN A A' 1 (w.length + sl vs) vs.length (64 + w.length + (sl vs + 24 * vs.length)) w.length := by
  unfold saF at h
  by_cases c : saN w A (kyI A w) vs = 0
  · rw [if_pos c] at h; cases h
  · rw [if_neg c] at h; cases h; exact saGN hw vs A _ hA hs hv
theorem g_hsN {A A' : List AK} {w : List Int32} {i : Nat} {vs : List (List Int32)} {f : List Int32} {mb : Bool} (hA : IA A) (hs : soT A w 2 = true) (hw : WOK w) (hv : ∀ v ∈ vs, WOK v) (hn : 2 ≤ vs.length) (h : hsF A w i vs f mb = some A') : IA A' ∧ MSN A A' 1 (w.length + sl vs) (vs.length / 2) (64 + w.length + (sl vs + 32 * (vs.length / 2))) w.length := by
  unfold hsF at h
  by_cases c : i = 53 ∧ mb = true
  · rw [if_pos c] at h; cases h
  · rw [if_neg c] at h; cases h
    refine mkEN hA hs (Or.inr (Or.inl rfl)) hw (fun es he => ?_)
    obtain ⟨k1, k2, k3, k4⟩ := hpA_ok vs.length vs (Nat.le_refl _) hv es he
    exact ⟨k1, k2 (Or.inl hn), k3, k4⟩
theorem g_hiN {A A' : List AK} {w f : List Int32} {n : Int64} (hA : IA A) (hs : soT A w 2 = true) (hw : WOK w) (hf : WOK f) (h : hiF A w f n = some A') : IA A' ∧ MSN A A' 1 (w.length + (f.length + 21)) 1 (64 + w.length + (f.length + 21 + 32)) w.length := by
  unfold hiF at h
  cases e : vhA A w f with
  | none => rw [e] at h; cases h
  | some v =>
    rw [e] at h
    have h : (if ovI v n = 0 then some (upA (orA A w 2).1 (orA A w 2).2 (esF (hpE f (dec (v + n))))) else none) = some A' := h
    by_cases c : ovI v n = 0
    · rw [if_pos c] at h; cases h
      have hd := dec_len (v + n)
      obtain ⟨k1, k2⟩ := mkEN hA hs (Or.inr (Or.inl rfl)) hw (hp_ok hf (v := dec (v + n)) (by omega))
      have ew : memW 2 = 32 := rfl
      rw [ew] at k2
      exact ⟨k1, k2.up (Nat.le_refl _) (by omega) (Nat.le_refl _) (by omega)⟩
    · rw [if_neg c] at h; cases h
theorem g_znN {A : List AK} {w v : List Int32} {sc : Int64} (hA : IA A) (hs : soT A w 4 = true) (hw : WOK w) (hv : WOK v) : IA (zNew A w (kyI A w) (zIx A (kyI A w) v) sc v).1 ∧ MSN A (zNew A w (kyI A w) (zIx A (kyI A w) v) sc v).1 1 (w.length + v.length) 1 (64 + w.length + (v.length + 48)) w.length ∧ (kyI A w ≠ none → MSN A (zNew A w (kyI A w) (zIx A (kyI A w) v) sc v).1 0 v.length 1 (v.length + 48) 0) ∧ soT (zNew A w (kyI A w) (zIx A (kyI A w) v) sc v).1 w 4 = true ∧ kyI (zNew A w (kyI A w) (zIx A (kyI A w) v) sc v).1 w = some (zNew A w (kyI A w) (zIx A (kyI A w) v) sc v).2 := by
  cases hx : zIx A (kyI A w) v with
  | none =>
    have en : zNew A w (kyI A w) none sc v = (upA (orA A w 4).1 (orA A w 4).2 (esF (rkE sc v)), (orA A w 4).2) := by unfold zNew; cases kyI A w <;> rfl
    rw [en]
    have hu : ∀ a, kA A w 4 a → AOK (esF (rkE sc v) a) ∧ tT [esF (rkE sc v) a] ≤ tT [a] + v.length ∧ eN [esF (rkE sc v) a] ≤ eN [a] + 1 ∧ kM (esF (rkE sc v) a) ≤ kM a + (v.length + 48 * 1) := by
      intro a ka
      have es := kA_so hs ka
      have hel : ELS 4 a.2.2.2.2.2 ∧ ∀ z ∈ a.2.2.2.2.2, ¬ cmpW z.1 v = 0 := by
        rcases ka with ⟨_, rfl⟩ | ⟨p, h1, h2⟩
        · exact ⟨ELS_nil 4, fun z hz => by cases hz⟩
        · exact ⟨(soT_ky hA hs h1 h2).2.2, fd_none (zIx_none hx h1 h2)⟩
      obtain ⟨g1, g2⟩ := rk_els (s := sc) hv hel.1 hel.2
      have m := rkE_m sc v a.2.2.2.2.2
      have k := kM_es (a := a) (g := rkE sc v) (x1 := v.length) (x2 := 1) (by omega) (by omega)
      rw [es] at k
      refine ⟨?_, k⟩
      rcases kA_ok hA ka with rfl | ok
      · exact ⟨hw, Nat.zero_le _, g1, fun _ => ⟨g2, rfl⟩, Or.inl ⟨rfl, rfl⟩, Or.inr (Or.inr (Or.inr (Or.inr rfl)))⟩
      · exact AOK_es ok (by rw [es]; exact g1) g2
    obtain ⟨k1, k2⟩ := mkUN (f := esF (rkE sc v)) hA (fun _ => rfl) hu
    obtain ⟨t1, t2⟩ := mkE_so (g := rkE sc v) hA hs
    refine ⟨k1, k2, fun hk => ?_, t1, t2⟩
    cases h : kyI A w with
    | none => exact absurd h hk
    | some p =>
      obtain ⟨a, ha, -⟩ := kyI_get h
      rw [orA_some h]
      exact (upUN hA ha rfl (hu a (Or.inr ⟨p, h, ha⟩))).2
  | some q =>
    obtain ⟨p, a, h1, h2, h3⟩ := zIx_some hx
    rw [h1]
    show IA (upA A p (fun a => esF (rkE sc v) (esF (rmE q.1) a))) ∧ MSN A (upA A p (fun a => esF (rkE sc v) (esF (rmE q.1) a))) 1 _ 1 _ _ ∧ (_ → MSN A (upA A p (fun a => esF (rkE sc v) (esF (rmE q.1) a))) 0 _ 1 _ _) ∧ soT (upA A p (fun a => esF (rkE sc v) (esF (rmE q.1) a))) w 4 = true ∧ kyI (upA A p (fun a => esF (rkE sc v) (esF (rmE q.1) a))) w = some p
    obtain ⟨s1, s2, s3⟩ := soT_ky hA hs h1 h2
    have e4' := e4.mp s3
    have hrm := fd_rm e4'.1 (fun z hz => (e4'.2 z hz).1) hv h3
    obtain ⟨g1, g2⟩ := rk_els (s := sc) hv (s3.sub (rmE_sub _ q.1)) hrm
    have m := rkE_m sc v (rmE q.1 a.2.2.2.2.2)
    have m2 := rmE_m a.2.2.2.2.2 q.1
    have k := kM_es (a := a) (g := fun es => rkE sc v (rmE q.1 es)) (x1 := v.length) (x2 := 1) (by show eT (rkE sc v (rmE q.1 a.2.2.2.2.2)) ≤ _; omega) (by show (rkE sc v (rmE q.1 a.2.2.2.2.2)).length ≤ _; omega)
    rw [s1] at k
    have u := upUN (f := fun a => esF (rkE sc v) (esF (rmE q.1) a)) hA h2 rfl ⟨AOK_es (g := fun es => rkE sc v (rmE q.1 es)) s2 (by rw [s1]; exact g1) g2, k⟩
    have ek : kyI (upA A p (fun a => esF (rkE sc v) (esF (rmE q.1) a))) w = some p := (kyI_up A p (fun a => esF (rkE sc v) (esF (rmE q.1) a)) (fun _ => rfl) w).trans h1
    refine ⟨u.1, u.2.up (by omega) (by omega) (Nat.le_refl _) (by show v.length + 48 * 1 ≤ _; omega) (Nat.zero_le _), fun _ => u.2, ?_, ek⟩
    unfold soT
    rw [ek]
    show (match (upA A p (fun a => esF (rkE sc v) (esF (rmE q.1) a)))[p]? with | some a => decide (a.2.1 = 4) | none => true) = true
    rw [upA_get, if_pos rfl, h2]
    exact decide_eq_true s1
theorem zaEN (nx xx gt lt inc : Int32) {w : List Int32} (hw : WOK w) : ∀ (n : Nat) (vs : List (List Int32)) (A : List AK), vs.length ≤ n → IA A → soT A w 4 = true → kyI A w ≠ none → (∀ v ∈ vs, WOK v) → IA (zaA nx xx gt lt inc w A (kyI A w) vs) ∧ MSN A (zaA nx xx gt lt inc w A (kyI A w) vs) 0 (sl vs) (vs.length / 2) (sl vs + 48 * (vs.length / 2)) 0 := by
  intro n
  induction n with
  | zero =>
    intro vs A hn hA _ _ _
    cases vs with
    | nil => exact ⟨hA, MSN.rf⟩
    | cons a r => simp at hn
  | succ n ih =>
    intro vs A hn hA hs hk hv
    cases vs with
    | nil => exact ⟨hA, MSN.rf⟩
    | cons s r =>
      cases r with
      | nil => exact ⟨hA, MSN.rf.up (Nat.zero_le _) (Nat.zero_le _) (Nat.zero_le _) (Nat.zero_le _) (Nat.zero_le _)⟩
      | cons v r =>
        have hr : r.length ≤ n := by simp only [List.length_cons] at hn; omega
        have hv2 : ∀ x ∈ r, WOK x := fun x hx => hv x (List.mem_cons_of_mem _ (List.mem_cons_of_mem _ hx))
        have hvv := hv v (List.mem_cons_of_mem _ List.mem_cons_self)
        have hl : sl (s :: v :: r) = s.length + (v.length + sl r) := rfl
        have hd : (s :: v :: r).length / 2 = r.length / 2 + 1 := by simp only [List.length_cons]; omega
        rw [hl, hd]
        show IA (match intF s with | none => A | some s0 => if zGo nx xx gt lt (zIx A (kyI A w) v) (zSc nx inc (zIx A (kyI A w) v) s0) = true then zaA nx xx gt lt inc w (zNew A w (kyI A w) (zIx A (kyI A w) v) (zSc nx inc (zIx A (kyI A w) v) s0) v).1 (some (zNew A w (kyI A w) (zIx A (kyI A w) v) (zSc nx inc (zIx A (kyI A w) v) s0) v).2) r else zaA nx xx gt lt inc w A (kyI A w) r) ∧ MSN A (match intF s with | none => A | some s0 => if zGo nx xx gt lt (zIx A (kyI A w) v) (zSc nx inc (zIx A (kyI A w) v) s0) = true then zaA nx xx gt lt inc w (zNew A w (kyI A w) (zIx A (kyI A w) v) (zSc nx inc (zIx A (kyI A w) v) s0) v).1 (some (zNew A w (kyI A w) (zIx A (kyI A w) v) (zSc nx inc (zIx A (kyI A w) v) s0) v).2) r else zaA nx xx gt lt inc w A (kyI A w) r) 0 _ _ _ _
        cases intF s with
        | none => exact ⟨hA, MSN.rf.up (Nat.zero_le _) (Nat.zero_le _) (Nat.zero_le _) (Nat.zero_le _) (Nat.zero_le _)⟩
        | some s0 =>
          simp only
          obtain ⟨g1, g2, g3, g4, g5⟩ := g_znN (sc := zSc nx inc (zIx A (kyI A w) v) s0) hA hs hw hvv
          by_cases c : zGo nx xx gt lt (zIx A (kyI A w) v) (zSc nx inc (zIx A (kyI A w) v) s0) = true
          · rw [if_pos c]
            obtain ⟨k1, k2⟩ := ih r _ hr g1 g4 (by rw [g5]; exact fun z => by cases z) hv2
            rw [g5] at k1 k2
            exact ⟨k1, ((g3 hk).tr k2).up (Nat.le_refl _) (by omega) (by omega) (by omega)⟩
          · rw [if_neg c]
            obtain ⟨k1, k2⟩ := ih r A hr hA hs hk hv2
            exact ⟨k1, k2.up (Nat.le_refl _) (by omega) (by omega) (by omega)⟩
theorem zaGN (nx xx gt lt inc : Int32) {w : List Int32} (hw : WOK w) : ∀ (n : Nat) (vs : List (List Int32)) (A : List AK), vs.length ≤ n → IA A → soT A w 4 = true → (∀ v ∈ vs, WOK v) → IA (zaA nx xx gt lt inc w A (kyI A w) vs) ∧ MSN A (zaA nx xx gt lt inc w A (kyI A w) vs) 1 (w.length + sl vs) (vs.length / 2) (64 + w.length + (sl vs + 48 * (vs.length / 2))) w.length := by
  intro n
  induction n with
  | zero =>
    intro vs A hn hA _ _
    cases vs with
    | nil => exact ⟨hA, MSN.rf.up (Nat.zero_le _) (Nat.zero_le _) (Nat.zero_le _) (Nat.zero_le _) (Nat.zero_le _)⟩
    | cons a r => simp at hn
  | succ n ih =>
    intro vs A hn hA hs hv
    cases vs with
    | nil => exact ⟨hA, MSN.rf.up (Nat.zero_le _) (Nat.zero_le _) (Nat.zero_le _) (Nat.zero_le _) (Nat.zero_le _)⟩
    | cons s r =>
      cases r with
      | nil => exact ⟨hA, MSN.rf.up (Nat.zero_le _) (Nat.zero_le _) (Nat.zero_le _) (Nat.zero_le _) (Nat.zero_le _)⟩
      | cons v r =>
        have hr : r.length ≤ n := by simp only [List.length_cons] at hn; omega
        have hv2 : ∀ x ∈ r, WOK x := fun x hx => hv x (List.mem_cons_of_mem _ (List.mem_cons_of_mem _ hx))
        have hvv := hv v (List.mem_cons_of_mem _ List.mem_cons_self)
        have hl : sl (s :: v :: r) = s.length + (v.length + sl r) := rfl
        have hd : (s :: v :: r).length / 2 = r.length / 2 + 1 := by simp only [List.length_cons]; omega
        rw [hl, hd]
        show IA (match intF s with | none => A | some s0 => if zGo nx xx gt lt (zIx A (kyI A w) v) (zSc nx inc (zIx A (kyI A w) v) s0) = true then zaA nx xx gt lt inc w (zNew A w (kyI A w) (zIx A (kyI A w) v) (zSc nx inc (zIx A (kyI A w) v) s0) v).1 (some (zNew A w (kyI A w) (zIx A (kyI A w) v) (zSc nx inc (zIx A (kyI A w) v) s0) v).2) r else zaA nx xx gt lt inc w A (kyI A w) r) ∧ MSN A (match intF s with | none => A | some s0 => if zGo nx xx gt lt (zIx A (kyI A w) v) (zSc nx inc (zIx A (kyI A w) v) s0) = true then zaA nx xx gt lt inc w (zNew A w (kyI A w) (zIx A (kyI A w) v) (zSc nx inc (zIx A (kyI A w) v) s0) v).1 (some (zNew A w (kyI A w) (zIx A (kyI A w) v) (zSc nx inc (zIx A (kyI A w) v) s0) v).2) r else zaA nx xx gt lt inc w A (kyI A w) r) 1 _ _ _ _
        cases intF s with
        | none => exact ⟨hA, MSN.rf.up (Nat.zero_le _) (Nat.zero_le _) (Nat.zero_le _) (Nat.zero_le _) (Nat.zero_le _)⟩
        | some s0 =>
          simp only
          obtain ⟨g1, g2, g3, g4, g5⟩ := g_znN (sc := zSc nx inc (zIx A (kyI A w) v) s0) hA hs hw hvv
          by_cases c : zGo nx xx gt lt (zIx A (kyI A w) v) (zSc nx inc (zIx A (kyI A w) v) s0) = true
          · rw [if_pos c]
            obtain ⟨k1, k2⟩ := zaEN nx xx gt lt inc hw n r _ hr g1 g4 (by rw [g5]; exact fun z => by cases z) hv2
            rw [g5] at k1 k2
            exact ⟨k1, (g2.tr k2).up (Nat.le_refl _) (by omega) (by omega) (by omega)⟩
          · rw [if_neg c]
            obtain ⟨k1, k2⟩ := ih r A hr hA hs hv2
            exact ⟨k1, k2.up (Nat.le_refl _) (by omega) (by omega) (by omega)⟩
theorem g_zdN {A A' : List AK} {w : List Int32} {vs : List (List Int32)} {nx xx gt lt inc : Int32} (hA : IA A) (hs : soT A w 4 = true) (hw : WOK w) (hv : ∀ v ∈ vs, WOK v) (h : zdF nx xx gt lt inc A w vs = some A') : IA A' ∧ MSN A A' 1 (w.length + sl vs) (vs.length / 2) (64 + w.length + (sl vs + 48 * (vs.length / 2))) w.length := by
  unfold zdF at h
  by_cases c : zaB nx inc A (kyI A w) vs = true
  · rw [if_pos c] at h; cases h
  · rw [if_neg c] at h
    by_cases c2 : zaN nx xx gt lt inc w A (kyI A w) vs = 0
    · rw [if_pos c2] at h; cases h
    · rw [if_neg c2] at h; cases h; exact zaGN _ _ _ _ _ hw vs.length vs A (Nat.le_refl _) hA hs hv
theorem g_ziN {A A' : List AK} {w v : List Int32} {n : Int64} (hA : IA A) (hs : soT A w 4 = true) (hw : WOK w) (hv : WOK v) (h : ziF A w v n = some A') : IA A' ∧ MSN A A' 1 (w.length + v.length) 1 (64 + w.length + (v.length + 48)) w.length := by
  unfold ziF at h
  cases hx : zIx A (kyI A w) v with
  | none =>
    rw [hx] at h; cases h
    have g := g_znN (sc := n) hA hs hw hv
    rw [hx] at g
    exact ⟨g.1, g.2.1⟩
  | some q =>
    rw [hx] at h
    have h : (if ovI q.2 n = 0 ∧ ¬ n = 0 then some (zNew A w (kyI A w) (some q) (q.2 + n) v).1 else none) = some A' := h
    by_cases c : ovI q.2 n = 0 ∧ ¬ n = 0
    · rw [if_pos c] at h; cases h
      have g := g_znN (sc := q.2 + n) hA hs hw hv
      rw [hx] at g
      exact ⟨g.1, g.2.1⟩
    · rw [if_neg c] at h; cases h
end NX2
