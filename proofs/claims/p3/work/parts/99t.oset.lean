/-! SET's options. -/
section OSET
variable {Y : Nat → MethodName × ByteArray} {d : Nat}
theorem isF_n {w : List Int32} {c : Int64} (h : ¬ isF w c = 0) : isF w c = 1 := (isF_01 w c).resolve_left h
theorem isF_ne {w : List Int32} {c : Int64} (h : isF w c = 0) : ¬ isF w c = 1 := by rw [h]; decide
theorem w_is {σ : mjS} {ws : List (List Int32)} {ks : List KR} {l : List Int32} (h : Wd σ ws ks l) (ty : mjTY σ) {i : Nat} {w : List Int32} (hw : ws[i]? = some w) {x : Int32} (ex : x = nI i) (c : Int64) : mjY mjPP (mjQQ Y) (d + 1) 56 0 (mjL0 7 [.ref 0, .int x, .long c]) [] σ (fun r u => r = some (.int (isF w c)) ∧ u = σ) := by
  rw [ex]; exact c_is h.2.1 i w hw ty c
theorem w_integer {σ : mjS} {ws : List (List Int32)} {ks : List KR} {l : List Int32} (h : Wd σ ws ks l) (ty : mjTY σ) {i : Nat} {w : List Int32} (hw : ws[i]? = some w) {x : Int32} (ex : x = nI i) : mjY mjPP (mjQQ Y) (d + 1) 54 0 (mjL0 2 [.ref 0, .int x]) [] σ (fun r u => Wd u ws ks l ∧ Fr [f_num] [] σ u ∧ ((∃ z, intF w = some z ∧ r = some (.int 1) ∧ u.2.1 f_num = z) ∨ (intF w = none ∧ r = some (.int 0)))) := by
  rw [ex]
  refine mjY_mono ty (fun _ u _ q => ?_) (c_integer ty h.2.1 i w hw)
  unfold iaK at q
  cases hz : intF w with
  | none => rw [hz] at q; obtain ⟨q1, q2⟩ := q; exact ⟨by rw [q2]; exact h, by rw [q2]; exact Fr.rf, Or.inr ⟨rfl, q1⟩⟩
  | some z => rw [hz] at q; obtain ⟨q1, q2, q3⟩ := q; exact ⟨h.fr q2 (by decide) (by decide), q2, Or.inl ⟨z, rfl, q1, q3⟩⟩
theorem w_syntax {σ : mjS} {ws : List (List Int32)} {ks : List KR} {l : List Int32} (h : Wd σ ws ks l) (ty : mjTY σ) : mjY mjPP (mjQQ Y) (d + 3) 38 0 (mjL0 1 [.ref 0]) [] σ (fun r u => r = some (.int 0) ∧ Wd u ws ks l ∧ oO σ u) :=
  mjY_mono ty (fun _ _ _ q => ⟨q.1, h.ans q.2, q.2⟩) (c_syntax ty h.2.2.2.1)
theorem w_badTime {σ : mjS} {ws : List (List Int32)} {ks : List KR} {l : List Int32} (h : Wd σ ws ks l) (ty : mjTY σ) : mjY mjPP (mjQQ Y) (d + 3) 60 0 (mjL0 1 [.ref 0]) [] σ (fun r u => r = some (.int 0) ∧ Wd u ws ks l ∧ oO σ u) :=
  mjY_mono ty (fun _ _ _ q => ⟨q.1, h.ans q.2, q.2⟩) (c_badTime ty h.2.2.2.1)
abbrev F4 := Int32 × Int32 × Int32 × Int32
def osM (w : List Int32) : Option Nat := if isF w 1347961172 = 1 then some 3 else if isF w 1163411796 = 1 then some 2 else if isF w 20568 = 1 then some 1 else if isF w 17752 = 1 then some 0 else none
def osT (w : List Int32) (f : F4) (o : Option (Nat × List Int32)) : Option F4 := if isF w 20056 = 1 ∧ f.1 = 0 ∧ f.2.1 = 0 then some (1, f.2.1, f.2.2.1, f.2.2.2) else if isF w 22616 = 1 ∧ f.1 = 0 ∧ f.2.1 = 0 then some (f.1, 1, f.2.2.1, f.2.2.2) else if isF w 4670804 = 1 ∧ f.2.2.1 = 0 then some (f.1, f.2.1, 1, f.2.2.2) else if isF w 21186787256063052 = 1 ∧ f.2.2.2 = 0 ∧ o = none then some (f.1, f.2.1, f.2.2.1, 1) else none
def osF : List (List Int32) → F4 → Option (Nat × List Int32) → Option (F4 × Option (Nat × List Int32))
  | [], f, o => some (f, o)
  | [w], f, o => (osT w f o).map (fun f => (f, o))
  | w :: t :: r, f, o => match osT w f o with
    | some f' => osF (t :: r) f' o
    | none => (match osM w with
      | some m => if o = none ∧ f.2.2.2 = 0 then osF r f (some (m, t)) else none
      | none => none)
def osI (σ : mjS) (f : F4) : Prop := σ.1 f_optNx = f.1 ∧ σ.1 f_optXx = f.2.1 ∧ σ.1 f_optGet = f.2.2.1 ∧ σ.1 f_optKeep = f.2.2.2
def osX (ws : List (List Int32)) (x2 x3 : Int32) (o : Option (Nat × List Int32)) : Prop := (o = none ∧ x2 = -1) ∨ ∃ m t i, o = some (m, t) ∧ m < 4 ∧ x2 = nI m ∧ x3 = nI i ∧ ws[i]? = some t
abbrev o4 : List Nat := [f_optNx, f_optXx, f_optGet, f_optKeep]
abbrev osFs : List Nat := [f_optNx, f_optXx, f_optGet, f_optKeep, f_answerSize, f_tooLong, f_digitsSize]
theorem oO.os {σ u : mjS} (o : oO σ u) : Fr osFs oH σ u := o.1.up (by decide) (by decide)
theorem osF_s {w : List Int32} {r : List (List Int32)} {f f' : F4} {o : Option (Nat × List Int32)} (h : osT w f o = some f') : osF (w :: r) f o = osF r f' o := by
  cases r with
  | nil => show (osT w f o).map _ = _; rw [h]; rfl
  | cons t r => show (match osT w f o with | some f' => osF (t :: r) f' o | none => _) = _; rw [h]
theorem osF_n {w : List Int32} {r : List (List Int32)} {f : F4} {o : Option (Nat × List Int32)} (h : osT w f o = none) (hn : ¬ (∃ m, osM w = some m) ∨ ¬ (o = none ∧ f.2.2.2 = 0) ∨ r = []) : osF (w :: r) f o = none := by
  cases r with
  | nil => show (osT w f o).map _ = _; rw [h]; rfl
  | cons t r =>
    show (match osT w f o with | some f' => osF (t :: r) f' o | none => _) = _; rw [h]
    show (match osM w with | some m => if o = none ∧ f.2.2.2 = 0 then osF r f (some (m, t)) else none | none => none) = _
    cases hm : osM w with
    | none => rfl
    | some m => exact if_neg ((hn.resolve_left (fun z => z ⟨m, hm⟩)).resolve_right (fun z => by cases z))
theorem osF_t {w t : List Int32} {r : List (List Int32)} {f : F4} {m : Nat} (h : osT w f none = none) (hm : osM w = some m) (hk : f.2.2.2 = 0) : osF (w :: t :: r) f none = osF r f (some (m, t)) := by
  show (match osT w f none with | some f' => osF (t :: r) f' none | none => _) = _; rw [h]
  show (match osM w with | some m => if none = none ∧ f.2.2.2 = 0 then osF r f (some (m, t)) else none | none => none) = _
  rw [hm]; exact if_pos ⟨rfl, hk⟩
set_option maxRecDepth 100000 in
theorem c_os_loop (K : mjK) {ws : List (List Int32)} {ks : List KR} {l : List Int32} : ∀ (n a : Nat) (σ : mjS) (f : F4) (o : Option (Nat × List Int32)) (x1 x2 x3 : Int32) (l4 l5 : Option Value), ws.length ≤ a + n → a ≤ ws.length → x1 = nI a → osX ws x2 x3 o → mjTY σ → Wd σ ws ks l → osI σ f →
    (∀ u f' o' x1 x2 x3 l4 l5, osF (ws.drop a) f o = some (f', o') → mjTY u → Fr osFs oH σ u → Wd u ws ks l → osI u f' → osX ws x2 x3 o' → mjY mjPP (mjQQ Y) (d + 4) 61 127 [some (.ref 0), some (.int x1), some (.int x2), some (.int x3), l4, l5] [] u K) →
    (∀ u, osF (ws.drop a) f o = none → Fr osFs oH σ u → Wd u ws ks l → K (some (.int 0)) u) →
    mjY mjPP (mjQQ Y) (d + 4) 61 6 [some (.ref 0), some (.int x1), some (.int x2), some (.int x3), l4, l5] [] σ K := by
  intro n
  induction n with
  | zero =>
    intro a σ f o x1 x2 x3 l4 l5 hn ha e1 hx ty h hf hK hN
    have h1024 := h.2.1.2.1
    refine mjZ_y rfl rfl 4 _ _ _ _ ty ?_
    refine (And.intro rfl (And.intro (fun q => ?_) (fun q => ?_)))
    · exact hK σ f o _ _ _ _ _ (by rw [List.drop_of_length_le (by omega)]; rfl) ty Fr.rf h hf hx
    · exact absurd (show σ.1 f_words ≤ x1 by rw [h.2.1.1, e1]; exact nI_le (by omega) (by omega)) q
  | succ n ih =>
    intro a σ f o x1 x2 x3 l4 l5 hn ha e1 hx ty h hf hK hN
    have h1024 := h.2.1.2.1
    refine mjZ_y rfl rfl 4 _ _ _ _ ty ?_
    refine (And.intro rfl (And.intro (fun q => ?_) (fun q => ?_)))
    · have q : ws.length ≤ a := by
        have q : σ.1 f_words ≤ x1 := q
        rw [h.2.1.1, e1] at q; exact (nI_leI (by omega) (by omega)).mp q
      exact hK σ f o _ _ _ _ _ (by rw [List.drop_of_length_le q]; rfl) ty Fr.rf h hf hx
    · have q : a < ws.length := by
        refine Nat.lt_of_not_le (fun z => q (show σ.1 f_words ≤ x1 by rw [h.2.1.1, e1]; exact nI_le (by omega) (by omega)))
      obtain ⟨w, hw, ed⟩ := drop1 (ws := ws) (a := a) (m := ws.length - a - 1) (by omega)
      rw [ed] at hK hN
      -- the next turn
      have nxt : ∀ (b : Nat) (f' : F4) (o' : Option (Nat × List Int32)) (u : mjS) (x1 x2 x3 : Int32) (l5 : Option Value), a ≤ b → b + 1 ≤ ws.length → x1 = nI b → osX ws x2 x3 o' → mjTY u → Fr osFs oH σ u → Wd u ws ks l → osI u f' → osF (w :: ws.drop (a + 1)) f o = osF (ws.drop (b + 1)) f' o' → mjY mjPP (mjQQ Y) (d + 4) 61 120 [some (.ref 0), some (.int x1), some (.int x2), some (.int x3), some (.int 1), l5] [] u K := by
        intro b f' o' u x1 x2 x3 l5 hab hb eb hx' tu fu hu hf' eo
        rw [eo] at hK hN
        refine mjZ_y rfl rfl 2 _ _ _ _ tu ?_
        refine And.intro (fun c => ?_) (fun c => ?_)
        · refine mjZ_y rfl rfl 2 _ _ _ _ tu ?_
          exact ih (b + 1) u f' o' _ _ _ _ _ (by omega) (by omega) (by rw [eb]; exact nI_1 b) hx' tu hu hf' (fun u f' o' x1 x2 x3 l4 l5 z tu2 fu2 hu2 hf2 hx2 => hK u f' o' x1 x2 x3 l4 l5 z tu2 (fu.tr fu2) hu2 hf2 hx2) (fun u z fu2 hu2 => hN u z (fu.tr fu2) hu2)
        · exact absurd (show ¬ (1 : Int32) = 0 by decide) c
      have bad : ∀ (x1 x2 x3 : Int32) (l5 : Option Value), osF (w :: ws.drop (a + 1)) f o = none → mjY mjPP (mjQQ Y) (d + 4) 61 120 [some (.ref 0), some (.int x1), some (.int x2), some (.int x3), some (.int 0), l5] [] σ K := by
        intro x1 x2 x3 l5 z
        refine mjZ_y rfl rfl 2 _ _ _ _ ty ?_
        refine And.intro (fun c => ?_) (fun c => ?_)
        · exact absurd rfl c
        · refine mjZ_y rfl rfl 2 _ _ _ _ ty ?_
          refine (And.intro (Nat.le_of_ble_eq_true rfl) (And.intro rfl (And.intro (Nat.le_of_ble_eq_true rfl) (And.intro (Nat.le_of_ble_eq_true rfl) (mjY_mono ty (fun q_ u1 ty1 h_ => ?_) (w_syntax h ty))))))
          obtain ⟨rfl, h1, f1⟩ := h_
          intro _
          refine mjZ_y rfl rfl 1 _ _ _ _ ty1 ?_
          refine And.intro rfl (And.intro (Or.inr ⟨rfl, Or.inl rfl⟩) ?_)
          exact hN u1 z f1.os h1
      have s98 : ∀ (x5 : Int32), osT w f o = none → ((osM w = none ∧ x5 = -1) ∨ ∃ m, osM w = some m ∧ m < 4 ∧ x5 = nI m) → mjY mjPP (mjQQ Y) (d + 4) 61 98 [some (.ref 0), some (.int x1), some (.int x2), some (.int x3), some (.int 1), some (.int x5)] [] σ K := by
        intro x5 nT hm
        have nofine : (¬ (∃ m, osM w = some m) ∨ ¬ (o = none ∧ f.2.2.2 = 0) ∨ ws.drop (a + 1) = []) → mjY mjPP (mjQQ Y) (d + 4) 61 113 [some (.ref 0), some (.int x1), some (.int x2), some (.int x3), some (.int 1), some (.int x5)] [] σ K := by
          intro z
          refine mjZ_y rfl rfl 7 _ _ _ _ ty ?_
          refine (And.intro (Nat.le_of_ble_eq_true rfl) (And.intro (Nat.le_of_ble_eq_true rfl) (And.intro (Nat.le_of_ble_eq_true rfl) ?_)))
          exact bad _ _ _ _ (osF_n nT z)
        refine mjZ_y rfl rfl 2 _ _ _ _ ty ?_
        refine And.intro (fun c => ?_) (fun c => ?_)
        · refine nofine (Or.inl (fun ⟨m, z⟩ => ?_))
          rcases hm with ⟨y, -⟩ | ⟨m', -, y, y2⟩
          · rw [z] at y; cases y
          · exact lt_nI (by omega) y2 c
        · rcases hm with ⟨-, y⟩ | ⟨m, hm, hm4, ex5⟩
          · exact absurd (show x5 < 0 from lt_m1 y) c
          · refine mjZ_y rfl rfl 2 _ _ _ _ ty ?_
            refine And.intro (fun b => ?_) (fun b => ?_)
            · refine nofine (Or.inr (Or.inl (fun z => ?_)))
              rcases hx with ⟨-, y⟩ | ⟨m', t', i', y, -⟩
              · exact ge_m1 y b
              · rw [z.1] at y; cases y
            · have on : o = none := by
                rcases hx with ⟨y, -⟩ | ⟨m', t', i', -, m4, y, -⟩
                · exact y
                · exact absurd (ge_nI (by omega) y) b
              refine mjZ_y rfl rfl 3 _ _ _ _ ty ?_
              refine (And.intro rfl (And.intro (fun k => ?_) (fun k => ?_)))
              · exact nofine (Or.inr (Or.inl (fun z => k (show σ.1 f_optKeep = 0 from hf.2.2.2.trans z.2))))
              · have k : f.2.2.2 = 0 := hf.2.2.2.symm.trans (Decidable.of_not_not k)
                have ea1 : x1 + Int32.ofInt 1 = nI (a + 1) := by rw [e1]; exact nI_1 a
                refine mjZ_y rfl rfl 6 _ _ _ _ ty ?_
                refine (And.intro rfl (And.intro (fun g => ?_) (fun g => ?_)))
                · have g : ws.length ≤ a + 1 := by
                    have g : σ.1 f_words ≤ x1 + Int32.ofInt 1 := g
                    rw [h.2.1.1, ea1] at g; exact (nI_leI (by omega) (by omega)).mp g
                  exact nofine (Or.inr (Or.inr (List.drop_of_length_le g)))
                · have g : a + 1 < ws.length := Nat.lt_of_not_le (fun z => g (show σ.1 f_words ≤ x1 + Int32.ofInt 1 by rw [h.2.1.1, ea1]; exact nI_le (by omega) (by omega)))
                  obtain ⟨t, ht, ed2⟩ := drop1 (ws := ws) (a := a + 1) (m := ws.length - a - 2) (by omega)
                  refine mjZ_y rfl rfl 8 _ _ _ _ ty ?_
                  refine (And.intro (Nat.le_of_ble_eq_true rfl) (And.intro (Nat.le_of_ble_eq_true rfl) (And.intro (Nat.le_of_ble_eq_true rfl) ?_)))
                  refine nxt (a + 1) f (some (m, t)) σ _ _ _ _ (by omega) (by omega) ea1 (Or.inr ⟨m, t, a + 1, rfl, hm4, ex5, ea1, ht⟩) ty Fr.rf h hf ?_
                  rw [ed2, on]; exact osF_t (by rw [← on]; exact nT) hm k
      have s68 : osT w f o = none → mjY mjPP (mjQQ Y) (d + 4) 61 68 [some (.ref 0), some (.int x1), some (.int x2), some (.int x3), some (.int 1), l5] [] σ K := by
        intro nT
        have t3 : ∀ x5 : Int32, (¬ isF w 1347961172 = 1 → (osM w = none ∧ x5 = -1) ∨ ∃ m, osM w = some m ∧ m < 4 ∧ x5 = nI m) → mjY mjPP (mjQQ Y) (d + 4) 61 91 [some (.ref 0), some (.int x1), some (.int x2), some (.int x3), some (.int 1), some (.int x5)] [] σ K := by
          intro x5 z
          refine mjZ_y rfl rfl 4 _ _ _ _ ty ?_
          refine (And.intro (Nat.le_of_ble_eq_true rfl) (And.intro rfl (And.intro (Nat.le_of_ble_eq_true rfl) (And.intro (Nat.le_of_ble_eq_true rfl) (mjY_mono ty (fun q_ u2 ty2 h_ => ?_) (w_is h ty hw e1 1347961172))))))
          obtain ⟨rfl, rfl⟩ := h_
          intro _
          refine mjZ_y rfl rfl 1 _ _ _ _ ty2 ?_
          refine And.intro (fun c => ?_) (fun c => ?_)
          · exact s98 _ nT (z (isF_ne c))
          · refine mjZ_y rfl rfl 2 _ _ _ _ ty2 ?_
            refine (And.intro (Nat.le_of_ble_eq_true rfl) ?_)
            exact s98 _ nT (Or.inr ⟨3, by unfold osM; exact if_pos (isF_n c), by decide, rfl⟩)
        have t2 : ∀ x5 : Int32, (¬ isF w 1347961172 = 1 → ¬ isF w 1163411796 = 1 → (osM w = none ∧ x5 = -1) ∨ ∃ m, osM w = some m ∧ m < 4 ∧ x5 = nI m) → mjY mjPP (mjQQ Y) (d + 4) 61 84 [some (.ref 0), some (.int x1), some (.int x2), some (.int x3), some (.int 1), some (.int x5)] [] σ K := by
          intro x5 z
          refine mjZ_y rfl rfl 4 _ _ _ _ ty ?_
          refine (And.intro (Nat.le_of_ble_eq_true rfl) (And.intro rfl (And.intro (Nat.le_of_ble_eq_true rfl) (And.intro (Nat.le_of_ble_eq_true rfl) (mjY_mono ty (fun q_ u2 ty2 h_ => ?_) (w_is h ty hw e1 1163411796))))))
          obtain ⟨rfl, rfl⟩ := h_
          intro _
          refine mjZ_y rfl rfl 1 _ _ _ _ ty2 ?_
          refine And.intro (fun c => ?_) (fun c => ?_)
          · exact t3 _ (fun y => z y (isF_ne c))
          · refine mjZ_y rfl rfl 2 _ _ _ _ ty2 ?_
            refine (And.intro (Nat.le_of_ble_eq_true rfl) ?_)
            exact t3 _ (fun y => Or.inr ⟨2, by unfold osM; rw [if_neg y]; exact if_pos (isF_n c), by decide, rfl⟩)
        have t1 : ∀ x5 : Int32, (¬ isF w 1347961172 = 1 → ¬ isF w 1163411796 = 1 → ¬ isF w 20568 = 1 → (osM w = none ∧ x5 = -1) ∨ ∃ m, osM w = some m ∧ m < 4 ∧ x5 = nI m) → mjY mjPP (mjQQ Y) (d + 4) 61 77 [some (.ref 0), some (.int x1), some (.int x2), some (.int x3), some (.int 1), some (.int x5)] [] σ K := by
          intro x5 z
          refine mjZ_y rfl rfl 4 _ _ _ _ ty ?_
          refine (And.intro (Nat.le_of_ble_eq_true rfl) (And.intro rfl (And.intro (Nat.le_of_ble_eq_true rfl) (And.intro (Nat.le_of_ble_eq_true rfl) (mjY_mono ty (fun q_ u2 ty2 h_ => ?_) (w_is h ty hw e1 20568))))))
          obtain ⟨rfl, rfl⟩ := h_
          intro _
          refine mjZ_y rfl rfl 1 _ _ _ _ ty2 ?_
          refine And.intro (fun c => ?_) (fun c => ?_)
          · exact t2 _ (fun y y2 => z y y2 (isF_ne c))
          · refine mjZ_y rfl rfl 2 _ _ _ _ ty2 ?_
            refine (And.intro (Nat.le_of_ble_eq_true rfl) ?_)
            exact t2 _ (fun y y2 => Or.inr ⟨1, by unfold osM; rw [if_neg y, if_neg y2]; exact if_pos (isF_n c), by decide, rfl⟩)
        refine mjZ_y rfl rfl 6 _ _ _ _ ty ?_
        refine (And.intro (Nat.le_of_ble_eq_true rfl) (And.intro (Nat.le_of_ble_eq_true rfl) (And.intro rfl (And.intro (Nat.le_of_ble_eq_true rfl) (And.intro (Nat.le_of_ble_eq_true rfl) (mjY_mono ty (fun q_ u2 ty2 h_ => ?_) (w_is h ty hw e1 17752)))))))
        obtain ⟨rfl, rfl⟩ := h_
        intro _
        refine mjZ_y rfl rfl 1 _ _ _ _ ty2 ?_
        refine And.intro (fun c => ?_) (fun c => ?_)
        · exact t1 _ (fun y y2 y3 => Or.inl ⟨by unfold osM; rw [if_neg y, if_neg y2, if_neg y3]; exact if_neg (isF_ne c), rfl⟩)
        · refine mjZ_y rfl rfl 2 _ _ _ _ ty2 ?_
          refine (And.intro (Nat.le_of_ble_eq_true rfl) ?_)
          exact t1 _ (fun y y2 y3 => Or.inr ⟨0, by unfold osM; rw [if_neg y, if_neg y2, if_neg y3]; exact if_pos (isF_n c), by decide, rfl⟩)
      have set1 : ∀ (k : Nat) (f' : F4), k ∈ o4 → osT w f o = some f' → osI (upd σ.1 k 1, σ.2) f' → mjTY (upd σ.1 k 1, σ.2) → mjY mjPP (mjQQ Y) (d + 4) 61 120 [some (.ref 0), some (.int x1), some (.int x2), some (.int x3), some (.int 1), l5] [] (upd σ.1 k 1, σ.2) K := by
        intro k f' hk hT hI tu
        refine nxt a f' o _ _ _ _ _ (Nat.le_refl a) (by omega) e1 hx tu ((Fr.i (fs := o4) (hs := []) hk).up (by decide) (by decide)) (h.fr (Fr.i (fs := o4) (hs := []) hk) (by decide) (by decide)) hI (osF_s hT)
      have s54 : ¬ (isF w 20056 = 1 ∧ f.1 = 0 ∧ f.2.1 = 0) → ¬ (isF w 22616 = 1 ∧ f.1 = 0 ∧ f.2.1 = 0) → ¬ (isF w 4670804 = 1 ∧ f.2.2.1 = 0) → mjY mjPP (mjQQ Y) (d + 4) 61 54 [some (.ref 0), some (.int x1), some (.int x2), some (.int x3), some (.int 1), l5] [] σ K := by
        intro n1 n2 n3
        have no : ¬ (isF w 21186787256063052 = 1 ∧ f.2.2.2 = 0 ∧ o = none) → osT w f o = none := fun n4 => by unfold osT; rw [if_neg n1, if_neg n2, if_neg n3, if_neg n4]
        refine mjZ_y rfl rfl 4 _ _ _ _ ty ?_
        refine (And.intro (Nat.le_of_ble_eq_true rfl) (And.intro rfl (And.intro (Nat.le_of_ble_eq_true rfl) (And.intro (Nat.le_of_ble_eq_true rfl) (mjY_mono ty (fun q_ u2 ty2 h_ => ?_) (w_is h ty hw e1 21186787256063052))))))
        obtain ⟨rfl, rfl⟩ := h_
        intro _
        refine mjZ_y rfl rfl 1 _ _ _ _ ty2 ?_
        refine And.intro (fun c => ?_) (fun c => ?_)
        · exact s68 (no (fun z => isF_ne c z.1))
        · refine mjZ_y rfl rfl 3 _ _ _ _ ty2 ?_
          refine (And.intro rfl (And.intro (fun b => ?_) (fun b => ?_)))
          · exact s68 (no (fun z => b (hf.2.2.2.trans z.2.1)))
          · have b : f.2.2.2 = 0 := hf.2.2.2.symm.trans (Decidable.of_not_not b)
            refine mjZ_y rfl rfl 2 _ _ _ _ ty2 ?_
            refine And.intro (fun k => ?_) (fun k => ?_)
            · refine s68 (no (fun z => ?_))
              rcases hx with ⟨-, y⟩ | ⟨m', t', i', y, -⟩
              · exact ge_m1 y k
              · rw [z.2.2] at y; cases y
            · have on : o = none := by
                rcases hx with ⟨y, -⟩ | ⟨m', t', i', -, m4, y, -⟩
                · exact y
                · exact absurd (ge_nI (by omega) y) k
              refine mjZ_y rfl rfl 4 _ _ _ _ ty2 ?_
              refine (And.intro rfl (And.intro (Or.inr ⟨rfl, Or.inr rfl⟩) (fun ty2' => ?_)))
              exact set1 f_optKeep (f.1, f.2.1, f.2.2.1, 1) (by decide) (by unfold osT; rw [if_neg n1, if_neg n2, if_neg n3, if_pos ⟨isF_n c, b, on⟩]) ⟨(pk_un (k := f_optKeep) (x := 1) (by decide)).trans hf.1, (pk_un (k := f_optKeep) (x := 1) (by decide)).trans hf.2.1, (pk_un (k := f_optKeep) (x := 1) (by decide)).trans hf.2.2.1, pk_us (f := u2.1) (k := f_optKeep) (x := 1)⟩ ty2'
      have s42 : ¬ (isF w 20056 = 1 ∧ f.1 = 0 ∧ f.2.1 = 0) → ¬ (isF w 22616 = 1 ∧ f.1 = 0 ∧ f.2.1 = 0) → mjY mjPP (mjQQ Y) (d + 4) 61 42 [some (.ref 0), some (.int x1), some (.int x2), some (.int x3), some (.int 1), l5] [] σ K := by
        intro n1 n2
        refine mjZ_y rfl rfl 4 _ _ _ _ ty ?_
        refine (And.intro (Nat.le_of_ble_eq_true rfl) (And.intro rfl (And.intro (Nat.le_of_ble_eq_true rfl) (And.intro (Nat.le_of_ble_eq_true rfl) (mjY_mono ty (fun q_ u2 ty2 h_ => ?_) (w_is h ty hw e1 4670804))))))
        obtain ⟨rfl, rfl⟩ := h_
        intro _
        refine mjZ_y rfl rfl 1 _ _ _ _ ty2 ?_
        refine And.intro (fun c => ?_) (fun c => ?_)
        · exact s54 n1 n2 (fun z => isF_ne c z.1)
        · refine mjZ_y rfl rfl 3 _ _ _ _ ty2 ?_
          refine (And.intro rfl (And.intro (fun b => ?_) (fun b => ?_)))
          · exact s54 n1 n2 (fun z => b (hf.2.2.1.trans z.2))
          · have b : f.2.2.1 = 0 := hf.2.2.1.symm.trans (Decidable.of_not_not b)
            refine mjZ_y rfl rfl 4 _ _ _ _ ty2 ?_
            refine (And.intro rfl (And.intro (Or.inr ⟨rfl, Or.inr rfl⟩) (fun ty2' => ?_)))
            exact set1 f_optGet (f.1, f.2.1, 1, f.2.2.2) (by decide) (by unfold osT; rw [if_neg n1, if_neg n2, if_pos ⟨isF_n c, b⟩]) ⟨(pk_un (k := f_optGet) (x := 1) (by decide)).trans hf.1, (pk_un (k := f_optGet) (x := 1) (by decide)).trans hf.2.1, pk_us (f := u2.1) (k := f_optGet) (x := 1), (pk_un (k := f_optGet) (x := 1) (by decide)).trans hf.2.2.2⟩ ty2'
      have s27 : ¬ (isF w 20056 = 1 ∧ f.1 = 0 ∧ f.2.1 = 0) → mjY mjPP (mjQQ Y) (d + 4) 61 27 [some (.ref 0), some (.int x1), some (.int x2), some (.int x3), some (.int 1), l5] [] σ K := by
        intro n1
        refine mjZ_y rfl rfl 4 _ _ _ _ ty ?_
        refine (And.intro (Nat.le_of_ble_eq_true rfl) (And.intro rfl (And.intro (Nat.le_of_ble_eq_true rfl) (And.intro (Nat.le_of_ble_eq_true rfl) (mjY_mono ty (fun q_ u2 ty2 h_ => ?_) (w_is h ty hw e1 22616))))))
        obtain ⟨rfl, rfl⟩ := h_
        intro _
        refine mjZ_y rfl rfl 1 _ _ _ _ ty2 ?_
        refine And.intro (fun c => ?_) (fun c => ?_)
        · exact s42 n1 (fun z => isF_ne c z.1)
        · refine mjZ_y rfl rfl 3 _ _ _ _ ty2 ?_
          refine (And.intro rfl (And.intro (fun b => ?_) (fun b => ?_)))
          · exact s42 n1 (fun z => b (hf.1.trans z.2.1))
          · have b : f.1 = 0 := hf.1.symm.trans (Decidable.of_not_not b)
            refine mjZ_y rfl rfl 3 _ _ _ _ ty2 ?_
            refine (And.intro rfl (And.intro (fun k => ?_) (fun k => ?_)))
            · exact s42 n1 (fun z => k (hf.2.1.trans z.2.2))
            · have k : f.2.1 = 0 := hf.2.1.symm.trans (Decidable.of_not_not k)
              refine mjZ_y rfl rfl 4 _ _ _ _ ty2 ?_
              refine (And.intro rfl (And.intro (Or.inr ⟨rfl, Or.inr rfl⟩) (fun ty2' => ?_)))
              exact set1 f_optXx (f.1, 1, f.2.2.1, f.2.2.2) (by decide) (by unfold osT; rw [if_neg n1, if_pos ⟨isF_n c, b, k⟩]) ⟨(pk_un (k := f_optXx) (x := 1) (by decide)).trans hf.1, pk_us (f := u2.1) (k := f_optXx) (x := 1), (pk_un (k := f_optXx) (x := 1) (by decide)).trans hf.2.2.1, (pk_un (k := f_optXx) (x := 1) (by decide)).trans hf.2.2.2⟩ ty2'
      refine mjZ_y rfl rfl 6 _ _ _ _ ty ?_
      refine (And.intro (Nat.le_of_ble_eq_true rfl) (And.intro (Nat.le_of_ble_eq_true rfl) (And.intro rfl (And.intro (Nat.le_of_ble_eq_true rfl) (And.intro (Nat.le_of_ble_eq_true rfl) (mjY_mono ty (fun q_ u2 ty2 h_ => ?_) (w_is h ty hw e1 20056)))))))
      obtain ⟨rfl, rfl⟩ := h_
      intro _
      refine mjZ_y rfl rfl 1 _ _ _ _ ty2 ?_
      refine And.intro (fun c => ?_) (fun c => ?_)
      · exact s27 (fun z => isF_ne c z.1)
      · refine mjZ_y rfl rfl 3 _ _ _ _ ty2 ?_
        refine (And.intro rfl (And.intro (fun b => ?_) (fun b => ?_)))
        · exact s27 (fun z => b (hf.1.trans z.2.1))
        · have b : f.1 = 0 := hf.1.symm.trans (Decidable.of_not_not b)
          refine mjZ_y rfl rfl 3 _ _ _ _ ty2 ?_
          refine (And.intro rfl (And.intro (fun k => ?_) (fun k => ?_)))
          · exact s27 (fun z => k (hf.2.1.trans z.2.2))
          · have k : f.2.1 = 0 := hf.2.1.symm.trans (Decidable.of_not_not k)
            refine mjZ_y rfl rfl 4 _ _ _ _ ty2 ?_
            refine (And.intro rfl (And.intro (Or.inr ⟨rfl, Or.inr rfl⟩) (fun ty2' => ?_)))
            exact set1 f_optNx (1, f.2.1, f.2.2.1, f.2.2.2) (by decide) (by unfold osT; rw [if_pos ⟨isF_n c, b, k⟩]) ⟨pk_us (f := u2.1) (k := f_optNx) (x := 1), (pk_un (k := f_optNx) (x := 1) (by decide)).trans hf.2.1, (pk_un (k := f_optNx) (x := 1) (by decide)).trans hf.2.2.1, (pk_un (k := f_optNx) (x := 1) (by decide)).trans hf.2.2.2⟩ ty2'
def osE (now : Int64) (f : F4) : Option (Nat × List Int32) → Option (F4 × Option Int64)
  | none => some (f, none)
  | some (m, t) => (match intF t with
    | none => none
    | some n => if n < 1 ∨ tmB n now m = false then none else some (f, some (tmV n now m)))
def osR (ws : List (List Int32)) (now : Int64) : Option (F4 × Option Int64) := (osF (ws.drop 3) (0, 0, 0, 0) none).bind (fun q => osE now q.1 q.2)
abbrev osFz : List Nat := [f_optNx, f_optXx, f_optGet, f_optKeep, f_answerSize, f_tooLong, f_digitsSize, f_num, f_timed, f_time]
def osQ (u : mjS) (q : F4 × Option Int64) : Prop := osI u q.1 ∧ (q.2 = none → u.1 f_timed = 0) ∧ ∀ t, q.2 = some t → u.1 f_timed = 1 ∧ u.2.1 f_time = t
set_option maxRecDepth 100000 in
theorem c_optionsSet {σ : mjS} {ws : List (List Int32)} {ks : List KR} {l : List Int32} (h : Wd σ ws ks l) (ty : mjTY σ) (hw : 3 ≤ ws.length) (hf : osI σ (0, 0, 0, 0)) (ht : σ.1 f_timed = 0) : mjY mjPP (mjQQ Y) (d + 4) 61 0 (mjL0 6 [.ref 0]) [] σ (fun r u => r = some (.int (bI (osR ws (σ.2.1 f_now0)).isSome)) ∧ Fr osFz oH σ u ∧ Wd u ws ks l ∧ ∀ q, osR ws (σ.2.1 f_now0) = some q → osQ u q) := by
  have h1024 := h.2.1.2.1
  refine mjZ_y rfl rfl 6 _ _ _ _ ty ?_
  refine (And.intro (Nat.le_of_ble_eq_true rfl) (And.intro (Nat.le_of_ble_eq_true rfl) (And.intro (Nat.le_of_ble_eq_true rfl) ?_)))
  refine c_os_loop _ (ws.length - 3) 3 σ (0, 0, 0, 0) none _ _ _ _ _ (by omega) hw rfl (Or.inl ⟨rfl, rfl⟩) ty h hf (fun u f' o' x1 x2 x3 l4 l5 z tu fu hu hfu hx => ?_) (fun u z fu hu => ?_)
  · have fz : Fr osFz oH σ u := fu.up (by decide) (by decide)
    have eR : osR ws (σ.2.1 f_now0) = osE (σ.2.1 f_now0) f' o' := by unfold osR; rw [z]; rfl
    rw [eR]
    have tt : u.1 f_timed = 0 := (fu.1 f_timed (by decide)).trans ht
    refine mjZ_y rfl rfl 2 _ _ _ _ tu ?_
    refine And.intro (fun c => ?_) (fun c => ?_)
    · rcases hx with ⟨-, y⟩ | ⟨m, t, i, y, m4, ex2, ex3, hi⟩
      · exact absurd (show (0 : Int32) ≤ x2 from c) (ge_m1 y)
      · subst y
        have hil := (List.getElem?_eq_some_iff.mp hi).1
        have en : ∀ z, intF t = some z → osE (σ.2.1 f_now0) f' (some (m, t)) = if z < 1 ∨ tmB z (σ.2.1 f_now0) m = false then none else some (f', some (tmV z (σ.2.1 f_now0) m)) := fun z hz => by unfold osE; dsimp only; rw [hz]
        refine mjZ_y rfl rfl 3 _ _ _ _ tu ?_
        refine (And.intro (Nat.le_of_ble_eq_true rfl) (And.intro rfl (And.intro (Nat.le_of_ble_eq_true rfl) (And.intro (Nat.le_of_ble_eq_true rfl) (mjY_mono tu (fun q_ u2 ty2 h_ => ?_) (w_integer hu tu hi ex3))))))
        obtain ⟨h2, f2, hz⟩ := h_
        intro _
        rcases hz with ⟨n, hz, rfl, en2⟩ | ⟨hz, rfl⟩
        · rw [en n hz]
          have f2z : Fr osFz oH σ u2 := fz.tr (f2.up (by decide) (by decide))
          have bad : ∀ u3 : mjS, mjTY u3 → Fr osFz oH σ u3 → Wd u3 ws ks l → (n < 1 ∨ tmB n (σ.2.1 f_now0) m = false) → mjY mjPP (mjQQ Y) (d + 4) 61 147 [some (.ref 0), some (.int x1), some (.int x2), some (.int x3), l4, l5] [] u3 (fun r u => r = some (.int (bI (if n < 1 ∨ tmB n (σ.2.1 f_now0) m = false then none else some (f', some (tmV n (σ.2.1 f_now0) m))).isSome)) ∧ Fr osFz oH σ u ∧ Wd u ws ks l ∧ ∀ q, (if n < 1 ∨ tmB n (σ.2.1 f_now0) m = false then none else some (f', some (tmV n (σ.2.1 f_now0) m))) = some q → osQ u q) := by
            intro u3 tu3 f3 h3 y
            rw [if_pos y]
            refine mjZ_y rfl rfl 2 _ _ _ _ tu3 ?_
            refine (And.intro (Nat.le_of_ble_eq_true rfl) (And.intro rfl (And.intro (Nat.le_of_ble_eq_true rfl) (And.intro (Nat.le_of_ble_eq_true rfl) (mjY_mono tu3 (fun q_ u4 ty4 h_ => ?_) (w_badTime h3 tu3))))))
            obtain ⟨rfl, h4, f4⟩ := h_
            intro _
            refine mjZ_y rfl rfl 1 _ _ _ _ ty4 ?_
            refine And.intro rfl (And.intro (Or.inr ⟨rfl, Or.inl rfl⟩) ?_)
            exact ⟨rfl, f3.tr (f4.1.up (by decide) (by decide)), h4, fun q y => by cases y⟩
          refine mjZ_y rfl rfl 1 _ _ _ _ ty2 ?_
          refine And.intro (fun b => ?_) (fun b => ?_)
          · refine mjZ_y rfl rfl 5 _ _ _ _ ty2 ?_
            refine (And.intro rfl (And.intro (fun k => ?_) (fun k => ?_)))
            · exact bad u2 ty2 f2z h2 (Or.inl (by rw [← en2]; exact (lg_cmp_lt _ _).mp k))
            · have k : ¬ n < 1 := fun y => k ((lg_cmp_lt _ _).mpr (by rw [show u2.2.1 74 = n from en2]; exact y))
              have enow : u2.2.1 f_now0 = σ.2.1 f_now0 := f2z.2.1 _ (by decide)
              refine mjZ_y rfl rfl 3 _ _ _ _ ty2 ?_
              refine (And.intro (Nat.le_of_ble_eq_true rfl) (And.intro rfl (And.intro (Nat.le_of_ble_eq_true rfl) (And.intro (Nat.le_of_ble_eq_true rfl) (mjY_mono ty2 (fun q_ u3 ty3 h_ => ?_) (c_timeOf ty2 m m4 ex2))))))
              obtain ⟨rfl, f3, h3⟩ := h_
              intro _
              rw [show u2.2.1 f_num = n from en2, enow] at h3
              have f3z : Fr osFz oH σ u3 := f2z.tr (f3.up (by decide) (by decide))
              have w3 := h2.fr f3 (by decide) (by decide)
              rw [show u2.2.1 f_num = n from en2, enow]
              refine mjZ_y rfl rfl 1 _ _ _ _ ty3 ?_
              refine And.intro (fun g => ?_) (fun g => ?_)
              · have g : tmB n (σ.2.1 f_now0) m = true := by
                  cases hb : tmB n (σ.2.1 f_now0) m with
                  | true => rfl
                  | false => exact absurd (show bI (tmB n (σ.2.1 f_now0) m) = 0 by rw [hb]; rfl) g
                rw [if_neg (fun y => y.elim k (fun y => by rw [g] at y; cases y))]
                refine mjZ_y rfl rfl 5 _ _ _ _ ty3 ?_
                refine (And.intro rfl (And.intro (Or.inr ⟨rfl, Or.inr rfl⟩) (fun ty3' => And.intro rfl (And.intro (Or.inr ⟨rfl, Or.inr rfl⟩) ?_))))
                refine ⟨rfl, f3z.tr (Fr.i (by decide)), w3.fr (Fr.i (fs := [f_timed]) (hs := []) (by decide)) (by decide) (by decide), fun q y => ?_⟩
                rw [← Option.some.inj y]
                refine ⟨?_, fun y => (by cases y), fun t y => ⟨pk_us (f := u3.1) (k := f_timed) (x := 1), ?_⟩⟩
                · have fI : Fr [f_num, f_time] [] u u3 := (f2.up (by decide) (by decide)).tr (f3.up (by decide) (by decide))
                  exact ⟨((pk_un (k := f_timed) (x := 1) (by decide)).trans (fI.1 f_optNx (by decide))).trans hfu.1, ((pk_un (k := f_timed) (x := 1) (by decide)).trans (fI.1 f_optXx (by decide))).trans hfu.2.1, ((pk_un (k := f_timed) (x := 1) (by decide)).trans (fI.1 f_optGet (by decide))).trans hfu.2.2.1, ((pk_un (k := f_timed) (x := 1) (by decide)).trans (fI.1 f_optKeep (by decide))).trans hfu.2.2.2⟩
                · rw [← Option.some.inj y]; exact h3 g
              · have g : tmB n (σ.2.1 f_now0) m = false := bI_0.mp (Decidable.of_not_not g)
                exact bad u3 ty3 f3z w3 (Or.inr g)
          · exact absurd (show ¬ (1 : Int32) = 0 by decide) b
        · have e : osE (σ.2.1 f_now0) f' (some (m, t)) = none := by unfold osE; dsimp only; rw [hz]
          rw [e]
          refine mjZ_y rfl rfl 1 _ _ _ _ ty2 ?_
          refine And.intro (fun b => ?_) (fun b => ?_)
          · exact absurd rfl b
          · refine mjZ_y rfl rfl 2 _ _ _ _ ty2 ?_
            refine (And.intro (Nat.le_of_ble_eq_true rfl) (And.intro rfl (And.intro (Nat.le_of_ble_eq_true rfl) (And.intro (Nat.le_of_ble_eq_true rfl) (mjY_mono ty2 (fun q_ u3 ty3 h_ => ?_) (w_noInteger h2 ty2))))))
            obtain ⟨rfl, h3, f3⟩ := h_
            intro _
            refine mjZ_y rfl rfl 1 _ _ _ _ ty3 ?_
            refine And.intro rfl (And.intro (Or.inr ⟨rfl, Or.inl rfl⟩) ?_)
            exact ⟨rfl, (fz.tr (f2.up (by decide) (by decide))).tr (f3.1.up (by decide) (by decide)), h3, fun q y => by cases y⟩
    · rcases hx with ⟨y, -⟩ | ⟨m, t, i, -, m4, y, -⟩
      · subst y
        refine mjZ_y rfl rfl 2 _ _ _ _ tu ?_
        refine And.intro rfl (And.intro (Or.inr ⟨rfl, Or.inr rfl⟩) ?_)
        exact ⟨rfl, fz, hu, fun q y => by rw [← Option.some.inj y]; exact ⟨hfu, fun _ => tt, fun t y => by cases y⟩⟩
      · exact absurd (show (0 : Int32) ≤ x2 from ge_nI (by omega) y) c
  · have eR : osR ws (σ.2.1 f_now0) = none := by unfold osR; rw [z]; rfl
    rw [eR]
    exact ⟨rfl, fu.up (by decide) (by decide), hu, fun q y => by cases y⟩
end OSET
