/-! MSET and MSETNX. -/
section MANY
variable {Y : Nat → MethodName × ByteArray} {d : Nat}
theorem upA_len (A : List AK) (p : Nat) (f : AK → AK) : (upA A p f).length = A.length := by
  induction A generalizing p with
  | nil => rfl
  | cons a r ih =>
    cases p with
    | zero => rfl
    | succ p => show (upA r p f).length + 1 = _; rw [ih]; rfl
theorem tT_cons (a : AK) (r : List AK) : tT (a :: r) = tT [a] + tT r := tT_app [a] r
theorem eN_cons (a : AK) (r : List AK) : eN (a :: r) = eN [a] + eN r := eN_app [a] r
theorem upA_tT (A : List AK) (p : Nat) (f : AK → AK) (n : Nat) (hf : ∀ a, tT [f a] ≤ tT [a] + n) : tT (upA A p f) ≤ tT A + n := by
  induction A generalizing p with
  | nil => exact Nat.zero_le _
  | cons a r ih =>
    cases p with
    | zero => show tT (f a :: r) ≤ _; rw [tT_cons, tT_cons a]; have := hf a; omega
    | succ p => show tT (a :: upA r p f) ≤ _; have := ih p; have e1 := tT_cons a (upA r p f); have e2 := tT_cons a r; omega
theorem upA_eN (A : List AK) (p : Nat) (f : AK → AK) (n : Nat) (hf : ∀ a, eN [f a] ≤ eN [a] + n) : eN (upA A p f) ≤ eN A + n := by
  induction A generalizing p with
  | nil => exact Nat.zero_le _
  | cons a r ih =>
    cases p with
    | zero => show eN (f a :: r) ≤ _; rw [eN_cons, eN_cons a]; have := hf a; omega
    | succ p => show eN (a :: upA r p f) ≤ _; have := ih p; have e1 := eN_cons a (upA r p f); have e2 := eN_cons a r; omega
theorem tT_1 (a : AK) : tT [a] = a.1.length + a.2.2.2.2.1.length + eT a.2.2.2.2.2 := rfl
theorem eN_1 (a : AK) : eN [a] = a.2.2.2.2.2.length := rfl
theorem orA_m (A : List AK) (w : List Int32) (s : Int32) : tT (orA A w s).1 ≤ tT A + w.length ∧ (orA A w s).1.length ≤ A.length + 1 ∧ eN (orA A w s).1 = eN A := by
  cases h : kyI A w with
  | some p => rw [orA_some h]; exact ⟨Nat.le_add_right _ _, Nat.le_succ _, rfl⟩
  | none =>
    rw [orA_none h]
    have e := inA_tT A (plF (anm A) w) (w, s, 0, 0, [], [])
    refine ⟨?_, Nat.le_of_eq e.2.1, ?_⟩
    · rw [e.1, tT_1]; show _ + (w.length + 0 + 0) ≤ _; omega
    · rw [e.2.2, eN_1]; rfl
theorem setA_m (A : List AK) (w v : List Int32) : tT (setA A w v) ≤ tT A + w.length + v.length ∧ (setA A w v).length ≤ A.length + 1 ∧ eN (setA A w v) ≤ eN A := by
  have e := orA_m A w 0
  unfold setA
  refine ⟨Nat.le_trans (upA_tT _ _ _ v.length fun a => ?_) (by omega), by rw [upA_len]; exact e.2.1, Nat.le_trans (upA_eN _ _ _ 0 fun a => ?_) (by omega)⟩
  · rw [tT_1, tT_1]; show a.1.length + v.length + 0 ≤ _; omega
  · rw [eN_1, eN_1]; show 0 ≤ _; omega
def untF (a : AK) : AK := (a.1, a.2.1, 0, 0, a.2.2.2.2.1, a.2.2.2.2.2)
/-- pairs of names and texts -/
def msA : List AK → List (List Int32) → List AK
  | A, w :: v :: r => msA (upA (setA A w v) (orA A w 0).2 untF) r
  | A, _ => A
def mxA (A : List AK) : List (List Int32) → Prop
  | w :: _ :: r => (¬ kyI A w = none) ∨ mxA A r
  | _ => False
def sl : List (List Int32) → Nat
  | [] => 0
  | w :: r => w.length + sl r
theorem drop2 {ws : List (List Int32)} {a m : Nat} (h : a + 2 * (m + 1) = ws.length) : ∃ w v, ws[a]? = some w ∧ ws[a + 1]? = some v ∧ ws.drop a = w :: v :: ws.drop (a + 2) := by
  have h1 : a < ws.length := by omega
  have h2 : a + 1 < ws.length := by omega
  refine ⟨ws[a], ws[a + 1], List.getElem?_eq_getElem h1, List.getElem?_eq_getElem h2, ?_⟩
  rw [List.drop_eq_getElem_cons h1, List.drop_eq_getElem_cons h2]
set_option maxRecDepth 100000 in
theorem c_ms_loop (K : mjK) (x1 : Int32) {ws : List (List Int32)} {l : List Int32} : ∀ (m a : Nat) (σ : mjS) (ks : List KR) (x2 : Int32) (l3 : Option Value), a + 2 * m = ws.length → x2 = nI a → mjTY σ → Wd σ ws ks l → tT (strip ks) + sl (ws.drop a) ≤ 200000 → ks.length + m < 4700 →
    (∀ u ks' x2 l3, mjTY u → Fr kF kH1 σ u → Wd u ws ks' l → strip ks' = msA (strip ks) (ws.drop a) → mjY mjPP (mjQQ Y) (d + 5) 82 39 [some (.ref 0), some (.int x1), some (.int x2), l3] [] u K) →
    mjY mjPP (mjQQ Y) (d + 5) 82 21 [some (.ref 0), some (.int x1), some (.int x2), l3] [] σ K := by
  intro m
  induction m with
  | zero =>
    intro a σ ks x2 l3 ha e2 ty h ht hk hK
    have h1024 := h.2.1.2.1
    refine mjZ_y rfl rfl 4 _ _ _ _ ty ?_
    refine (And.intro rfl (And.intro (fun q => ?_) (fun q => ?_)))
    · refine hK σ ks _ _ ty Fr.rf h ?_
      rw [List.drop_of_length_le (by omega)]; rfl
    · exact absurd (show σ.1 f_words ≤ x2 by rw [h.2.1.1, e2]; exact nI_le (by omega) (by omega)) q
  | succ m ih =>
    intro a σ ks x2 l3 ha e2 ty h ht hk hK
    have h1024 := h.2.1.2.1
    obtain ⟨w, v, hw, hv, ed⟩ := drop2 ha
    rw [ed] at ht hK
    have ht : tT (strip ks) + (w.length + (v.length + sl (ws.drop (a + 2)))) ≤ 200000 := ht
    refine mjZ_y rfl rfl 4 _ _ _ _ ty ?_
    refine (And.intro rfl (And.intro (fun q => ?_) (fun q => ?_)))
    · exact absurd (show σ.1 f_words ≤ x2 from q) (by rw [h.2.1.1, e2]; exact nI_ge (by omega) (by omega))
    · refine mjZ_y rfl rfl 6 _ _ _ _ ty ?_
      refine (And.intro (Nat.le_of_ble_eq_true rfl) (And.intro rfl (And.intro (Nat.le_of_ble_eq_true rfl) (And.intro (Nat.le_of_ble_eq_true rfl) (mjY_mono ty (fun q_ u1 ty1 h_ => ?_) (w_setText h ty hw hv e2 (by rw [e2]; exact nI_1 a) (by omega) (by omega) (by omega)))))))
      obtain ⟨P, y, Q, rfl, h2, f2, g1, g2⟩ := h_
      intro _
      have hid := h2.id
      have v3 : vp_in (nI y.1) 4700 := vp_in_nI hid (by decide)
      have c3 : (nI y.1).toNatClampNeg = y.1 := nI_clamp (by omega)
      refine mjZ_y rfl rfl 8 _ _ _ _ ty1 ?_
      refine (And.intro (Nat.le_of_ble_eq_true rfl) (And.intro rfl (And.intro (Or.inr ⟨rfl, Or.inl rfl⟩) (And.intro v3 (fun ty1' => ?_)))))
      have h3 := h2.timed c3 0
      have f1 : Fr kF kH1 u1 (u1.1, u1.2.1, mjIu u1.2.2.1 r_kTimed (nI y.1).toNatClampNeg 0, u1.2.2.2) := Fr.a (h := r_kTimed) (by decide)
      have em := setA_m (strip ks) w v
      have es : strip (P ++ (y.1, y.2.1, y.2.2.1, 0, y.2.2.2.2.1, y.2.2.2.2.2.1, y.2.2.2.2.2.2) :: Q) = upA (setA (strip ks) w v) (orA (strip ks) w 0).2 untF := by
        rw [← g1, ← g2]; exact strip_up rfl
      have et : tT (upA (setA (strip ks) w v) (orA (strip ks) w 0).2 untF) ≤ tT (setA (strip ks) w v) + 0 := upA_tT _ _ _ 0 (fun a => Nat.le_refl _)
      have elen : (P ++ (y.1, y.2.1, y.2.2.1, 0, y.2.2.2.2.1, y.2.2.2.2.2.1, y.2.2.2.2.2.2) :: Q).length ≤ ks.length + 1 := by
        rw [← strip_len, es, upA_len, ← strip_len ks]; exact em.2.1
      refine ih (a + 2) _ _ _ _ (by omega) (by rw [e2]; exact nI_add a 2) ty1' h3 ?_ (by omega) (fun u ks' x2 l3 tu fu hu eu => hK u ks' x2 l3 tu ((f2.tr f1).tr fu) hu ?_)
      · rw [es]; omega
      · rw [es] at eu; exact eu
set_option maxRecDepth 100000 in
theorem c_mx_loop (K : mjK) (x1 : Int32) {σ : mjS} {ws : List (List Int32)} {ks : List KR} {l : List Int32} (h : Wd σ ws ks l) (ty : mjTY σ) (hN : ∀ x2, ¬ mxA (strip ks) (ws.drop 1) → mjY mjPP (mjQQ Y) (d + 5) 82 19 [some (.ref 0), some (.int x1), some (.int x2), none] [] σ K) (hY : ∀ u, mxA (strip ks) (ws.drop 1) → Wd u ws ks l → oO σ u → K none u) : ∀ (m a : Nat) (x2 : Int32), a + 2 * m = ws.length → x2 = nI a → (mxA (strip ks) (ws.drop 1) ↔ mxA (strip ks) (ws.drop a)) →
    mjY mjPP (mjQQ Y) (d + 5) 82 5 [some (.ref 0), some (.int x1), some (.int x2), none] [] σ K := by
  have h1024 := h.2.1.2.1
  intro m
  induction m with
  | zero =>
    intro a x2 ha e2 he
    refine mjZ_y rfl rfl 4 _ _ _ _ ty ?_
    refine (And.intro rfl (And.intro (fun q => ?_) (fun q => ?_)))
    · refine hN _ (fun z => ?_)
      have z := he.mp z
      rw [List.drop_of_length_le (by omega)] at z
      exact z
    · exact absurd (show σ.1 f_words ≤ x2 by rw [h.2.1.1, e2]; exact nI_le (by omega) (by omega)) q
  | succ m ih =>
    intro a x2 ha e2 he
    obtain ⟨w, v, hw, hv, ed⟩ := drop2 ha
    rw [ed] at he
    have he : mxA (strip ks) (ws.drop 1) ↔ ((¬ kyI (strip ks) w = none) ∨ mxA (strip ks) (ws.drop (a + 2))) := he
    refine mjZ_y rfl rfl 4 _ _ _ _ ty ?_
    refine (And.intro rfl (And.intro (fun q => ?_) (fun q => ?_)))
    · exact absurd (show σ.1 f_words ≤ x2 from q) (by rw [h.2.1.1, e2]; exact nI_ge (by omega) (by omega))
    · refine mjZ_y rfl rfl 3 _ _ _ _ ty ?_
      refine (And.intro (Nat.le_of_ble_eq_true rfl) (And.intro rfl (And.intro (Nat.le_of_ble_eq_true rfl) (And.intro (Nat.le_of_ble_eq_true rfl) (mjY_mono ty (fun q_ u1 ty1 h_ => ?_) (w_key h ty hw e2))))))
      obtain ⟨rfl, rfl⟩ := h_
      intro _
      refine mjZ_y rfl rfl 1 _ _ _ _ ty1 ?_
      refine And.intro (fun c => ?_) (fun c => ?_)
      · have c : kyI (strip ks) w = none := by
          rcases ky_cases ks w with ⟨g1, g2⟩ | ⟨P, y, Q, g0, g1, g2, -⟩
          · exact g1
          · subst g0
            exact absurd (show kyS (P ++ y :: Q) w < 0 from c) (lt_nI (by have := h.id; omega) g2)
        refine mjZ_y rfl rfl 2 _ _ _ _ ty1 ?_
        refine ih (a + 2) _ (by omega) (by rw [e2]; exact nI_add a 2) (he.trans ⟨fun z => z.elim (fun t => absurd c t) id, Or.inr⟩)
      · have c : ¬ kyI (strip ks) w = none := by
          rcases ky_cases ks w with ⟨g1, g2⟩ | ⟨P, y, Q, g0, g1, g2, -⟩
          · exact absurd (lt_m1 g2) c
          · rw [g1]; intro z; cases z
        refine mjZ_y rfl rfl 3 _ _ _ _ ty1 ?_
        refine (And.intro (Nat.le_of_ble_eq_true rfl) (And.intro rfl (And.intro (Nat.le_of_ble_eq_true rfl) (And.intro (Nat.le_of_ble_eq_true rfl) (mjY_mono ty1 (fun q_ u2 ty2 h_ => ?_) (w_number h ty1 _))))))
        obtain ⟨rfl, h2, o2⟩ := h_
        intro _
        refine mjZ_y rfl rfl 1 _ _ _ _ ty2 ?_
        refine And.intro rfl (And.intro rfl ?_)
        exact hY u2 (he.mpr (Or.inl c)) h2 o2
/-- MSET and MSETNX -/
def smK (σ : mjS) (ws : List (List Int32)) (ks : List KR) (l : List Int32) (i : Nat) : mjK := fun r u => r = none ∧ Fr cF cH σ u ∧ ∃ ks', ((i = 10 ∧ mxA (strip ks) (ws.drop 1)) → Wd u ws ks' l ∧ strip ks' = strip ks) ∧ (¬ (i = 10 ∧ mxA (strip ks) (ws.drop 1)) → Wd u ws ks' (ntA σ l ws i) ∧ strip ks' = msA (strip ks) (ws.drop 1))
set_option maxRecDepth 100000 in
theorem r_setMany {σ : mjS} {ws : List (List Int32)} {ks : List KR} {l : List Int32} (h : Wd σ ws ks l) (ty : mjTY σ) (m : Nat) (hm : 1 + 2 * m = ws.length) (i1 : Nat) (hi : i1 < 128) {x1 : Int32} (e1 : x1 = nI i1) (ht : tT (strip ks) + sl ws ≤ 200000) (hk : ks.length + m < 4700) (hs : l.length + 132 + sz ws ≤ 420000) :
    mjY mjPP (mjQQ Y) (d + 6) 82 0 (mjL0 4 [.ref 0, .int x1]) [] σ (smK σ ws ks l i1) := by
  have nn : ∀ c : Nat, c < 128 → ((¬ x1 = nI c) ↔ ¬ i1 = c) := fun c hc => by rw [e1, nI_eq (by omega) (by omega)]
  have hsl : sl (ws.drop 1) ≤ sl ws := by
    cases ws with
    | nil => exact Nat.le_refl _
    | cons w r => show sl r ≤ w.length + sl r; omega
  have go : ∀ l2, ¬ (i1 = 10 ∧ mxA (strip ks) (ws.drop 1)) → mjY mjPP (mjQQ Y) (d + 6) 82 19 [some (.ref 0), some (.int x1), l2, none] [] σ (smK σ ws ks l i1) := by
    intro l2 ng
    refine mjZ_y rfl rfl 2 _ _ _ _ ty ?_
    refine (And.intro (Nat.le_of_ble_eq_true rfl) ?_)
    refine c_ms_loop _ x1 m 1 σ ks _ _ hm rfl ty h (by omega) hk (fun u ks' x2 l3 tu fu hu eu => ?_)
    refine mjZ_y rfl rfl 3 _ _ _ _ tu ?_
    refine (And.intro (Nat.le_of_ble_eq_true rfl) (And.intro rfl (And.intro (Nat.le_of_ble_eq_true rfl) (And.intro (Nat.le_of_ble_eq_true rfl) (mjY_mono tu (fun q_ u1 ty1 h_ => ?_) (w_noteAll hu tu (by omega) i1 e1 hi hs))))))
    obtain ⟨rfl, h1, f1⟩ := h_
    intro _
    rw [ntA_fr fu.k1] at h1
    have fa := fu.k1.tr f1.n
    refine mjZ_y rfl rfl 3 _ _ _ _ ty1 ?_
    refine And.intro (fun q => ?_) (fun q => ?_)
    · refine mjZ_y rfl rfl 2 _ _ _ _ ty1 ?_
      refine (And.intro (Nat.le_of_ble_eq_true rfl) (And.intro rfl (And.intro (Nat.le_of_ble_eq_true rfl) (And.intro (Nat.le_of_ble_eq_true rfl) (mjY_mono ty1 (fun q_ u2 ty2 h_ => ?_) (w_ok h1 ty1))))))
      obtain ⟨rfl, h2, o2⟩ := h_
      intro _
      refine mjZ_y rfl rfl 1 _ _ _ _ ty2 ?_
      refine And.intro rfl (And.intro rfl ?_)
      exact ⟨rfl, fa.tr o2.c, ks', fun z => absurd z ng, fun _ => ⟨h2, eu⟩⟩
    · refine mjZ_y rfl rfl 3 _ _ _ _ ty1 ?_
      refine (And.intro (Nat.le_of_ble_eq_true rfl) (And.intro rfl (And.intro (Nat.le_of_ble_eq_true rfl) (And.intro (Nat.le_of_ble_eq_true rfl) (mjY_mono ty1 (fun q_ u2 ty2 h_ => ?_) (w_number h1 ty1 _))))))
      obtain ⟨rfl, h2, o2⟩ := h_
      intro _
      refine mjZ_y rfl rfl 2 _ _ _ _ ty2 ?_
      refine And.intro rfl (And.intro rfl ?_)
      exact ⟨rfl, fa.tr o2.c, ks', fun z => absurd z ng, fun _ => ⟨h2, eu⟩⟩
  refine mjZ_y rfl rfl 3 _ _ _ _ ty ?_
  refine And.intro (fun q => ?_) (fun q => ?_)
  · have q := (nn 10 (by decide)).mp q
    exact go _ (fun z => q z.1)
  · have q : i1 = 10 := Decidable.of_not_not (fun z => q ((nn 10 (by decide)).mpr z))
    refine mjZ_y rfl rfl 2 _ _ _ _ ty ?_
    refine (And.intro (Nat.le_of_ble_eq_true rfl) ?_)
    exact c_mx_loop _ x1 h ty (fun x2 ng => go _ (fun z => ng z.2)) (fun u z hu ou => ⟨rfl, ou.c, ks, fun _ => ⟨hu, rfl⟩, fun t => absurd ⟨q, z⟩ t⟩) m 1 _ hm rfl Iff.rfl
end MANY
