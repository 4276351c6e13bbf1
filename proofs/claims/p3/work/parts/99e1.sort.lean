/-! The keys stand in the order of their names. -/
section SORT
theorem cmpW_self : ∀ a : List Int32, cmpW a a = 0 := by
  intro a
  induction a with
  | nil => rfl
  | cons x a ih => show (if x = x then cmpW a a else _) = 0; rw [if_pos rfl]; exact ih
theorem cmpW_anti : ∀ a b : List Int32, cmpW b a = -cmpW a b := by
  intro a
  induction a with
  | nil =>
    intro b
    cases b with
    | nil => rfl
    | cons y b => show ((y :: b).length : Int) = -(-((y :: b).length : Int)); omega
  | cons x a ih =>
    intro b
    cases b with
    | nil => rfl
    | cons y b =>
      show (if y = x then cmpW b a else u8 y - u8 x) = -(if x = y then cmpW a b else u8 x - u8 y)
      by_cases c : x = y
      · rw [if_pos c, if_pos c.symm]; exact ih b
      · rw [if_neg c, if_neg (fun q => c q.symm)]; omega
theorem cmpW_nil (a : List Int32) : ¬ cmpW a [] < 0 := by
  cases a with
  | nil => decide
  | cons x a => show ¬ ((x :: a).length : Int) < 0; omega
theorem cmpW_trans : ∀ a b c : List Int32, cmpW a b < 0 → cmpW b c < 0 → cmpW a c < 0 := by
  intro a
  induction a with
  | nil =>
    intro b c h1 h2
    cases c with
    | nil => exact absurd h2 (cmpW_nil b)
    | cons z c => show -((z :: c).length : Int) < 0; rw [List.length_cons]; omega
  | cons x a ih =>
    intro b c h1 h2
    cases b with
    | nil => exact absurd h1 (cmpW_nil _)
    | cons y b =>
      cases c with
      | nil => exact absurd h2 (cmpW_nil _)
      | cons z c =>
        have h1 : (if x = y then cmpW a b else u8 x - u8 y) < 0 := h1
        have h2 : (if y = z then cmpW b c else u8 y - u8 z) < 0 := h2
        show (if x = z then cmpW a c else u8 x - u8 z) < 0
        by_cases c1 : x = y
        · rw [if_pos c1] at h1
          by_cases c2 : y = z
          · rw [if_pos c2] at h2; rw [if_pos (c1.trans c2)]; exact ih b c h1 h2
          · rw [if_neg c2] at h2; rw [if_neg (fun q => c2 (c1.symm.trans q)), c1]; exact h2
        · rw [if_neg c1] at h1
          by_cases c2 : y = z
          · rw [← c2, if_neg c1]; exact h1
          · rw [if_neg c2] at h2
            have ne : ¬ x = z := fun q => by rw [q] at h1; omega
            rw [if_neg ne]; omega
/-- sorted names -/
def SRN (ns : List (List Int32)) : Prop := ∀ i j : Nat, i < j → j < ns.length → cmpW (ns.getD i []) (ns.getD j []) < 0
def SRT (A : List AK) : Prop := SRN (anm A)
theorem bs_spec (ns : List (List Int32)) (w : List Int32) (hs : SRN ns) : ∀ f lo hi, hi - lo < f → lo ≤ hi → hi ≤ ns.length → (∀ i, i < lo → cmpW (ns.getD i []) w < 0) → (∀ i, hi ≤ i → i < ns.length → ¬ cmpW (ns.getD i []) w < 0) → (∀ i, i < bs ns w f lo hi → cmpW (ns.getD i []) w < 0) ∧ (∀ i, bs ns w f lo hi ≤ i → i < ns.length → ¬ cmpW (ns.getD i []) w < 0) := by
  intro f
  induction f with
  | zero => intro lo hi h; omega
  | succ f ih =>
    intro lo hi hf h1 h2 hl hh
    by_cases c : lo < hi
    · by_cases c2 : cmpW (ns.getD ((lo + hi) / 2) []) w < 0
      · have e : bs ns w (f + 1) lo hi = bs ns w f ((lo + hi) / 2 + 1) hi := by
          show (if lo < hi then (if _ then _ else _) else lo) = _; rw [if_pos c, if_pos c2]
        rw [e]
        refine ih _ _ (by omega) (by omega) h2 (fun i hi2 => ?_) hh
        by_cases c3 : i = (lo + hi) / 2
        · rw [c3]; exact c2
        · exact cmpW_trans _ _ _ (hs i ((lo + hi) / 2) (by omega) (by omega)) c2
      · have e : bs ns w (f + 1) lo hi = bs ns w f lo ((lo + hi) / 2) := by
          show (if lo < hi then (if _ then _ else _) else lo) = _; rw [if_pos c, if_neg c2]
        rw [e]
        refine ih _ _ (by omega) (by omega) (by omega) hl (fun i hi2 hi3 => ?_)
        by_cases c3 : i = (lo + hi) / 2
        · rw [c3]; exact c2
        · exact fun z => c2 (cmpW_trans _ _ _ (hs ((lo + hi) / 2) i (by omega) hi3) z)
    · have e : bs ns w (f + 1) lo hi = lo := if_neg c
      rw [e]
      exact ⟨hl, fun i a b => hh i (by omega) b⟩
theorem plF_spec {ns : List (List Int32)} (hs : SRN ns) (w : List Int32) : (∀ i, i < plF ns w → cmpW (ns.getD i []) w < 0) ∧ (∀ i, plF ns w ≤ i → i < ns.length → ¬ cmpW (ns.getD i []) w < 0) :=
  bs_spec ns w hs _ 0 ns.length (by omega) (Nat.zero_le _) (Nat.le_refl _) (fun i h => absurd h (Nat.not_lt_zero i)) (fun i a b => by omega)
theorem plF_uniq {ns : List (List Int32)} (hs : SRN ns) (w : List Int32) (p : Nat) (hp : p ≤ ns.length) (h1 : ∀ i, i < p → cmpW (ns.getD i []) w < 0) (h2 : ∀ i, p ≤ i → i < ns.length → ¬ cmpW (ns.getD i []) w < 0) : plF ns w = p := by
  obtain ⟨a, b⟩ := plF_spec hs w
  have c := plF_le ns w
  rcases Nat.lt_trichotomy (plF ns w) p with h | h | h
  · exact absurd (h1 _ h) (b _ (Nat.le_refl _) (by omega))
  · exact h
  · exact absurd (a _ h) (h2 _ (Nat.le_refl _) (by omega))
theorem anm_len (A : List AK) : (anm A).length = A.length := by unfold anm; rw [List.length_map]
theorem anm_get {A : List AK} {i : Nat} {a : AK} (h : A[i]? = some a) : (anm A).getD i [] = a.1 := by
  unfold anm; rw [List.getD_eq_getElem?_getD, List.getElem?_map, h]; rfl
theorem anm_up (A : List AK) (p : Nat) (f : AK → AK) (hf : ∀ a, (f a).1 = a.1) : anm (upA A p f) = anm A := by
  induction A generalizing p with
  | nil => rfl
  | cons a r ih =>
    cases p with
    | zero => show (f a).1 :: anm r = a.1 :: anm r; rw [hf]
    | succ p => show a.1 :: anm (upA r p f) = a.1 :: anm r; rw [ih]
theorem upA_get (A : List AK) (p : Nat) (f : AK → AK) (i : Nat) : (upA A p f)[i]? = if i = p then (A[i]?).map f else A[i]? := by
  induction A generalizing p i with
  | nil => show none = if i = p then none else none; split <;> rfl
  | cons a r ih =>
    cases p with
    | zero =>
      cases i with
      | zero => rfl
      | succ i => show r[i]? = if i + 1 = 0 then _ else r[i]?; rw [if_neg (by omega)]
    | succ p =>
      cases i with
      | zero => rfl
      | succ i =>
        show (upA r p f)[i]? = if i + 1 = p + 1 then (r[i]?).map f else r[i]?
        rw [ih]
        by_cases c : i = p
        · rw [if_pos c, if_pos (by omega)]
        · rw [if_neg c, if_neg (by omega)]
theorem kyI_up (A : List AK) (p : Nat) (f : AK → AK) (hf : ∀ a, (f a).1 = a.1) (w : List Int32) : kyI (upA A p f) w = kyI A w := by
  unfold kyI
  rw [anm_up A p f hf, upA_get]
  generalize plF (anm A) w = q
  by_cases c : q = p
  · rw [if_pos c]
    cases A[q]? with
    | none => rfl
    | some a => show (if cmpW (f a).1 w = 0 then some q else none) = _; rw [hf]
  · rw [if_neg c]
theorem SRT_up {A : List AK} {p : Nat} {f : AK → AK} (hf : ∀ a, (f a).1 = a.1) (h : SRT A) : SRT (upA A p f) := by
  unfold SRT; rw [anm_up A p f hf]; exact h
theorem anm_in (A : List AK) (p : Nat) (a : AK) : anm (inA A p a) = (anm A).take p ++ a.1 :: (anm A).drop p := by
  unfold anm inA; rw [List.map_append, List.map_cons, List.map_take, List.map_drop]
theorem ins_get (ns : List (List Int32)) (p : Nat) (hp : p ≤ ns.length) (w : List Int32) (i : Nat) : (ns.take p ++ w :: ns.drop p).getD i [] = if i < p then ns.getD i [] else if i = p then w else ns.getD (i - 1) [] := by
  have hl : (ns.take p).length = p := by rw [List.length_take]; omega
  rw [List.getD_eq_getElem?_getD]
  by_cases c : i < p
  · rw [if_pos c, List.getElem?_append_left (by omega), List.getElem?_take_of_lt c, List.getD_eq_getElem?_getD]
  · rw [if_neg c, List.getElem?_append_right (by omega), hl]
    by_cases c2 : i = p
    · rw [if_pos c2, c2, Nat.sub_self]; rfl
    · rw [if_neg c2, show i - p = (i - 1 - p) + 1 by omega]
      show ((ns.drop p)[i - 1 - p]?).getD [] = _
      rw [List.getElem?_drop, List.getD_eq_getElem?_getD, show p + (i - 1 - p) = i - 1 by omega]
/-- a new name comes to its place -/
theorem SRN_in {ns : List (List Int32)} (hs : SRN ns) (w : List Int32) (hn : ∀ x, ns[plF ns w]? = some x → ¬ cmpW x w = 0) : SRN (ns.take (plF ns w) ++ w :: ns.drop (plF ns w)) ∧ plF (ns.take (plF ns w) ++ w :: ns.drop (plF ns w)) w = plF ns w := by
  obtain ⟨a, b⟩ := plF_spec hs w
  have hp := plF_le ns w
  generalize hq : plF ns w = p at *
  have hl : (ns.take p ++ w :: ns.drop p).length = ns.length + 1 := by rw [List.length_append, List.length_cons, List.length_take, List.length_drop]; omega
  have gt : ∀ i, p ≤ i → i < ns.length → cmpW w (ns.getD i []) < 0 := by
    intro i h1 h2
    have h0 : cmpW w (ns.getD p []) < 0 := by
      have z := b p (Nat.le_refl _) (by omega)
      have z2 := hn (ns.getD p []) (by rw [List.getD_eq_getElem?_getD, List.getElem?_eq_getElem (by omega)]; rfl)
      rw [cmpW_anti (ns.getD p []) w]; omega
    by_cases c : i = p
    · rw [c]; exact h0
    · exact cmpW_trans _ _ _ h0 (hs p i (by omega) h2)
  have srt : SRN (ns.take p ++ w :: ns.drop p) := by
    intro i j hij hj
    rw [hl] at hj
    rw [ins_get ns p hp, ins_get ns p hp]
    by_cases c1 : i < p
    · rw [if_pos c1]
      by_cases c2 : j < p
      · rw [if_pos c2]; exact hs i j hij (by omega)
      · rw [if_neg c2]
        by_cases c3 : j = p
        · rw [if_pos c3]; exact a i c1
        · rw [if_neg c3]; exact hs i (j - 1) (by omega) (by omega)
    · rw [if_neg c1, if_neg (show ¬ j < p by omega), if_neg (show ¬ j = p by omega)]
      by_cases c3 : i = p
      · rw [if_pos c3]; exact gt (j - 1) (by omega) (by omega)
      · rw [if_neg c3]; exact hs (i - 1) (j - 1) (by omega) (by omega)
  refine ⟨srt, plF_uniq srt w p (by omega) (fun i h => ?_) (fun i h1 h2 => ?_)⟩
  · rw [ins_get ns p hp, if_pos h]; exact a i h
  · rw [hl] at h2
    rw [ins_get ns p hp, if_neg (by omega)]
    by_cases c : i = p
    · rw [if_pos c, cmpW_self]; decide
    · rw [if_neg c]; exact b (i - 1) (by omega) (by omega)
theorem kyI_hn {A : List AK} {w : List Int32} (h : kyI A w = none) : ∀ x, (anm A)[plF (anm A) w]? = some x → ¬ cmpW x w = 0 := by
  intro x hx
  unfold kyI at h
  unfold anm at hx
  rw [List.getElem?_map] at hx
  cases ha : A[plF (anm A) w]? with
  | none => unfold anm at ha; rw [ha] at hx; cases hx
  | some a =>
    rw [ha] at h
    unfold anm at ha; rw [ha] at hx
    have hx : a.1 = x := Option.some.inj hx
    have h : (if cmpW a.1 w = 0 then some (plF (anm A) w) else none) = none := h
    by_cases c : cmpW a.1 w = 0
    · rw [if_pos c] at h; cases h
    · rw [← hx]; exact c
theorem kyI_or {A : List AK} (hs : SRT A) (w : List Int32) (s : Int32) : SRT (orA A w s).1 ∧ kyI (orA A w s).1 w = some (orA A w s).2 := by
  cases h : kyI A w with
  | some p => rw [orA_some h]; exact ⟨hs, h⟩
  | none =>
    rw [orA_none h]
    have e := SRN_in hs w (kyI_hn h)
    have en : anm (inA A (plF (anm A) w) (w, s, 0, 0, [], [])) = (anm A).take (plF (anm A) w) ++ w :: (anm A).drop (plF (anm A) w) := anm_in A _ _
    refine ⟨by show SRN (anm (inA A (plF (anm A) w) (w, s, 0, 0, [], []))); rw [en]; exact e.1, ?_⟩
    show kyI (inA A (plF (anm A) w) (w, s, 0, 0, [], [])) w = some (plF (anm A) w)
    have hp := plF_le (anm A) w
    rw [anm_len] at hp
    have eg : (inA A (plF (anm A) w) (w, s, 0, 0, [], []))[plF (anm A) w]? = some (w, s, 0, 0, [], []) := by
      unfold inA
      have := gtA (A.take (plF (anm A) w)) (w, s, 0, 0, [], []) (A.drop (plF (anm A) w))
      rw [List.length_take, Nat.min_eq_left hp] at this; exact this
    unfold kyI
    rw [en, e.2, eg]
    show (if cmpW w w = 0 then _ else _) = _
    rw [if_pos (cmpW_self w)]
theorem rmA_get (A : List AK) (p : Nat) (i : Nat) : (rmA A p)[i]? = if i < p then A[i]? else A[i + 1]? := by
  induction A generalizing p i with
  | nil => show none = if i < p then none else none; split <;> rfl
  | cons a r ih =>
    cases p with
    | zero => show r[i]? = if i < 0 then _ else r[i]?; rw [if_neg (by omega)]
    | succ p =>
      cases i with
      | zero => rfl
      | succ i =>
        show (rmA r p)[i]? = if i + 1 < p + 1 then r[i]? else r[i + 1]?
        rw [ih]
        by_cases c : i < p
        · rw [if_pos c, if_pos (by omega)]
        · rw [if_neg c, if_neg (by omega)]
theorem SRT_rm {A : List AK} {p : Nat} (h : SRT A) : SRT (rmA A p) := by
  have g : ∀ i, (anm (rmA A p)).getD i [] = (anm A).getD (if i < p then i else i + 1) [] := by
    intro i
    unfold anm
    rw [List.getD_eq_getElem?_getD, List.getElem?_map, rmA_get, List.getD_eq_getElem?_getD, List.getElem?_map]
    by_cases c : i < p
    · rw [if_pos c, if_pos c]
    · rw [if_neg c, if_neg c]
  intro i j hij hj
  rw [g, g]
  have hlen : ∀ (A : List AK) (p : Nat), (rmA A p).length + 1 ≤ A.length + (if p < A.length then 0 else 1) := by
    intro A
    induction A with
    | nil => intro p; show 0 + 1 ≤ 0 + (if p < 0 then 0 else 1); rw [if_neg (by omega)]; omega
    | cons a r ih =>
      intro p
      cases p with
      | zero => show r.length + 1 ≤ r.length + 1 + _; omega
      | succ p =>
        show (rmA r p).length + 1 + 1 ≤ r.length + 1 + (if p + 1 < r.length + 1 then 0 else 1)
        have := ih p
        by_cases c : p < r.length
        · rw [if_pos c] at this; rw [if_pos (by omega)]; omega
        · rw [if_neg c] at this; rw [if_neg (by omega)]; omega
  have hl := hlen A p
  rw [anm_len] at hj
  refine h _ _ ?_ ?_
  · split <;> split <;> omega
  · rw [anm_len]
    by_cases c : p < A.length
    · rw [if_pos c] at hl; split <;> omega
    · rw [if_neg c] at hl; split <;> omega
end SORT
