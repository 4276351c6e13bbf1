/-! The keys and what they have: lists of records, and how the rows hold them. -/
/-- an element: its place, its word, its value, its score -/
abbrev ER : Type := Nat × List Int32 × List Int32 × Int64
/-- a key: its place, its name, its sort, whether it has a time, the time, its text, its elements -/
abbrev KR : Type := Nat × List Int32 × Int32 × Int32 × Int64 × List Int32 × List ER
/-- a word that stands in the heap -/
def RG (σ : mjS) (hs hA hL i : Nat) (w : List Int32) : Prop := ∃ a : Nat, a ≤ 300000 ∧ σ.2.2.1 hA i = nI a ∧ σ.2.2.1 hL i = nI w.length ∧ (w = [] ∨ (a + w.length ≤ hs ∧ wd (σ.2.2.1 r_heap) a w.length = w))
def EOK (σ : mjS) (hs : Nat) (x : ER) : Prop := x.1 < 10000 ∧ RG σ hs r_eAt r_eLen x.1 x.2.1 ∧ RG σ hs r_vAt r_vLen x.1 x.2.2.1 ∧ σ.2.2.2 r_eScore x.1 = x.2.2.2
/-- the first place, or none -/
def nx (l : List Nat) : Int32 := match l with
  | [] => -1
  | e :: _ => nI e
def lst (p : Int32) (l : List Nat) : Int32 := match l with
  | [] => p
  | e :: r => lst (nI e) r
/-- places that are chained both ways -/
def SEG (σ : mjS) (p : Int32) : List Nat → Int32 → Prop
  | [], _ => True
  | e :: r, q => σ.2.2.1 r_ePrev e = p ∧ σ.2.2.1 r_eNext e = (match r with | [] => q | e2 :: _ => nI e2) ∧ SEG σ (nI e) r q
def FSEG (σ : mjS) : List Nat → Prop
  | [] => True
  | e :: r => σ.2.2.1 r_eNext e = nx r ∧ FSEG σ r
def ids (es : List ER) : List Nat := es.map (fun x => x.1)
def KOK (σ : mjS) (hs : Nat) (x : KR) : Prop := x.1 < 4700 ∧ RG σ hs r_kAt r_kLen x.1 x.2.1 ∧ σ.2.2.1 r_kSort x.1 = x.2.2.1 ∧ σ.2.2.1 r_kTimed x.1 = x.2.2.2.1 ∧ σ.2.2.2 r_kTime x.1 = x.2.2.2.2.1 ∧ RG σ hs r_tAt r_tLen x.1 x.2.2.2.2.2.1 ∧
  σ.2.2.1 r_kHead x.1 = nx (ids x.2.2.2.2.2.2) ∧ σ.2.2.1 r_kTail x.1 = lst (-1) (ids x.2.2.2.2.2.2) ∧ σ.2.2.1 r_kMany x.1 = nI x.2.2.2.2.2.2.length ∧ SEG σ (-1) (ids x.2.2.2.2.2.2) (-1) ∧ ∀ y ∈ x.2.2.2.2.2.2, EOK σ hs y
abbrev kRows : List Nat := [r_kAt, r_kLen, r_kSort, r_kTimed, r_kHead, r_kTail, r_kMany, r_tAt, r_tLen]
abbrev eRows : List Nat := [r_eNext, r_ePrev, r_eAt, r_eLen, r_vAt, r_vLen]
def AgK (σ u : mjS) (k : Nat) : Prop := (∀ h ∈ kRows, u.2.2.1 h k = σ.2.2.1 h k) ∧ u.2.2.2 r_kTime k = σ.2.2.2 r_kTime k
def AgE (σ u : mjS) (e : Nat) : Prop := (∀ h ∈ eRows, u.2.2.1 h e = σ.2.2.1 h e) ∧ u.2.2.2 r_eScore e = σ.2.2.2 r_eScore e
def AgH (σ u : mjS) (hs : Nat) : Prop := ∀ j, j < hs → u.2.2.1 r_heap j = σ.2.2.1 r_heap j
theorem RG.fr {σ u : mjS} {hs hs' hA hL i : Nat} {w : List Int32} (h : RG σ hs hA hL i w) (h1 : u.2.2.1 hA i = σ.2.2.1 hA i) (h2 : u.2.2.1 hL i = σ.2.2.1 hL i) (h3 : AgH σ u hs) (h4 : hs ≤ hs') : RG u hs' hA hL i w := by
  obtain ⟨a, a1, a2, a3, a4⟩ := h
  refine ⟨a, a1, by rw [h1]; exact a2, by rw [h2]; exact a3, a4.elim Or.inl (fun q => Or.inr ⟨by omega, ?_⟩)⟩
  refine Eq.trans (wd_congr fun k hk => h3 (a + k) (by omega)) q.2
theorem EOK.fr {σ u : mjS} {hs hs' : Nat} {x : ER} (h : EOK σ hs x) (h1 : AgE σ u x.1) (h3 : AgH σ u hs) (h4 : hs ≤ hs') : EOK u hs' x := ⟨h.1, h.2.1.fr (h1.1 _ (by decide)) (h1.1 _ (by decide)) h3 h4, h.2.2.1.fr (h1.1 _ (by decide)) (h1.1 _ (by decide)) h3 h4, by rw [h1.2]; exact h.2.2.2⟩
theorem SEG.fr {σ u : mjS} {q : Int32} : ∀ {l : List Nat} {p : Int32}, SEG σ p l q → (∀ e ∈ l, AgE σ u e) → SEG u p l q := by
  intro l
  induction l with
  | nil => intro p h _; trivial
  | cons e r ih =>
    intro p h g
    have ge := g e List.mem_cons_self
    refine ⟨by rw [ge.1 r_ePrev (by decide)]; exact h.1, by rw [ge.1 r_eNext (by decide)]; exact h.2.1, ih h.2.2 (fun x hx => g x (List.mem_cons_of_mem _ hx))⟩
theorem FSEG.fr {σ u : mjS} : ∀ {l : List Nat}, FSEG σ l → (∀ e ∈ l, u.2.2.1 r_eNext e = σ.2.2.1 r_eNext e) → FSEG u l := by
  intro l
  induction l with
  | nil => intro h _; trivial
  | cons e r ih => intro h g; exact ⟨by rw [g e List.mem_cons_self]; exact h.1, ih h.2 (fun x hx => g x (List.mem_cons_of_mem _ hx))⟩
theorem KOK.fr {σ u : mjS} {hs hs' : Nat} {x : KR} (h : KOK σ hs x) (h1 : AgK σ u x.1) (h2 : ∀ e ∈ ids x.2.2.2.2.2.2, AgE σ u e) (h3 : AgH σ u hs) (h4 : hs ≤ hs') : KOK u hs' x := by
  obtain ⟨a1, a2, a3, a4, a5, a6, a7, a8, a9, a10, a11⟩ := h
  refine ⟨a1, a2.fr (h1.1 _ (by decide)) (h1.1 _ (by decide)) h3 h4, by rw [h1.1 r_kSort (by decide)]; exact a3, by rw [h1.1 r_kTimed (by decide)]; exact a4, by rw [h1.2]; exact a5, a6.fr (h1.1 _ (by decide)) (h1.1 _ (by decide)) h3 h4, by rw [h1.1 r_kHead (by decide)]; exact a7, by rw [h1.1 r_kTail (by decide)]; exact a8, by rw [h1.1 r_kMany (by decide)]; exact a9, a10.fr h2, fun y hy => (a11 y hy).fr (h2 y.1 (List.mem_map.mpr ⟨y, hy, rfl⟩)) h3 h4⟩
/-- where an element or a key that is free may stand -/
def GA (σ : mjS) (h i : Nat) : Prop := ∃ a : Nat, a ≤ 300000 ∧ σ.2.2.1 h i = nI a
def kIds (ks : List KR) : List Nat := ks.map (fun x => x.1)
def eIds (ks : List KR) : List Nat := ks.flatMap (fun x => ids x.2.2.2.2.2.2)
/-- the whole store -/
def KS (σ : mjS) (hs : Nat) (ks : List KR) (fk fe : List Nat) : Prop :=
  σ.1 f_heapSize = nI hs ∧ hs ≤ 300000 ∧ σ.1 f_keys = nI ks.length ∧ (∀ (i : Nat) (x : KR), ks[i]? = some x → σ.2.2.1 r_order i = nI x.1) ∧ (∀ x ∈ ks, KOK σ hs x) ∧
  σ.1 f_kFrees = nI fk.length ∧ (∀ (i k : Nat), fk[i]? = some k → σ.2.2.1 r_kFree i = nI k) ∧ (kIds ks ++ fk).Nodup ∧ (∀ k ∈ kIds ks ++ fk, k < 4700) ∧ (kIds ks ++ fk).length = 4700 ∧
  (eIds ks ++ fe).Nodup ∧ (∀ e ∈ eIds ks ++ fe, e < 10000) ∧ (eIds ks ++ fe).length = 10000 ∧ σ.1 f_eFree = nx fe ∧ FSEG σ fe ∧ (∀ e ∈ fe, GA σ r_eAt e ∧ GA σ r_vAt e) ∧ ∀ k ∈ fk, GA σ r_kAt k ∧ GA σ r_tAt k
