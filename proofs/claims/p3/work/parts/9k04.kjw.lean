/-! What the second reader says holds of the machine: worlds, room, calls. -/
section KJW
variable {dC : Nat → ClassId} {dI : Nat → Nat → Nat} {dA : Nat → ClassId} {ad : Nat → Nat} {σ : kS}
theorem kW_get {h : Nat} (hh : h < σ.2.2.2.2.1) : (kW dA ad σ)[h]? = some (ad h, kE dA ad σ h) := by
  unfold kW; rw [List.getElem?_map, List.getElem?_range hh]; rfl
theorem kW_len : (kW dA ad σ).length = σ.2.2.2.2.1 := by unfold kW; rw [List.length_map, List.length_range]
theorem kW_ob {h c : Nat} (ty : kTY σ) (hk : (σ.2.2.2.1 h).1 = c) (hc : c < 20) : (kW dA ad σ)[h]? = some (ad h, .inr (c, (List.range (kNf c)).map (fun x => mjR ad (kFv σ c h x)))) := by
  rw [kW_get (ty.lt (by omega))]; unfold kE; rw [if_pos (by omega), hk]
theorem kW_i {h k : Nat} (ty : kTY σ) (hk : (σ.2.2.2.1 h).1 = k) (hc : k = 20 ∨ k = 21) : (kW dA ad σ)[h]? = some (ad h, .inl (dA k, (σ.2.2.2.1 h).2, .inl (σ.1 h))) := by
  rw [kW_get (ty.lt (by omega))]; unfold kE; rw [if_neg (by omega), if_pos (by omega), hk]
theorem kW_l {h : Nat} (ty : kTY σ) (hk : (σ.2.2.2.1 h).1 = 23) : (kW dA ad σ)[h]? = some (ad h, .inl (dA 23, (σ.2.2.2.1 h).2, .inr (.inl (σ.2.1 h)))) := by
  rw [kW_get (ty.lt (by omega))]; unfold kE; rw [if_neg (by omega), if_neg (by omega), if_pos hk]
theorem kW_r {h k : Nat} (ty : kTY σ) (hk : (σ.2.2.2.1 h).1 = k) (hc : k = 24 ∨ k = 25) : (kW dA ad σ)[h]? = some (ad h, .inl (dA k, (σ.2.2.2.1 h).2, .inr (.inr (.inr (.inr (fun j => (σ.2.2.1 h j).map ad)))))) := by
  rw [kW_get (ty.lt (by omega))]; unfold kE; rw [if_neg (by omega), if_neg (by omega), if_neg (by omega), hk]
theorem kE_congr {u : kS} {h : Nat} (h1 : u.2.2.2.1 h = σ.2.2.2.1 h) (h2 : u.1 h = σ.1 h) (h3 : u.2.1 h = σ.2.1 h) (h4 : u.2.2.1 h = σ.2.2.1 h) : kE dA ad u h = kE dA ad σ h := by
  have e : ∀ c x, kFv u c h x = kFv σ c h x := fun c x => by unfold kFv; rw [h2, h3, h4]
  unfold kE
  rw [h1, h2, h3, h4]
  have e2 : (fun x => mjR ad (kFv u (σ.2.2.2.1 h).1 h x)) = fun x => mjR ad (kFv σ (σ.2.2.2.1 h).1 h x) := funext fun x => by rw [e]
  rw [e2]
theorem kW_set {u : kS} {a : Nat} {e : va_E} (hn : u.2.2.2.2.1 = σ.2.2.2.2.1) (h1 : ∀ h, ¬ h = a → kE dA ad u h = kE dA ad σ h) (h2 : kE dA ad u a = e) : (kW dA ad σ).set a (ad a, e) = kW dA ad u := by
  unfold kW
  rw [mj_range_set, hn]
  apply List.map_congr_left
  intro h _
  by_cases c : h = a
  · subst c; rw [if_pos rfl, h2]
  · rw [if_neg c, h1 h c]
theorem kFv_i {a x j : Nat} {v : Int32} (hx : (kT x).1 = 0 ∨ (kT x).1 = 1) : kFv (mjIu σ.1 a (x % 32) v, σ.2) (x / 32) a j = if j = x % 32 then .int v else kFv σ (x / 32) a j := by
  by_cases c : j = x % 32
  · subst c
    rw [if_pos rfl]; unfold kFv; rw [kDm]
    have e : (mjIu σ.1 a (x % 32) v, σ.2).1 a (x % 32) = v := by show mjIu σ.1 a (x % 32) v a (x % 32) = v; rw [mjIu_at, if_pos ⟨rfl, rfl⟩]
    rcases hx with hx | hx <;> rw [hx] <;> exact congrArg Value.int e
  · rw [if_neg c]; unfold kFv
    have e : (mjIu σ.1 a (x % 32) v, σ.2).1 a j = σ.1 a j := by show mjIu σ.1 a (x % 32) v a j = _; rw [mjIu_at, if_neg (fun q => c q.2)]
    rw [e]
theorem kFv_l {a x j : Nat} {v : Int64} (hx : (kT x).1 = 2) : kFv (σ.1, mjLu σ.2.1 a (x % 32) v, σ.2.2) (x / 32) a j = if j = x % 32 then .long v else kFv σ (x / 32) a j := by
  by_cases c : j = x % 32
  · subst c
    rw [if_pos rfl]; unfold kFv; rw [kDm, hx]
    show Value.long (mjLu σ.2.1 a (x % 32) v a (x % 32)) = _
    rw [mjLu_at, if_pos ⟨rfl, rfl⟩]
  · rw [if_neg c]; unfold kFv
    have e : (σ.1, mjLu σ.2.1 a (x % 32) v, σ.2.2).2.1 a j = σ.2.1 a j := by show mjLu σ.2.1 a (x % 32) v a j = _; rw [mjLu_at, if_neg (fun q => c q.2)]
    rw [e]
theorem kFv_f {a x j : Nat} {o : Option Nat} (hx : (kT x).1 = 5 ∨ (kT x).1 = 6 ∨ (kT x).1 = 7) : kFv (σ.1, σ.2.1, kFu σ.2.2.1 a (x % 32) o, σ.2.2.2) (x / 32) a j = if j = x % 32 then va_rf o else kFv σ (x / 32) a j := by
  by_cases c : j = x % 32
  · subst c
    rw [if_pos rfl]; unfold kFv; rw [kDm]
    have e : (σ.1, σ.2.1, kFu σ.2.2.1 a (x % 32) o, σ.2.2.2).2.2.1 a (x % 32) = o := by show kFu σ.2.2.1 a (x % 32) o a (x % 32) = o; rw [kFu_at, if_pos ⟨rfl, rfl⟩]
    rcases hx with hx | hx | hx <;> rw [hx] <;> exact congrArg va_rf e
  · rw [if_neg c]; unfold kFv
    have e : (σ.1, σ.2.1, kFu σ.2.2.1 a (x % 32) o, σ.2.2.2).2.2.1 a j = σ.2.2.1 a j := by show kFu σ.2.2.1 a (x % 32) o a j = _; rw [kFu_at, if_neg (fun q => c q.2)]
    rw [e]
theorem mjIu_n {f : Nat → Nat → Int32} {a k h : Nat} {v : Int32} (c : ¬ h = a) : mjIu f a k v h = f h := by unfold mjIu; rw [if_neg c]
theorem mjLu_n {f : Nat → Nat → Int64} {a k h : Nat} {v : Int64} (c : ¬ h = a) : mjLu f a k v h = f h := by unfold mjLu; rw [if_neg c]
theorem kFu_n {f : Nat → Nat → Option Nat} {a k h : Nat} {v : Option Nat} (c : ¬ h = a) : kFu f a k v h = f h := by unfold kFu; rw [kUp_n c]
/-- a field is set -/
theorem kW_put {u : kS} {a x : Nat} {v : Value} (hk : (σ.2.2.2.1 a).1 = x / 32) (hx : x < 384) (hd : u.2.2.2 = σ.2.2.2) (h1 : ∀ h, ¬ h = a → u.1 h = σ.1 h ∧ u.2.1 h = σ.2.1 h ∧ u.2.2.1 h = σ.2.2.1 h) (h2 : ∀ j, kFv u (x / 32) a j = if j = x % 32 then v else kFv σ (x / 32) a j) :
    (kW dA ad σ).set a (ad a, .inr (x / 32, ((List.range (kNf (x / 32))).map (fun y => mjR ad (kFv σ (x / 32) a y))).set (x % 32) (mjR ad v))) = kW dA ad u := by
  refine kW_set (by rw [hd]) (fun h c => kE_congr (by rw [hd]) (h1 h c).1 (h1 h c).2.1 (h1 h c).2.2) ?_
  unfold kE
  rw [hd, if_pos (by rw [hk]; omega), hk, mj_range_set]
  refine congrArg (fun t => Sum.inr (x / 32, t)) (List.map_congr_left fun j _ => ?_)
  rw [h2 j]
  by_cases c : j = x % 32
  · rw [if_pos c, if_pos c]
  · rw [if_neg c, if_neg c]
/-- a row of ints is set -/
theorem kW_ia {h k : Nat} {f : Nat → Int32} {u : kS} (hk : (σ.2.2.2.1 h).1 = k) (hc : k = 20 ∨ k = 21) (hd : u.2 = σ.2) (h1 : ∀ g, ¬ g = h → u.1 g = σ.1 g) (h2 : u.1 h = f) : (kW dA ad σ).set h (ad h, .inl (dA k, (σ.2.2.2.1 h).2, .inl f)) = kW dA ad u := by
  refine kW_set (by rw [hd]) (fun g c => kE_congr (by rw [hd]) (h1 g c) (by rw [hd]) (by rw [hd])) ?_
  unfold kE
  rw [hd, if_neg (by omega), if_pos (by omega), hk, h2]
theorem kW_la {h : Nat} {f : Nat → Int64} {u : kS} (hk : (σ.2.2.2.1 h).1 = 23) (h0 : u.1 = σ.1) (hd : u.2.2 = σ.2.2) (h1 : ∀ g, ¬ g = h → u.2.1 g = σ.2.1 g) (h2 : u.2.1 h = f) : (kW dA ad σ).set h (ad h, .inl (dA 23, (σ.2.2.2.1 h).2, .inr (.inl f))) = kW dA ad u := by
  refine kW_set (by rw [hd]) (fun g c => kE_congr (by rw [hd]) (by rw [h0]) (h1 g c) (by rw [hd])) ?_
  unfold kE
  rw [hd, if_neg (by omega), if_neg (by omega), if_pos hk, h2]
theorem kW_ra {h j g : Nat} (hk : (σ.2.2.2.1 h).1 = 25) : (kW dA ad σ).set h (ad h, .inl (dA 25, (σ.2.2.2.1 h).2, .inr (.inr (.inr (.inr (va_up (fun j => (σ.2.2.1 h j).map ad) j (some (ad g)))))))) = kW dA ad (σ.1, σ.2.1, kFu σ.2.2.1 h j (some g), σ.2.2.2) := by
  refine kW_set rfl (fun b c => kE_congr rfl rfl rfl (kFu_n c)) ?_
  unfold kE
  rw [if_neg (by show ¬ (σ.2.2.2.1 h).1 < 20; omega), if_neg (by show ¬ (σ.2.2.2.1 h).1 < 23; omega), if_neg (by show ¬ (σ.2.2.2.1 h).1 = 23; omega)]
  show Sum.inl (dA (σ.2.2.2.1 h).1, (σ.2.2.2.1 h).2, Sum.inr (Sum.inr (Sum.inr (Sum.inr (fun i => (kFu σ.2.2.1 h j (some g) h i).map ad))))) = _
  rw [hk]
  have e : (fun i => (kFu σ.2.2.1 h j (some g) h i).map ad) = va_up (fun j => (σ.2.2.1 h j).map ad) j (some (ad g)) := by
    funext i
    rw [kFu_at]; unfold va_up
    by_cases c : i = j
    · rw [if_pos ⟨rfl, c⟩, if_pos c]; rfl
    · rw [if_neg (fun q => c q.2), if_neg c]
  rw [e]
/-- something is made -/
theorem kW_push {u : kS} {e : va_E} (hn : u.2.2.2.2.1 = σ.2.2.2.2.1 + 1) (h1 : ∀ h, h < σ.2.2.2.2.1 → kE dA ad u h = kE dA ad σ h) (h2 : kE dA ad u σ.2.2.2.2.1 = e) : kW dA ad σ ++ [(ad σ.2.2.2.2.1, e)] = kW dA ad u := by
  unfold kW
  rw [hn, List.range_succ, List.map_append]
  have e1 : (List.range σ.2.2.2.2.1).map (fun h => (ad h, kE dA ad u h)) = (List.range σ.2.2.2.2.1).map (fun h => (ad h, kE dA ad σ h)) := List.map_congr_left fun h hh => by rw [h1 h (List.mem_range.mp hh)]
  rw [e1, List.map_singleton, h2]
theorem kNew_W {k N : Nat} (hk : k = 20 ∨ k = 21) : kW dA ad σ ++ [(ad σ.2.2.2.2.1, .inl (dA k, N, .inl (fun _ => 0)))] = kW dA ad (kNew σ k N) := by
  refine kW_push rfl (fun h hh => kE_congr (kUp_n (by omega)) (kUp_n (by omega)) (kUp_n (by omega)) (kUp_n (by omega))) ?_
  have e1 : (kNew σ k N).2.2.2.1 σ.2.2.2.2.1 = (k, N) := kUp_s
  have e2 : (kNew σ k N).1 σ.2.2.2.2.1 = fun _ => 0 := kUp_s
  unfold kE
  rw [e1, e2, if_neg (by show ¬ k < 20; omega), if_pos (by show k < 23; omega)]
theorem kNew_Wl {N : Nat} : kW dA ad σ ++ [(ad σ.2.2.2.2.1, .inl (dA 23, N, .inr (.inl (fun _ => 0))))] = kW dA ad (kNew σ 23 N) := by
  refine kW_push rfl (fun h hh => kE_congr (kUp_n (by omega)) (kUp_n (by omega)) (kUp_n (by omega)) (kUp_n (by omega))) ?_
  have e1 : (kNew σ 23 N).2.2.2.1 σ.2.2.2.2.1 = (23, N) := kUp_s
  have e2 : (kNew σ 23 N).2.1 σ.2.2.2.2.1 = fun _ => 0 := kUp_s
  unfold kE
  rw [e1, e2]; rfl
theorem kNew_Wr {N : Nat} : kW dA ad σ ++ [(ad σ.2.2.2.2.1, .inl (dA 25, N, .inr (.inr (.inr (.inr (fun _ => none))))))] = kW dA ad (kNew σ 25 N) := by
  refine kW_push rfl (fun h hh => kE_congr (kUp_n (by omega)) (kUp_n (by omega)) (kUp_n (by omega)) (kUp_n (by omega))) ?_
  have e1 : (kNew σ 25 N).2.2.2.1 σ.2.2.2.2.1 = (25, N) := kUp_s
  have e2 : (kNew σ 25 N).2.2.1 σ.2.2.2.2.1 = fun _ => none := kUp_s
  unfold kE
  rw [e1, e2]; rfl
end KJW
/-! Room: what a call has really taken. -/
def kSum (l : List Cell) : Nat := (l.map (·.slots.size)).sum
theorem kSum_app (a b : List Cell) : kSum (a ++ b) = kSum a + kSum b := by unfold kSum; rw [List.map_append, List.sum_append]
theorem kSum_drop {A B : List Cell} {j : Nat} (hj : j ≤ A.length) (h : ∀ (a : Nat) (c : Cell), A[a]? = some c → ∃ c' : Cell, B[a]? = some c' ∧ c'.slots.size = c.slots.size) : kSum (B.drop j) = kSum (A.drop j) + kSum (B.drop A.length) := by
  have hl : A.length ≤ B.length := by
    by_cases c : A.length = 0
    · omega
    · obtain ⟨c', hc, -⟩ := h (A.length - 1) _ (List.getElem?_eq_getElem (by omega))
      have := (List.getElem?_eq_some_iff.mp hc).1
      omega
  have e : B.drop j = (B.take A.length).drop j ++ B.drop A.length := by
    have := List.take_append_drop A.length B
    conv => lhs; rw [← this]
    rw [List.drop_append_of_le_length (by rw [List.length_take]; omega)]
  rw [e, kSum_app]
  have e2 : ((B.take A.length).drop j).map (fun x : Cell => x.slots.size) = (A.drop j).map (fun x : Cell => x.slots.size) := by
    apply List.ext_getElem?
    intro i
    rw [List.getElem?_map, List.getElem?_map, List.getElem?_drop, List.getElem?_drop]
    by_cases c : j + i < A.length
    · obtain ⟨c', h1, h2⟩ := h (j + i) _ (List.getElem?_eq_getElem c)
      rw [List.getElem?_take, if_pos c, h1, List.getElem?_eq_getElem c]
      exact congrArg some h2
    · rw [List.getElem?_take, if_neg c, List.getElem?_eq_none (by omega)]
  unfold kSum
  rw [e2]
section KJR
variable {p : Program} {l : Launch} {e : Env} {R : Room} {s : State} {m : MethodId} {args : Array Value} {below : List Frame} {meth : Method} {c : Code} {H : Heap} {locs : List Loc} {cells slots : Nat} {Q : State → Prop}
theorem kj_tight {T T' : State} {L : List Loc} {mc ms k n : Nat} (X : Stand p l e R s m args below meth c T locs cells slots) (X' : Stand p l e R s m args below meth c T' (locs ++ L) (cells + mc) (slots + ms)) (hk : T'.heap.size ≤ T.heap.size + k) (hn : kSum (T'.heap.toList.drop T.heap.size) ≤ n)
    (hz : ∀ (a : Nat) (c : Cell), T.heap[a]? = some c → ∃ c' : Cell, T'.heap[a]? = some c' ∧ c'.slots.size = c.slots.size) : Stand p l e R s m args below meth c T' (locs ++ L) (cells + k) (slots + n) := by
  obtain ⟨a1, a2, a3, a4, a5, a6, a7, a8, a9, a10, a11, a12, a13, b1, b2, b3, b4, b5, b6⟩ := X'
  refine ⟨a1, a2, a3, a4, a5, a6, a7, a8, a9, a10, a11, a12, a13, b1, b2, ?_, b4, ?_, b6⟩
  · have h1 := X.same.2.2.1
    show T'.heap.size ≤ s.heap.size + (cells + k)
    have h1 : T.heap.size ≤ s.heap.size + cells := h1
    omega
  · have h1 : kSum (T.heap.toList.drop s.heap.size) ≤ slots := X.same.2.2.2.2.1
    have h2 : s.heap.size ≤ T.heap.size := X.same.2.1
    have h3 := kSum_drop (A := T.heap.toList) (B := T'.heap.toList) (j := s.heap.size) (by rw [Array.length_toList]; exact h2) (fun a c hc => by
      rw [Array.getElem?_toList] at hc ⊢; exact hz a c hc)
    rw [Array.length_toList] at h3
    show kSum (T'.heap.toList.drop s.heap.size) ≤ slots + n
    omega
/-- the heap is no longer than was counted -/
theorem kj_size {g : JFrame} (k : H.size ≤ s.heap.size + cells → W p l e R s m args below meth c H locs cells slots Q g) : W p l e R s m args below meth c H locs cells slots Q g :=
  fun T hT X => k (by rw [← hT]; exact X.heapSize) T hT X
theorem kj_fe {o : Outcome} {t : State} {L : List Loc} {k n k' n' : Nat} (h : FrameEnd s o t L k n) (hk : k ≤ k') (hn : n ≤ n') : FrameEnd s o t L k' n' := by
  obtain ⟨h1, h2, b1, b2, b3, b4, b5, b6⟩ := h
  exact ⟨h1, h2, b1, b2, Nat.le_trans b3 (Nat.add_le_add_left hk _), b4, Nat.le_trans b5 hn, b6⟩
/-- a method ends: what it says, with what it has taken -/
theorem kj_end {g : JFrame} {Qb Qc : Array Value → State → Outcome → State → Prop} {A : Addr → Prop} {mc ms : Nat} (k : W p l e R s m args below meth c H locs cells slots (MQ below Qb args s cells slots A) g) (h : ∀ (o : Outcome) (t : State) (L : List Loc), Qb args s o t → FrameEnd s o t L cells slots → Qc args s o t) (h1 : cells ≤ mc) (h2 : slots ≤ ms) : W p l e R s m args below meth c H locs cells slots (MQ below Qc args s mc ms A) g := by
  intro T hT X
  obtain ⟨t, a, o, b1, b2, b3, L, b4, b5⟩ := k T hT X
  exact ⟨t, a, o, b1, b2, h o t L b3 b4, L, kj_fe b4 h1 h2, b5⟩
end KJR
