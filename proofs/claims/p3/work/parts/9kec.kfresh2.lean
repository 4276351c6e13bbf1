/-! What the constructor made is the world of the fresh state. -/
section KFR2
set_option maxRecDepth 100000 in
set_option maxHeartbeats 4000000 in
theorem kW_fresh {dC : Nat → ClassId} {dI : Nat → Nat → Nat} {s : State} {H : Heap} {A : Nat → Prop} (hiA : Nat → Nat) (h0 z1 z2 z3 z4 z5 z6 z7 z8 z9 z10 z11 z12 z13 z14 z15 z16 z17 z18 z19 z20 z21 z22 z23 z24 z25 z26 z27 z28 z29 z30 z31 z32 z33 z34 z35 z36 z37 z38 z39 z40 z41 z42 z43 z44 z45 z46 z47 z48 z49 z50 z51 z52 z53 z54 z55 z56 z57 z58 z59 z60 z61 z62 z63 z64 z65 z66 z67 z68 z69 z70 z71 z72 z73 z74 z75 : Nat) (k2 k4 k6 k8 k10 k11 k14 k16 k18 k19 k20 k23 k25 k27 k28 k29 k32 k34 k36 k37 k38 k41 k43 k45 k46 k47 k49 k50 k51 k52 k54 k55 k56 k58 k60 k61 k62 k63 k64 k65 k66 k69 k73 k74 : ClassId) (fa : Nat → Option Nat) (hf : fa 0 = some z12 ∧ fa 1 = some z21 ∧ fa 2 = some z30 ∧ fa 3 = some z39)
    (hP : va_P (dC, dI) classes [(h0, .inr (9, [.ref z1, .ref z3, .ref z11, .ref z48, .ref z53, .ref z59, .ref z67, .ref z70, .ref z71, .ref z75, .ref z5, .ref z7, .ref z9, .int 0, .int 0, .int 0, .int (-1), .int 1])), (z1, .inr (0, [.int 65540, .ref z2, .int 0, .int 0])), (z2, .inl (k2, 64, .inl (fun _ => 0))), (z3, .inr (0, [.int 0, .ref z4, .int 0, .int 0])), (z4, .inl (k4, 64, .inl (fun _ => 0))), (z5, .inr (0, [.int 67108864, .ref z6, .int 0, .int 0])), (z6, .inl (k6, 64, .inl (fun _ => 0))), (z7, .inr (0, [.int 67108864, .ref z8, .int 0, .int 0])), (z8, .inl (k8, 64, .inl (fun _ => 0))), (z9, .inr (0, [.int 67108864, .ref z10, .int 0, .int 0])), (z10, .inl (k10, 64, .inl (fun _ => 0))), (z11, .inl (k11, 4, .inr (.inr (.inr (.inr fa))))), (z12, .inr (1, [.int 1, .ref z13, .ref z15, .ref z17, .int 0, .int 0, .int 0, .int 0, .ref z19, .int 0, .ref z20, .int 0])), (z13, .inr (0, [.int 131076, .ref z14, .int 0, .int 0])), (z14, .inl (k14, 64, .inl (fun _ => 0))), (z15, .inr (0, [.int 65536, .ref z16, .int 0, .int 0])), (z16, .inl (k16, 64, .inl (fun _ => 0))), (z17, .inr (0, [.int 67108864, .ref z18, .int 0, .int 0])), (z18, .inl (k18, 64, .inl (fun _ => 0))), (z19, .inl (k19, 64, .inl (fun _ => 0))), (z20, .inl (k20, 32, .inl (fun _ => 0))), (z21, .inr (1, [.int 1, .ref z22, .ref z24, .ref z26, .int 0, .int 0, .int 0, .int 0, .ref z28, .int 0, .ref z29, .int 0])), (z22, .inr (0, [.int 131076, .ref z23, .int 0, .int 0])), (z23, .inl (k23, 64, .inl (fun _ => 0))), (z24, .inr (0, [.int 65536, .ref z25, .int 0, .int 0])), (z25, .inl (k25, 64, .inl (fun _ => 0))), (z26, .inr (0, [.int 67108864, .ref z27, .int 0, .int 0])), (z27, .inl (k27, 64, .inl (fun _ => 0))), (z28, .inl (k28, 64, .inl (fun _ => 0))), (z29, .inl (k29, 32, .inl (fun _ => 0))), (z30, .inr (1, [.int 1, .ref z31, .ref z33, .ref z35, .int 0, .int 0, .int 0, .int 0, .ref z37, .int 0, .ref z38, .int 0])), (z31, .inr (0, [.int 131076, .ref z32, .int 0, .int 0])), (z32, .inl (k32, 64, .inl (fun _ => 0))), (z33, .inr (0, [.int 65536, .ref z34, .int 0, .int 0])), (z34, .inl (k34, 64, .inl (fun _ => 0))), (z35, .inr (0, [.int 67108864, .ref z36, .int 0, .int 0])), (z36, .inl (k36, 64, .inl (fun _ => 0))), (z37, .inl (k37, 64, .inl (fun _ => 0))), (z38, .inl (k38, 32, .inl (fun _ => 0))), (z39, .inr (1, [.int 1, .ref z40, .ref z42, .ref z44, .int 0, .int 0, .int 0, .int 0, .ref z46, .int 0, .ref z47, .int 0])), (z40, .inr (0, [.int 131076, .ref z41, .int 0, .int 0])), (z41, .inl (k41, 64, .inl (fun _ => 0))), (z42, .inr (0, [.int 65536, .ref z43, .int 0, .int 0])), (z43, .inl (k43, 64, .inl (fun _ => 0))), (z44, .inr (0, [.int 67108864, .ref z45, .int 0, .int 0])), (z45, .inl (k45, 64, .inl (fun _ => 0))), (z46, .inl (k46, 64, .inl (fun _ => 0))), (z47, .inl (k47, 32, .inl (fun _ => 0))), (z48, .inr (2, [.ref z49, .ref z50, .ref z51, .ref z52, .int 0])), (z49, .inl (k49, 1024, .inl (fun _ => 0))), (z50, .inl (k50, 128, .inl (fun _ => 0))), (z51, .inl (k51, 128, .inl (fun _ => 0))), (z52, .inl (k52, 1024, .inl (fun _ => 0))), (z53, .inr (3, [.ref z48, .ref z54, .ref z55, .ref z56, .int 0, .int 0, .ref z57, .null, .null, .long 0, .long 0, .int 0, .int 0, .int 0, .int 0, .int 0, .long 0])), (z54, .inl (k54, 1024, .inl (fun _ => 0))), (z55, .inl (k55, 1024, .inl (fun _ => 0))), (z56, .inl (k56, 0, .inl (fun _ => 0))), (z57, .inr (0, [.int 0, .ref z58, .int 0, .int 0])), (z58, .inl (k58, 64, .inl (fun _ => 0))), (z59, .inr (4, [.ref z48, .ref z53, .ref z11, .ref z60, .ref z61, .ref z62, .int 0, .ref z63, .ref z64, .int 0, .ref z65, .ref z66, .int 0, .int 0, .int 0, .int 0, .long 0, .int 0, .int 0])), (z60, .inl (k60, 64, .inl (fun _ => 0))), (z61, .inl (k61, 64, .inl (fun _ => 0))), (z62, .inl (k62, 64, .inr (.inr (.inr (.inr (fun _ => none)))))), (z63, .inl (k63, 64, .inl (fun _ => 0))), (z64, .inl (k64, 0, .inl (fun _ => 0))), (z65, .inl (k65, 64, .inr (.inl (fun _ => 0)))), (z66, .inl (k66, 0, .inr (.inl (fun _ => 0)))), (z67, .inr (5, [.ref z53, .ref z59, .ref z68, .int 0, .int 0, .int 0, .int 0])), (z68, .inr (0, [.int 32, .ref z69, .int 0, .int 0])), (z69, .inl (k69, 64, .inl (fun _ => 0))), (z70, .inr (6, [.ref z48, .ref z53, .ref z59])), (z71, .inr (7, [.ref z48, .ref z53, .ref z59, .ref z72, .ref z74, .int 0])), (z72, .inr (0, [.int 32, .ref z73, .int 0, .int 0])), (z73, .inl (k73, 64, .inl (fun _ => 0))), (z74, .inl (k74, 64, .inl (fun _ => 0))), (z75, .inr (8, [.ref z48, .ref z53, .ref z59, .int 0, .int 0, .int 0, .int 0, .int 0, .int 0]))] H) (hK : va_K (dC, dI) classes [(k2, .byte), (k4, .byte), (k6, .byte), (k8, .byte), (k10, .byte), (k11, .object "KeySteward$Connection"), (k14, .byte), (k16, .byte), (k18, .byte), (k19, .int), (k20, .int), (k23, .byte), (k25, .byte), (k27, .byte), (k28, .int), (k29, .int), (k32, .byte), (k34, .byte), (k36, .byte), (k37, .int), (k38, .int), (k41, .byte), (k43, .byte), (k45, .byte), (k46, .int), (k47, .int), (k49, .byte), (k50, .int), (k51, .int), (k52, .int), (k54, .int), (k55, .int), (k56, .byte), (k58, .byte), (k60, .int), (k61, .int), (k62, .object "KeySteward$Value"), (k63, .byte), (k64, .byte), (k65, .long), (k66, .long), (k69, .byte), (k73, .byte), (k74, .int)] s) (hD : va_D A [(h0, .inr (9, [.ref z1, .ref z3, .ref z11, .ref z48, .ref z53, .ref z59, .ref z67, .ref z70, .ref z71, .ref z75, .ref z5, .ref z7, .ref z9, .int 0, .int 0, .int 0, .int (-1), .int 1])), (z1, .inr (0, [.int 65540, .ref z2, .int 0, .int 0])), (z2, .inl (k2, 64, .inl (fun _ => 0))), (z3, .inr (0, [.int 0, .ref z4, .int 0, .int 0])), (z4, .inl (k4, 64, .inl (fun _ => 0))), (z5, .inr (0, [.int 67108864, .ref z6, .int 0, .int 0])), (z6, .inl (k6, 64, .inl (fun _ => 0))), (z7, .inr (0, [.int 67108864, .ref z8, .int 0, .int 0])), (z8, .inl (k8, 64, .inl (fun _ => 0))), (z9, .inr (0, [.int 67108864, .ref z10, .int 0, .int 0])), (z10, .inl (k10, 64, .inl (fun _ => 0))), (z11, .inl (k11, 4, .inr (.inr (.inr (.inr fa))))), (z12, .inr (1, [.int 1, .ref z13, .ref z15, .ref z17, .int 0, .int 0, .int 0, .int 0, .ref z19, .int 0, .ref z20, .int 0])), (z13, .inr (0, [.int 131076, .ref z14, .int 0, .int 0])), (z14, .inl (k14, 64, .inl (fun _ => 0))), (z15, .inr (0, [.int 65536, .ref z16, .int 0, .int 0])), (z16, .inl (k16, 64, .inl (fun _ => 0))), (z17, .inr (0, [.int 67108864, .ref z18, .int 0, .int 0])), (z18, .inl (k18, 64, .inl (fun _ => 0))), (z19, .inl (k19, 64, .inl (fun _ => 0))), (z20, .inl (k20, 32, .inl (fun _ => 0))), (z21, .inr (1, [.int 1, .ref z22, .ref z24, .ref z26, .int 0, .int 0, .int 0, .int 0, .ref z28, .int 0, .ref z29, .int 0])), (z22, .inr (0, [.int 131076, .ref z23, .int 0, .int 0])), (z23, .inl (k23, 64, .inl (fun _ => 0))), (z24, .inr (0, [.int 65536, .ref z25, .int 0, .int 0])), (z25, .inl (k25, 64, .inl (fun _ => 0))), (z26, .inr (0, [.int 67108864, .ref z27, .int 0, .int 0])), (z27, .inl (k27, 64, .inl (fun _ => 0))), (z28, .inl (k28, 64, .inl (fun _ => 0))), (z29, .inl (k29, 32, .inl (fun _ => 0))), (z30, .inr (1, [.int 1, .ref z31, .ref z33, .ref z35, .int 0, .int 0, .int 0, .int 0, .ref z37, .int 0, .ref z38, .int 0])), (z31, .inr (0, [.int 131076, .ref z32, .int 0, .int 0])), (z32, .inl (k32, 64, .inl (fun _ => 0))), (z33, .inr (0, [.int 65536, .ref z34, .int 0, .int 0])), (z34, .inl (k34, 64, .inl (fun _ => 0))), (z35, .inr (0, [.int 67108864, .ref z36, .int 0, .int 0])), (z36, .inl (k36, 64, .inl (fun _ => 0))), (z37, .inl (k37, 64, .inl (fun _ => 0))), (z38, .inl (k38, 32, .inl (fun _ => 0))), (z39, .inr (1, [.int 1, .ref z40, .ref z42, .ref z44, .int 0, .int 0, .int 0, .int 0, .ref z46, .int 0, .ref z47, .int 0])), (z40, .inr (0, [.int 131076, .ref z41, .int 0, .int 0])), (z41, .inl (k41, 64, .inl (fun _ => 0))), (z42, .inr (0, [.int 65536, .ref z43, .int 0, .int 0])), (z43, .inl (k43, 64, .inl (fun _ => 0))), (z44, .inr (0, [.int 67108864, .ref z45, .int 0, .int 0])), (z45, .inl (k45, 64, .inl (fun _ => 0))), (z46, .inl (k46, 64, .inl (fun _ => 0))), (z47, .inl (k47, 32, .inl (fun _ => 0))), (z48, .inr (2, [.ref z49, .ref z50, .ref z51, .ref z52, .int 0])), (z49, .inl (k49, 1024, .inl (fun _ => 0))), (z50, .inl (k50, 128, .inl (fun _ => 0))), (z51, .inl (k51, 128, .inl (fun _ => 0))), (z52, .inl (k52, 1024, .inl (fun _ => 0))), (z53, .inr (3, [.ref z48, .ref z54, .ref z55, .ref z56, .int 0, .int 0, .ref z57, .null, .null, .long 0, .long 0, .int 0, .int 0, .int 0, .int 0, .int 0, .long 0])), (z54, .inl (k54, 1024, .inl (fun _ => 0))), (z55, .inl (k55, 1024, .inl (fun _ => 0))), (z56, .inl (k56, 0, .inl (fun _ => 0))), (z57, .inr (0, [.int 0, .ref z58, .int 0, .int 0])), (z58, .inl (k58, 64, .inl (fun _ => 0))), (z59, .inr (4, [.ref z48, .ref z53, .ref z11, .ref z60, .ref z61, .ref z62, .int 0, .ref z63, .ref z64, .int 0, .ref z65, .ref z66, .int 0, .int 0, .int 0, .int 0, .long 0, .int 0, .int 0])), (z60, .inl (k60, 64, .inl (fun _ => 0))), (z61, .inl (k61, 64, .inl (fun _ => 0))), (z62, .inl (k62, 64, .inr (.inr (.inr (.inr (fun _ => none)))))), (z63, .inl (k63, 64, .inl (fun _ => 0))), (z64, .inl (k64, 0, .inl (fun _ => 0))), (z65, .inl (k65, 64, .inr (.inl (fun _ => 0)))), (z66, .inl (k66, 0, .inr (.inl (fun _ => 0)))), (z67, .inr (5, [.ref z53, .ref z59, .ref z68, .int 0, .int 0, .int 0, .int 0])), (z68, .inr (0, [.int 32, .ref z69, .int 0, .int 0])), (z69, .inl (k69, 64, .inl (fun _ => 0))), (z70, .inr (6, [.ref z48, .ref z53, .ref z59])), (z71, .inr (7, [.ref z48, .ref z53, .ref z59, .ref z72, .ref z74, .int 0])), (z72, .inr (0, [.int 32, .ref z73, .int 0, .int 0])), (z73, .inl (k73, 64, .inl (fun _ => 0))), (z74, .inl (k74, 64, .inl (fun _ => 0))), (z75, .inr (8, [.ref z48, .ref z53, .ref z59, .int 0, .int 0, .int 0, .int 0, .int 0, .int 0]))]) : ∃ (dA : Nat → ClassId) (ad : Nat → Nat), ad 0 = h0 ∧ (∀ h, 1000000 ≤ h → ad h = hiA h) ∧ va_P (dC, dI) classes (kW dA ad Z0k) H ∧ va_K (dC, dI) classes (kTyp dA) s ∧ va_D A (kW dA ad Z0k) := by
  have hKt := hK.sub (tys' := [(k19, .int), (k2, .byte), (k65, .long), (k11, .object "KeySteward$Connection"), (k62, .object "KeySteward$Value")]) [9, 0, 39, 5, 36] rfl
  obtain rfl : k2 = k4 := kj_kind (s := s) (hK.2 0 (k2, .byte) rfl).2 (hK.2 1 (k4, .byte) rfl).2
  obtain rfl : k2 = k6 := kj_kind (s := s) (hK.2 0 (k2, .byte) rfl).2 (hK.2 2 (k6, .byte) rfl).2
  obtain rfl : k2 = k8 := kj_kind (s := s) (hK.2 0 (k2, .byte) rfl).2 (hK.2 3 (k8, .byte) rfl).2
  obtain rfl : k2 = k10 := kj_kind (s := s) (hK.2 0 (k2, .byte) rfl).2 (hK.2 4 (k10, .byte) rfl).2
  obtain rfl : k2 = k14 := kj_kind (s := s) (hK.2 0 (k2, .byte) rfl).2 (hK.2 6 (k14, .byte) rfl).2
  obtain rfl : k2 = k16 := kj_kind (s := s) (hK.2 0 (k2, .byte) rfl).2 (hK.2 7 (k16, .byte) rfl).2
  obtain rfl : k2 = k18 := kj_kind (s := s) (hK.2 0 (k2, .byte) rfl).2 (hK.2 8 (k18, .byte) rfl).2
  obtain rfl : k19 = k20 := kj_kind (s := s) (hK.2 9 (k19, .int) rfl).2 (hK.2 10 (k20, .int) rfl).2
  obtain rfl : k2 = k23 := kj_kind (s := s) (hK.2 0 (k2, .byte) rfl).2 (hK.2 11 (k23, .byte) rfl).2
  obtain rfl : k2 = k25 := kj_kind (s := s) (hK.2 0 (k2, .byte) rfl).2 (hK.2 12 (k25, .byte) rfl).2
  obtain rfl : k2 = k27 := kj_kind (s := s) (hK.2 0 (k2, .byte) rfl).2 (hK.2 13 (k27, .byte) rfl).2
  obtain rfl : k19 = k28 := kj_kind (s := s) (hK.2 9 (k19, .int) rfl).2 (hK.2 14 (k28, .int) rfl).2
  obtain rfl : k19 = k29 := kj_kind (s := s) (hK.2 9 (k19, .int) rfl).2 (hK.2 15 (k29, .int) rfl).2
  obtain rfl : k2 = k32 := kj_kind (s := s) (hK.2 0 (k2, .byte) rfl).2 (hK.2 16 (k32, .byte) rfl).2
  obtain rfl : k2 = k34 := kj_kind (s := s) (hK.2 0 (k2, .byte) rfl).2 (hK.2 17 (k34, .byte) rfl).2
  obtain rfl : k2 = k36 := kj_kind (s := s) (hK.2 0 (k2, .byte) rfl).2 (hK.2 18 (k36, .byte) rfl).2
  obtain rfl : k19 = k37 := kj_kind (s := s) (hK.2 9 (k19, .int) rfl).2 (hK.2 19 (k37, .int) rfl).2
  obtain rfl : k19 = k38 := kj_kind (s := s) (hK.2 9 (k19, .int) rfl).2 (hK.2 20 (k38, .int) rfl).2
  obtain rfl : k2 = k41 := kj_kind (s := s) (hK.2 0 (k2, .byte) rfl).2 (hK.2 21 (k41, .byte) rfl).2
  obtain rfl : k2 = k43 := kj_kind (s := s) (hK.2 0 (k2, .byte) rfl).2 (hK.2 22 (k43, .byte) rfl).2
  obtain rfl : k2 = k45 := kj_kind (s := s) (hK.2 0 (k2, .byte) rfl).2 (hK.2 23 (k45, .byte) rfl).2
  obtain rfl : k19 = k46 := kj_kind (s := s) (hK.2 9 (k19, .int) rfl).2 (hK.2 24 (k46, .int) rfl).2
  obtain rfl : k19 = k47 := kj_kind (s := s) (hK.2 9 (k19, .int) rfl).2 (hK.2 25 (k47, .int) rfl).2
  obtain rfl : k2 = k49 := kj_kind (s := s) (hK.2 0 (k2, .byte) rfl).2 (hK.2 26 (k49, .byte) rfl).2
  obtain rfl : k19 = k50 := kj_kind (s := s) (hK.2 9 (k19, .int) rfl).2 (hK.2 27 (k50, .int) rfl).2
  obtain rfl : k19 = k51 := kj_kind (s := s) (hK.2 9 (k19, .int) rfl).2 (hK.2 28 (k51, .int) rfl).2
  obtain rfl : k19 = k52 := kj_kind (s := s) (hK.2 9 (k19, .int) rfl).2 (hK.2 29 (k52, .int) rfl).2
  obtain rfl : k19 = k54 := kj_kind (s := s) (hK.2 9 (k19, .int) rfl).2 (hK.2 30 (k54, .int) rfl).2
  obtain rfl : k19 = k55 := kj_kind (s := s) (hK.2 9 (k19, .int) rfl).2 (hK.2 31 (k55, .int) rfl).2
  obtain rfl : k2 = k56 := kj_kind (s := s) (hK.2 0 (k2, .byte) rfl).2 (hK.2 32 (k56, .byte) rfl).2
  obtain rfl : k2 = k58 := kj_kind (s := s) (hK.2 0 (k2, .byte) rfl).2 (hK.2 33 (k58, .byte) rfl).2
  obtain rfl : k19 = k60 := kj_kind (s := s) (hK.2 9 (k19, .int) rfl).2 (hK.2 34 (k60, .int) rfl).2
  obtain rfl : k19 = k61 := kj_kind (s := s) (hK.2 9 (k19, .int) rfl).2 (hK.2 35 (k61, .int) rfl).2
  obtain rfl : k2 = k63 := kj_kind (s := s) (hK.2 0 (k2, .byte) rfl).2 (hK.2 37 (k63, .byte) rfl).2
  obtain rfl : k2 = k64 := kj_kind (s := s) (hK.2 0 (k2, .byte) rfl).2 (hK.2 38 (k64, .byte) rfl).2
  obtain rfl : k65 = k66 := kj_kind (s := s) (hK.2 39 (k65, .long) rfl).2 (hK.2 40 (k66, .long) rfl).2
  obtain rfl : k2 = k69 := kj_kind (s := s) (hK.2 0 (k2, .byte) rfl).2 (hK.2 41 (k69, .byte) rfl).2
  obtain rfl : k2 = k73 := kj_kind (s := s) (hK.2 0 (k2, .byte) rfl).2 (hK.2 42 (k73, .byte) rfl).2
  obtain rfl : k19 = k74 := kj_kind (s := s) (hK.2 9 (k19, .int) rfl).2 (hK.2 43 (k74, .int) rfl).2
  refine ⟨fun k => if k = 20 then k19 else if k = 21 then k2 else if k = 23 then k65 else if k = 24 then k11 else k62, fun h => if 1000000 ≤ h then hiA h else [h0, z1, z2, z3, z4, z5, z6, z7, z8, z9, z10, z11, z12, z13, z14, z15, z16, z17, z18, z19, z20, z21, z22, z23, z24, z25, z26, z27, z28, z29, z30, z31, z32, z33, z34, z35, z36, z37, z38, z39, z40, z41, z42, z43, z44, z45, z46, z47, z48, z49, z50, z51, z52, z53, z54, z55, z56, z57, z58, z59, z60, z61, z62, z63, z64, z65, z66, z67, z68, z69, z70, z71, z72, z73, z74, z75].getD h 0, rfl, fun h hh => if_pos hh, ?_, hKt, ?_⟩
  · intro k q hq
    have hlt : k < 76 := by rw [show (76 : Nat) = Z0k.2.2.2.2.1 from rfl, ← kW_len (dA := fun k => if k = 20 then k19 else if k = 21 then k2 else if k = 23 then k65 else if k = 24 then k11 else k62) (ad := fun h => if 1000000 ≤ h then hiA h else [h0, z1, z2, z3, z4, z5, z6, z7, z8, z9, z10, z11, z12, z13, z14, z15, z16, z17, z18, z19, z20, z21, z22, z23, z24, z25, z26, z27, z28, z29, z30, z31, z32, z33, z34, z35, z36, z37, z38, z39, z40, z41, z42, z43, z44, z45, z46, z47, z48, z49, z50, z51, z52, z53, z54, z55, z56, z57, z58, z59, z60, z61, z62, z63, z64, z65, z66, z67, z68, z69, z70, z71, z72, z73, z74, z75].getD h 0) (σ := Z0k)]; exact (List.getElem?_eq_some_iff.mp hq).1
    rw [kW_get (show k < Z0k.2.2.2.2.1 from hlt)] at hq
    cases hq
    match k, hlt with
    | 0, _ => exact hP 0 _ rfl
    | 1, _ => exact hP 1 _ rfl
    | 2, _ => exact hP 2 _ rfl
    | 3, _ => exact hP 3 _ rfl
    | 4, _ => exact hP 4 _ rfl
    | 5, _ => exact hP 5 _ rfl
    | 6, _ => exact hP 6 _ rfl
    | 7, _ => exact hP 7 _ rfl
    | 8, _ => exact hP 8 _ rfl
    | 9, _ => exact hP 9 _ rfl
    | 10, _ => exact hP 10 _ rfl
    | 11, _ =>
      have h11 := hP 11 _ rfl
      refine Eq.trans h11 (congrArg some (vp_cell_re (f' := fa) (fun j hj => ?_)))
      have hj : j < 4 := hj
      match j, hj with
      | 0, _ => exact hf.1
      | 1, _ => exact hf.2.1
      | 2, _ => exact hf.2.2.1
      | 3, _ => exact hf.2.2.2
    | 12, _ => exact hP 12 _ rfl
    | 13, _ => exact hP 13 _ rfl
    | 14, _ => exact hP 14 _ rfl
    | 15, _ => exact hP 15 _ rfl
    | 16, _ => exact hP 16 _ rfl
    | 17, _ => exact hP 17 _ rfl
    | 18, _ => exact hP 18 _ rfl
    | 19, _ => exact hP 19 _ rfl
    | 20, _ => exact hP 20 _ rfl
    | 21, _ => exact hP 21 _ rfl
    | 22, _ => exact hP 22 _ rfl
    | 23, _ => exact hP 23 _ rfl
    | 24, _ => exact hP 24 _ rfl
    | 25, _ => exact hP 25 _ rfl
    | 26, _ => exact hP 26 _ rfl
    | 27, _ => exact hP 27 _ rfl
    | 28, _ => exact hP 28 _ rfl
    | 29, _ => exact hP 29 _ rfl
    | 30, _ => exact hP 30 _ rfl
    | 31, _ => exact hP 31 _ rfl
    | 32, _ => exact hP 32 _ rfl
    | 33, _ => exact hP 33 _ rfl
    | 34, _ => exact hP 34 _ rfl
    | 35, _ => exact hP 35 _ rfl
    | 36, _ => exact hP 36 _ rfl
    | 37, _ => exact hP 37 _ rfl
    | 38, _ => exact hP 38 _ rfl
    | 39, _ => exact hP 39 _ rfl
    | 40, _ => exact hP 40 _ rfl
    | 41, _ => exact hP 41 _ rfl
    | 42, _ => exact hP 42 _ rfl
    | 43, _ => exact hP 43 _ rfl
    | 44, _ => exact hP 44 _ rfl
    | 45, _ => exact hP 45 _ rfl
    | 46, _ => exact hP 46 _ rfl
    | 47, _ => exact hP 47 _ rfl
    | 48, _ => exact hP 48 _ rfl
    | 49, _ => exact hP 49 _ rfl
    | 50, _ => exact hP 50 _ rfl
    | 51, _ => exact hP 51 _ rfl
    | 52, _ => exact hP 52 _ rfl
    | 53, _ => exact hP 53 _ rfl
    | 54, _ => exact hP 54 _ rfl
    | 55, _ => exact hP 55 _ rfl
    | 56, _ => exact hP 56 _ rfl
    | 57, _ => exact hP 57 _ rfl
    | 58, _ => exact hP 58 _ rfl
    | 59, _ => exact hP 59 _ rfl
    | 60, _ => exact hP 60 _ rfl
    | 61, _ => exact hP 61 _ rfl
    | 62, _ => exact hP 62 _ rfl
    | 63, _ => exact hP 63 _ rfl
    | 64, _ => exact hP 64 _ rfl
    | 65, _ => exact hP 65 _ rfl
    | 66, _ => exact hP 66 _ rfl
    | 67, _ => exact hP 67 _ rfl
    | 68, _ => exact hP 68 _ rfl
    | 69, _ => exact hP 69 _ rfl
    | 70, _ => exact hP 70 _ rfl
    | 71, _ => exact hP 71 _ rfl
    | 72, _ => exact hP 72 _ rfl
    | 73, _ => exact hP 73 _ rfl
    | 74, _ => exact hP 74 _ rfl
    | 75, _ => exact hP 75 _ rfl
    | k + 76, hk => exact absurd hk (by omega)
  · have at' : ∀ k, k < 76 → ∃ w, ([(h0, .inr (9, [.ref z1, .ref z3, .ref z11, .ref z48, .ref z53, .ref z59, .ref z67, .ref z70, .ref z71, .ref z75, .ref z5, .ref z7, .ref z9, .int 0, .int 0, .int 0, .int (-1), .int 1])), (z1, .inr (0, [.int 65540, .ref z2, .int 0, .int 0])), (z2, .inl (k2, 64, .inl (fun _ => 0))), (z3, .inr (0, [.int 0, .ref z4, .int 0, .int 0])), (z4, .inl (k2, 64, .inl (fun _ => 0))), (z5, .inr (0, [.int 67108864, .ref z6, .int 0, .int 0])), (z6, .inl (k2, 64, .inl (fun _ => 0))), (z7, .inr (0, [.int 67108864, .ref z8, .int 0, .int 0])), (z8, .inl (k2, 64, .inl (fun _ => 0))), (z9, .inr (0, [.int 67108864, .ref z10, .int 0, .int 0])), (z10, .inl (k2, 64, .inl (fun _ => 0))), (z11, .inl (k11, 4, .inr (.inr (.inr (.inr fa))))), (z12, .inr (1, [.int 1, .ref z13, .ref z15, .ref z17, .int 0, .int 0, .int 0, .int 0, .ref z19, .int 0, .ref z20, .int 0])), (z13, .inr (0, [.int 131076, .ref z14, .int 0, .int 0])), (z14, .inl (k2, 64, .inl (fun _ => 0))), (z15, .inr (0, [.int 65536, .ref z16, .int 0, .int 0])), (z16, .inl (k2, 64, .inl (fun _ => 0))), (z17, .inr (0, [.int 67108864, .ref z18, .int 0, .int 0])), (z18, .inl (k2, 64, .inl (fun _ => 0))), (z19, .inl (k19, 64, .inl (fun _ => 0))), (z20, .inl (k19, 32, .inl (fun _ => 0))), (z21, .inr (1, [.int 1, .ref z22, .ref z24, .ref z26, .int 0, .int 0, .int 0, .int 0, .ref z28, .int 0, .ref z29, .int 0])), (z22, .inr (0, [.int 131076, .ref z23, .int 0, .int 0])), (z23, .inl (k2, 64, .inl (fun _ => 0))), (z24, .inr (0, [.int 65536, .ref z25, .int 0, .int 0])), (z25, .inl (k2, 64, .inl (fun _ => 0))), (z26, .inr (0, [.int 67108864, .ref z27, .int 0, .int 0])), (z27, .inl (k2, 64, .inl (fun _ => 0))), (z28, .inl (k19, 64, .inl (fun _ => 0))), (z29, .inl (k19, 32, .inl (fun _ => 0))), (z30, .inr (1, [.int 1, .ref z31, .ref z33, .ref z35, .int 0, .int 0, .int 0, .int 0, .ref z37, .int 0, .ref z38, .int 0])), (z31, .inr (0, [.int 131076, .ref z32, .int 0, .int 0])), (z32, .inl (k2, 64, .inl (fun _ => 0))), (z33, .inr (0, [.int 65536, .ref z34, .int 0, .int 0])), (z34, .inl (k2, 64, .inl (fun _ => 0))), (z35, .inr (0, [.int 67108864, .ref z36, .int 0, .int 0])), (z36, .inl (k2, 64, .inl (fun _ => 0))), (z37, .inl (k19, 64, .inl (fun _ => 0))), (z38, .inl (k19, 32, .inl (fun _ => 0))), (z39, .inr (1, [.int 1, .ref z40, .ref z42, .ref z44, .int 0, .int 0, .int 0, .int 0, .ref z46, .int 0, .ref z47, .int 0])), (z40, .inr (0, [.int 131076, .ref z41, .int 0, .int 0])), (z41, .inl (k2, 64, .inl (fun _ => 0))), (z42, .inr (0, [.int 65536, .ref z43, .int 0, .int 0])), (z43, .inl (k2, 64, .inl (fun _ => 0))), (z44, .inr (0, [.int 67108864, .ref z45, .int 0, .int 0])), (z45, .inl (k2, 64, .inl (fun _ => 0))), (z46, .inl (k19, 64, .inl (fun _ => 0))), (z47, .inl (k19, 32, .inl (fun _ => 0))), (z48, .inr (2, [.ref z49, .ref z50, .ref z51, .ref z52, .int 0])), (z49, .inl (k2, 1024, .inl (fun _ => 0))), (z50, .inl (k19, 128, .inl (fun _ => 0))), (z51, .inl (k19, 128, .inl (fun _ => 0))), (z52, .inl (k19, 1024, .inl (fun _ => 0))), (z53, .inr (3, [.ref z48, .ref z54, .ref z55, .ref z56, .int 0, .int 0, .ref z57, .null, .null, .long 0, .long 0, .int 0, .int 0, .int 0, .int 0, .int 0, .long 0])), (z54, .inl (k19, 1024, .inl (fun _ => 0))), (z55, .inl (k19, 1024, .inl (fun _ => 0))), (z56, .inl (k2, 0, .inl (fun _ => 0))), (z57, .inr (0, [.int 0, .ref z58, .int 0, .int 0])), (z58, .inl (k2, 64, .inl (fun _ => 0))), (z59, .inr (4, [.ref z48, .ref z53, .ref z11, .ref z60, .ref z61, .ref z62, .int 0, .ref z63, .ref z64, .int 0, .ref z65, .ref z66, .int 0, .int 0, .int 0, .int 0, .long 0, .int 0, .int 0])), (z60, .inl (k19, 64, .inl (fun _ => 0))), (z61, .inl (k19, 64, .inl (fun _ => 0))), (z62, .inl (k62, 64, .inr (.inr (.inr (.inr (fun _ => none)))))), (z63, .inl (k2, 64, .inl (fun _ => 0))), (z64, .inl (k2, 0, .inl (fun _ => 0))), (z65, .inl (k65, 64, .inr (.inl (fun _ => 0)))), (z66, .inl (k65, 0, .inr (.inl (fun _ => 0)))), (z67, .inr (5, [.ref z53, .ref z59, .ref z68, .int 0, .int 0, .int 0, .int 0])), (z68, .inr (0, [.int 32, .ref z69, .int 0, .int 0])), (z69, .inl (k2, 64, .inl (fun _ => 0))), (z70, .inr (6, [.ref z48, .ref z53, .ref z59])), (z71, .inr (7, [.ref z48, .ref z53, .ref z59, .ref z72, .ref z74, .int 0])), (z72, .inr (0, [.int 32, .ref z73, .int 0, .int 0])), (z73, .inl (k2, 64, .inl (fun _ => 0))), (z74, .inl (k19, 64, .inl (fun _ => 0))), (z75, .inr (8, [.ref z48, .ref z53, .ref z59, .int 0, .int 0, .int 0, .int 0, .int 0, .int 0]))] : va_W)[k]? = some ([h0, z1, z2, z3, z4, z5, z6, z7, z8, z9, z10, z11, z12, z13, z14, z15, z16, z17, z18, z19, z20, z21, z22, z23, z24, z25, z26, z27, z28, z29, z30, z31, z32, z33, z34, z35, z36, z37, z38, z39, z40, z41, z42, z43, z44, z45, z46, z47, z48, z49, z50, z51, z52, z53, z54, z55, z56, z57, z58, z59, z60, z61, z62, z63, z64, z65, z66, z67, z68, z69, z70, z71, z72, z73, z74, z75].getD k 0, w) := by
      intro k hk
      match k, hk with
      | 0, _ => exact ⟨_, rfl⟩
      | 1, _ => exact ⟨_, rfl⟩
      | 2, _ => exact ⟨_, rfl⟩
      | 3, _ => exact ⟨_, rfl⟩
      | 4, _ => exact ⟨_, rfl⟩
      | 5, _ => exact ⟨_, rfl⟩
      | 6, _ => exact ⟨_, rfl⟩
      | 7, _ => exact ⟨_, rfl⟩
      | 8, _ => exact ⟨_, rfl⟩
      | 9, _ => exact ⟨_, rfl⟩
      | 10, _ => exact ⟨_, rfl⟩
      | 11, _ => exact ⟨_, rfl⟩
      | 12, _ => exact ⟨_, rfl⟩
      | 13, _ => exact ⟨_, rfl⟩
      | 14, _ => exact ⟨_, rfl⟩
      | 15, _ => exact ⟨_, rfl⟩
      | 16, _ => exact ⟨_, rfl⟩
      | 17, _ => exact ⟨_, rfl⟩
      | 18, _ => exact ⟨_, rfl⟩
      | 19, _ => exact ⟨_, rfl⟩
      | 20, _ => exact ⟨_, rfl⟩
      | 21, _ => exact ⟨_, rfl⟩
      | 22, _ => exact ⟨_, rfl⟩
      | 23, _ => exact ⟨_, rfl⟩
      | 24, _ => exact ⟨_, rfl⟩
      | 25, _ => exact ⟨_, rfl⟩
      | 26, _ => exact ⟨_, rfl⟩
      | 27, _ => exact ⟨_, rfl⟩
      | 28, _ => exact ⟨_, rfl⟩
      | 29, _ => exact ⟨_, rfl⟩
      | 30, _ => exact ⟨_, rfl⟩
      | 31, _ => exact ⟨_, rfl⟩
      | 32, _ => exact ⟨_, rfl⟩
      | 33, _ => exact ⟨_, rfl⟩
      | 34, _ => exact ⟨_, rfl⟩
      | 35, _ => exact ⟨_, rfl⟩
      | 36, _ => exact ⟨_, rfl⟩
      | 37, _ => exact ⟨_, rfl⟩
      | 38, _ => exact ⟨_, rfl⟩
      | 39, _ => exact ⟨_, rfl⟩
      | 40, _ => exact ⟨_, rfl⟩
      | 41, _ => exact ⟨_, rfl⟩
      | 42, _ => exact ⟨_, rfl⟩
      | 43, _ => exact ⟨_, rfl⟩
      | 44, _ => exact ⟨_, rfl⟩
      | 45, _ => exact ⟨_, rfl⟩
      | 46, _ => exact ⟨_, rfl⟩
      | 47, _ => exact ⟨_, rfl⟩
      | 48, _ => exact ⟨_, rfl⟩
      | 49, _ => exact ⟨_, rfl⟩
      | 50, _ => exact ⟨_, rfl⟩
      | 51, _ => exact ⟨_, rfl⟩
      | 52, _ => exact ⟨_, rfl⟩
      | 53, _ => exact ⟨_, rfl⟩
      | 54, _ => exact ⟨_, rfl⟩
      | 55, _ => exact ⟨_, rfl⟩
      | 56, _ => exact ⟨_, rfl⟩
      | 57, _ => exact ⟨_, rfl⟩
      | 58, _ => exact ⟨_, rfl⟩
      | 59, _ => exact ⟨_, rfl⟩
      | 60, _ => exact ⟨_, rfl⟩
      | 61, _ => exact ⟨_, rfl⟩
      | 62, _ => exact ⟨_, rfl⟩
      | 63, _ => exact ⟨_, rfl⟩
      | 64, _ => exact ⟨_, rfl⟩
      | 65, _ => exact ⟨_, rfl⟩
      | 66, _ => exact ⟨_, rfl⟩
      | 67, _ => exact ⟨_, rfl⟩
      | 68, _ => exact ⟨_, rfl⟩
      | 69, _ => exact ⟨_, rfl⟩
      | 70, _ => exact ⟨_, rfl⟩
      | 71, _ => exact ⟨_, rfl⟩
      | 72, _ => exact ⟨_, rfl⟩
      | 73, _ => exact ⟨_, rfl⟩
      | 74, _ => exact ⟨_, rfl⟩
      | 75, _ => exact ⟨_, rfl⟩
      | k + 76, hk => exact absurd hk (by omega)
    have kw' : ∀ (i : Nat) (p : Nat × va_E), (kW (fun k => if k = 20 then k19 else if k = 21 then k2 else if k = 23 then k65 else if k = 24 then k11 else k62) (fun h => if 1000000 ≤ h then hiA h else [h0, z1, z2, z3, z4, z5, z6, z7, z8, z9, z10, z11, z12, z13, z14, z15, z16, z17, z18, z19, z20, z21, z22, z23, z24, z25, z26, z27, z28, z29, z30, z31, z32, z33, z34, z35, z36, z37, z38, z39, z40, z41, z42, z43, z44, z45, z46, z47, z48, z49, z50, z51, z52, z53, z54, z55, z56, z57, z58, z59, z60, z61, z62, z63, z64, z65, z66, z67, z68, z69, z70, z71, z72, z73, z74, z75].getD h 0) Z0k)[i]? = some p → i < 76 ∧ p.1 = [h0, z1, z2, z3, z4, z5, z6, z7, z8, z9, z10, z11, z12, z13, z14, z15, z16, z17, z18, z19, z20, z21, z22, z23, z24, z25, z26, z27, z28, z29, z30, z31, z32, z33, z34, z35, z36, z37, z38, z39, z40, z41, z42, z43, z44, z45, z46, z47, z48, z49, z50, z51, z52, z53, z54, z55, z56, z57, z58, z59, z60, z61, z62, z63, z64, z65, z66, z67, z68, z69, z70, z71, z72, z73, z74, z75].getD i 0 := by
      intro i p hp
      have hlt : i < 76 := by rw [show (76 : Nat) = Z0k.2.2.2.2.1 from rfl, ← kW_len (dA := fun k => if k = 20 then k19 else if k = 21 then k2 else if k = 23 then k65 else if k = 24 then k11 else k62) (ad := fun h => if 1000000 ≤ h then hiA h else [h0, z1, z2, z3, z4, z5, z6, z7, z8, z9, z10, z11, z12, z13, z14, z15, z16, z17, z18, z19, z20, z21, z22, z23, z24, z25, z26, z27, z28, z29, z30, z31, z32, z33, z34, z35, z36, z37, z38, z39, z40, z41, z42, z43, z44, z45, z46, z47, z48, z49, z50, z51, z52, z53, z54, z55, z56, z57, z58, z59, z60, z61, z62, z63, z64, z65, z66, z67, z68, z69, z70, z71, z72, z73, z74, z75].getD h 0) (σ := Z0k)]; exact (List.getElem?_eq_some_iff.mp hp).1
      rw [kW_get (show i < Z0k.2.2.2.2.1 from hlt)] at hp
      cases hp
      exact ⟨hlt, if_neg (by omega)⟩
    refine ⟨fun i j p q h1 h2 e => ?_, fun k q h => ?_⟩
    · obtain ⟨l1, e1⟩ := kw' i p h1
      obtain ⟨l2, e2⟩ := kw' j q h2
      obtain ⟨w1, g1⟩ := at' i l1
      obtain ⟨w2, g2⟩ := at' j l2
      exact hD.1 i j _ _ g1 g2 (by show List.getD _ i 0 = List.getD _ j 0; rw [← e1, ← e2]; exact e)
    · obtain ⟨l1, e1⟩ := kw' k q h
      obtain ⟨w1, g1⟩ := at' k l1
      rw [e1]; exact hD.2 k _ g1
end KFR2
