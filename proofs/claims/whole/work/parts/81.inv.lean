--deps: 80.says
/-! THE HEAP AT THE START, BELOW 100 -/
def bFc : List Int32 := [0, 1, 2, 3, 4, (-1), (-1), (-1), 5, 6, 7, 8, 9, 10, 11, (-1), (-1), (-1), (-1), (-1), (-1), (-1), (-1), (-1)]
def rFc : List Int32 := [0, 3, 6, 9, 12, 15, 18, 19, (-1), (-1), (-1), (-1), (-1), (-1), (-1), (-1), (-1), (-1), (-1), (-1), (-1), (-1), (-1), (-1)]
def byT : List (List Int32) := [[112, 108, 97, 105, 110], [115, 104, 97, 109, 105, 110, 103], [97, 115, 107, 101, 100], [107, 110, 111, 119, 110], [114, 101, 97, 108], [111, 116, 104, 101, 114, 115], [102, 105, 108, 101], [97, 115, 107, 115], [104, 101, 97, 114, 100], [102, 101, 97, 114], [100, 111, 110, 101], [116, 114, 105, 99, 107], [104, 97, 98, 105, 116], [112, 108, 97, 99, 101], [110, 111, 105, 115, 101], [110, 111, 116], [97, 110, 100], [111, 114], [97, 115, 107], [102, 111, 114], [108, 105, 110, 101], [115, 97, 121, 115], [119, 104, 101, 110], []]
def I0 (xs : Nat → Int32) (a j : Nat) : Int32 := if a = 1 then xs j else if 2 ≤ a ∧ a < 26 then (if j = 1 then bFc.getD (a - 2) 0 else if j = 2 then rFc.getD (a - 2) 0 else 0) else if 51 ≤ a ∧ a < 75 then (byT.getD (a - 51) []).getD j 0 else 0
def R0 (a j : Nat) : Nat := if 2 ≤ a ∧ a < 26 then (if j = 0 then 25 + a else 0) else if a = 26 then 2 + j else if 27 ≤ a ∧ a < 51 then (if j = 0 then a + 24 else 0) else 0
def K0 (a : Nat) : Nat := if a = 1 then 44 else if 2 ≤ a ∧ a < 26 then 40 else if a = 26 then 41 else if 27 ≤ a ∧ a < 51 then 42 else if 51 ≤ a ∧ a < 75 then 45 else 99
def N0 (L a : Nat) : Nat := if a = 1 then L else if a = 26 then 24 else if 51 ≤ a ∧ a < 75 then (byT.getD (a - 51) []).length else 0
def h0 (L : Nat) (xs : Nat → Int32) : AH := (I0 xs, fun _ _ => 0, R0, K0, N0 L, 100, 0)
def SLY (L : Nat) (xs : Nat → Int32) (h : AH) : Prop := ∀ a, a < 100 → hK h a = K0 a ∧ hN h a = N0 L a ∧ hI h a = I0 xs a ∧ hR h a = R0 a
theorem SLY.fr {L : Nat} {xs : Nat → Int32} {S T : Nat → Prop} {h h' : AH} (x : SLY L xs h) (p : Fr S T h h') (q : ∀ a, S a → 100 ≤ a) : SLY L xs h' := by
  intro a ha
  obtain ⟨x1, x2, x3, x4⟩ := x a ha
  refine ⟨by rw [p.K]; exact x1, by rw [p.N]; exact x2, by rw [p.I (fun z => by have := q a z; omega)]; exact x3, ?_⟩
  rw [← x4]
  funext j
  exact p.R (by omega)
/-! WHAT HOLDS BETWEEN THE CLASS AND THE REFERENCE -/
/-- the plans -/
def IPl1 (h : AH) (p n : Nat) (ks : Nat → Nat) : Prop := n ≤ 12 ∧ hI h (154 + 4 * p) 3 = nI n ∧ hI h 353 p = nI n ∧ ∀ q, q < n → hI h (155 + 4 * p) q = nI (ks q) ∧ hI h 354 (12 * p + q) = nI (ks q) ∧ ks q < 4 ∧ hI h (156 + 4 * p) q = hI h 355 (12 * p + q) ∧ (ks q = 3 ↔ ¬ hI h 355 (12 * p + q) = -1) ∧ hI h (157 + 4 * p) q = hI h 356 (12 * p + q)
def IPl (h : AH) : Prop := ∀ p, p < 4 → ∃ n ks, IPl1 h p n ks
theorem IPl.fr {h h' : AH} (i : IPl h) (q : ∀ a, (154 ≤ a ∧ a < 170) ∨ (353 ≤ a ∧ a < 357) → hI h' a = hI h a) : IPl h' := by
  intro p hp
  unfold IPl1
  rw [q (154 + 4 * p) (by omega), q (155 + 4 * p) (by omega), q (156 + 4 * p) (by omega), q (157 + 4 * p) (by omega), q 353 (by omega), q 354 (by omega), q 355 (by omega), q 356 (by omega)]
  exact i p hp
/-- the tape -/
abbrev tch (c : Nat) : Prop := c = 10 ∨ (32 ≤ c ∧ c ≤ 126)
def ITp (h : AH) : Prop := ∃ n, n ≤ 1000 ∧ hI h 109 1 = nI n ∧ hI h 342 2 = nI n ∧ ∀ i, i < n → ∃ c, tch c ∧ hI h 110 i = nI c ∧ hI h 343 i = nI c
theorem ITp.fr {h h' : AH} (i : ITp h) (q : hI h' 109 1 = hI h 109 1) (q2 : hI h' 110 = hI h 110) (q3 : hI h' 343 = hI h 343) (q4 : hI h' 342 2 = hI h 342 2) : ITp h' := by
  unfold ITp; rw [q, q2, q3, q4]; exact i
/-- the body -/
def tldN (bd : Nat → Option (List Nat)) (l : Nat) : Nat := if (bd l).isSome then 1 else 0
def IBd (h : AH) : Prop := ∃ bd, XBd h bd ∧ MBA h bd ∧ hI h 123 2 = nI (tldN bd 0 + tldN bd 1 + tldN bd 2)
/-- the readers -/
def IRd (h : AH) : Prop := ∀ r, r < 4 → ∃ N c, XRd h (170 + 5 * r) N c ∧ MRd h r N c
/-- the sittings -/
def ISt1 (h : AH) (s n : Nat) (ks : Nat → Nat) : Prop := n ≤ 12 ∧ hI h (191 + 6 * s) 3 = nI n ∧ hI h 365 s = nI n ∧ hI h (190 + 6 * s) 2 = hI h 366 s ∧ 0 ≤ hI h 366 s ∧ (∀ q, q < n → hI h (192 + 6 * s) q = nI (ks q) ∧ hI h 367 (12 * s + q) = nI (ks q) ∧ ks q < 4 ∧ hI h (193 + 6 * s) q = hI h 368 (12 * s + q) ∧ (ks q = 3 ↔ ¬ hI h 368 (12 * s + q) = -1)) ∧ (∀ i, i < 3 * n → hI h (195 + 6 * s) i = hI h 369 (36 * s + i))
def ISt (h : AH) : Prop := ∀ s, s < 24 → ∃ n ks, ISt1 h s n ks
theorem ISt1.fr {h h' : AH} {s n : Nat} {ks : Nat → Nat} (i : ISt1 h s n ks) (hs : s < 24) (q : ∀ a, (190 + 6 * s ≤ a ∧ a < 196 + 6 * s) → hI h' a = hI h a) (q2 : hI h' 365 s = hI h 365 s) (q3 : hI h' 366 s = hI h 366 s) (q4 : ∀ k, k < 12 → hI h' 367 (12 * s + k) = hI h 367 (12 * s + k) ∧ hI h' 368 (12 * s + k) = hI h 368 (12 * s + k)) (q5 : ∀ k, k < 36 → hI h' 369 (36 * s + k) = hI h 369 (36 * s + k)) : ISt1 h' s n ks := by
  obtain ⟨i1, i2, i3, i4, i7, i5, i6⟩ := i
  unfold ISt1
  rw [q (191 + 6 * s) (by omega), q (190 + 6 * s) (by omega), q (192 + 6 * s) (by omega), q (193 + 6 * s) (by omega), q (195 + 6 * s) (by omega), q2, q3]
  refine ⟨i1, i2, i3, i4, i7, fun k hk => ?_, fun k hk => ?_⟩
  · rw [(q4 k (by omega)).1, (q4 k (by omega)).2]; exact i5 k hk
  · rw [q5 k (by omega)]; exact i6 k hk
/-- how many sittings -/
def ISn (h : AH) : Prop := ∃ n, n ≤ 24 ∧ hI h 105 1 = nI n ∧ hI h 342 30 = nI n
/-- confessions and papers: a row of counts that a tally at r and longs of the reference hold, below B -/
def tfl (i : Nat) : Nat := i - 5
def ITy1 (h : AH) (r J JB P PB B : Nat) : Prop := (∀ i, i < 8 → ∃ v, v ≤ B ∧ hI h (r + 1) i = nI v ∧ hJ h J (JB + i) = lN v) ∧ (∀ i, i < 4 → ∃ v, v ≤ B ∧ hI h r (3 + i) = nI v ∧ hJ h P (PB + i) = lN v)
theorem ITy1.fr {h h' : AH} {r J JB P PB B B' : Nat} (i : ITy1 h r J JB P PB B) (hB : B ≤ B') (q : hI h' (r + 1) = hI h (r + 1)) (q2 : hI h' r = hI h r) (q3 : hJ h' J = hJ h J) (q4 : hJ h' P = hJ h P) : ITy1 h' r J JB P PB B' := by
  unfold ITy1 at i ⊢
  rw [q, q2, q3, q4]
  exact ⟨fun k hk => by obtain ⟨v, a, b⟩ := i.1 k hk; exact ⟨v, by omega, b⟩, fun k hk => by obtain ⟨v, a, b⟩ := i.2 k hk; exact ⟨v, by omega, b⟩⟩
def ITy (B : Nat) (h : AH) : Prop := ITy1 h 105 372 0 373 0 B
/-- the marks -/
def IMk (B : Nat) (h : AH) : Prop := ∀ k, k < 4 → i01 (hI h 374 k) = true ∧ hI h (334 + 2 * k) 0 = hI h 374 k ∧ (∃ n, n ≤ 24 ∧ hI h (334 + 2 * k) 1 = nI n ∧ hI h 375 k = nI n) ∧ ITy1 h (334 + 2 * k) 376 (12 * k) 376 (12 * k + 8) B
theorem IMk.fr {B B' : Nat} {h h' : AH} (i : IMk B h) (hB : B ≤ B') (q : ∀ a, (334 ≤ a ∧ a < 342) ∨ a = 374 ∨ a = 375 → hI h' a = hI h a) (q2 : hJ h' 376 = hJ h 376) : IMk B' h' := by
  intro k hk
  obtain ⟨i0, i1, i2, i3⟩ := i k hk
  rw [q (334 + 2 * k) (by omega), q 374 (by omega), q 375 (by omega)]
  exact ⟨i0, i1, i2, i3.fr hB (q _ (by omega)) (q _ (by omega)) q2 q2⟩
/-- all of it, after c calls -/
def Inv (L : Nat) (xs : Nat → Int32) (c : Nat) (h : AH) : Prop := SLY L xs h ∧ XLY h ∧ MLY h ∧ (hK h 377 = 23 ∧ hN h 377 = 1) ∧ IPe h ∧ IIt h ∧ IPl h ∧ ITp h ∧ IBd h ∧ IRd h ∧ ISn h ∧ ISt h ∧ ITy (9999 * c) h ∧ IMk (9999 * c) h ∧ (378 ≤ hz h ∧ hz h ≤ 378 + c ∧ hu h ≤ 40000 + 1000 * c)
/-- cells that no call needs to find as they were -/
def scr (a : Nat) : Prop := a = 126 ∨ (128 ≤ a ∧ a ≤ 145) ∨ a = 173 ∨ a = 178 ∨ a = 183 ∨ a = 188 ∨ a = 342 ∨ (363 ≤ a ∧ a ≤ 371)
theorem Inv.keep {L : Nat} {xs : Nat → Int32} {c c' : Nat} {S T : Nat → Prop} {h h' : AH} (i : Inv L xs c h) (hc : c ≤ c') (p : Fr S T h h') (q : ∀ a, S a → scr a) (qt : ∀ a, T a → a = 346) (m2 : hI h' 342 2 = hI h 342 2) (m15 : hI h' 342 15 = hI h 342 15) (m30 : hI h' 342 30 = hI h 342 30)
    (s5 : ∀ s, s < 24 → hI h' 365 s = hI h 365 s ∧ hI h' 366 s = hI h 366 s) (s7 : ∀ j, j < 288 → hI h' 367 j = hI h 367 j ∧ hI h' 368 j = hI h 368 j) (s9 : ∀ j, j < 864 → hI h' 369 j = hI h 369 j) : Inv L xs c' h' := by
  obtain ⟨i1, i2, i3, i4, i5, i6, i7, i8, i9, i10, i11, i12, i13, i14, i15⟩ := i
  have e : ∀ a, ¬ scr a → hI h' a = hI h a := fun a z => p.I (fun w => z (q a w))
  have eJ : ∀ a, a ≠ 346 → hJ h' a = hJ h a := fun a z => p.J (fun w => z (qt a w))
  refine ⟨i1.fr p (fun a z => by have := q a z; unfold scr at this; omega), i2.fr p, i3.fr p, by rw [p.K, p.N]; exact i4, i5.fr (fun a z => e a (by unfold scr; omega)), i6.fr (by rw [e 122 (by unfold scr; omega)]) m15, i7.fr (fun a z => e a (by unfold scr; omega)), i8.fr (by rw [e 109 (by unfold scr; omega)]) (e 110 (by unfold scr; omega)) (e 343 (by unfold scr; omega)) m2, ?_, ?_, ?_, ?_, ?_, ?_, ?_⟩
  · obtain ⟨bd, b1, b2, b3⟩ := i9
    exact ⟨bd, b1.fr p (fun a z => by have := q a z; unfold scr at this; omega), b2.fr p (fun a z => by have := q a z; unfold scr at this; omega), by rw [e 123 (by unfold scr; omega)]; exact b3⟩
  · intro r hr
    obtain ⟨N, cc, r1, r2⟩ := i10 r hr
    exact ⟨N, cc, r1.fr p (fun a z => by have := q a z; unfold scr at this; omega), r2.fr p (fun a z => by have := q a z; unfold scr at this; omega)⟩
  · unfold ISn
    rw [e 105 (by unfold scr; omega), m30]
    exact i11
  · intro s hs
    obtain ⟨n, ks, s1⟩ := i12 s hs
    exact ⟨n, ks, s1.fr hs (fun a z => e a (by unfold scr; omega)) (s5 s hs).1 (s5 s hs).2 (fun k hk => s7 _ (by omega)) (fun k hk => s9 _ (by omega))⟩
  · exact i13.fr (by omega) (e _ (by unfold scr; omega)) (e _ (by unfold scr; omega)) (eJ _ (by decide)) (eJ _ (by decide))
  · exact i14.fr (by omega) (fun a z => e a (by unfold scr; omega)) (eJ _ (by decide))
  · rw [p.z, p.u]
    exact ⟨i15.1, by omega, by omega⟩
