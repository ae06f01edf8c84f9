/-! REASONING ABOUT THE SMALL MACHINE -/
theorem run_mono {c1 c2 : AC} (hc : ∀ y a h z, c1 y a h = some z → c2 y a h = some z) {P : List IR} : ∀ (n n' i : Nat) (L S : List Value) (h : AH) (z : Option Value × AH), n ≤ n' → run c1 P n i L S h = some z → run c2 P n' i L S h = some z
  | 0, n', i, L, S, h, z, _, q => by cases q
  | n + 1, 0, i, L, S, h, z, hn, q => by omega
  | n + 1, n' + 1, i, L, S, h, z, hn, q => by
    have hn' : n ≤ n' := by omega
    unfold run at q ⊢
    split at q
    · cases q
    · rename_i r hr
      split at q
      · rename_i h1
        simp only [h1, if_true]
        exact q
      · rename_i h1
        simp only [h1]
        split at q
        · rename_i h2
          simp only [h2, if_true]
          split at q
          · obtain ⟨g1, g2⟩ := guardo_some q
            obtain ⟨w, q3, q4⟩ := Option.bind_eq_some_iff.mp g2
            unfold guardo
            rw [if_neg (by simp), if_pos g1]
            exact Option.bind_eq_some_iff.mpr ⟨w, hc _ _ _ _ q3, run_mono hc n n' _ _ _ _ _ hn' q4⟩
          · cases q
        · rename_i h2
          simp only [h2]
          obtain ⟨w, q3, q4⟩ := Option.bind_eq_some_iff.mp q
          exact Option.bind_eq_some_iff.mpr ⟨w, q3, run_mono hc n n' _ _ _ _ _ hn' q4⟩
theorem callD_mono {ML : List MDt} {pr : Nat → Nat → AC} (hpm : ∀ d d' n n' y a h z, d ≤ d' → n ≤ n' → pr d n y a h = some z → pr d' n' y a h = some z) : ∀ (d d' n n' y : Nat) (a : List Value) (h : AH) (z : Option Value × AH), d ≤ d' → n ≤ n' → callD ML pr d n y a h = some z → callD ML pr d' n' y a h = some z
  | 0, d', n, n', y, a, h, z, _, _, q => by cases q
  | d + 1, 0, n, n', y, a, h, z, hd, _, q => by omega
  | d + 1, d' + 1, n, n', y, a, h, z, hd, hn, q => by
    unfold callD at q ⊢
    split at q
    · obtain ⟨g1, g2⟩ := guardo_some q
      obtain ⟨w, q3, q4⟩ := Option.bind_eq_some_iff.mp g2
      unfold guardo
      rw [if_pos g1]
      exact Option.bind_eq_some_iff.mpr ⟨w, run_mono (fun y a h z => callD_mono hpm d d' n n' y a h z (by omega) hn) n n' _ _ _ _ _ hn q3, q4⟩
    · exact hpm d d' n n' _ _ _ _ (by omega) hn q
/-- the calls of the law that are no methods of the list: 302 to 304, what of the class may throw; they run its code up to the throw -/
def xrun (d n : Nat) (P : List IR) (m : Nat) (a : List Value) (out : Nat) (h : AH) : Option (Option Value × AH) := match run (callD ML prm d n) P n 0 (lcs m a) [] h with
  | some (some (.int v), h') => some (some (.int 0), sJ h' out 0 v.toInt64)
  | some (some (.long v), h') => some (some (.int 0), sJ h' out 0 v)
  | some (some .null, h') => some (some (.int 1), mkC h' 12 0 6)
  | _ => none
def prX : Nat → Nat → AC := fun d n y a h => match y, a with
  | 302, [.ref x, .int a, .int b, .int c, .ref o] => guardo (decide (hK h x = 10 ∧ hK h o = 23 ∧ hN h o = 1)) (xrun d n P_xj 5 [.ref x, .int a, .int b, .int c] o h)
  | 303, [.ref x, .int a, .int b, .ref o] => guardo (decide (hK h x = 10 ∧ hK h o = 23 ∧ hN h o = 1)) (xrun d n P_xw 11 [.ref x, .int a, .int b] o h)
  | 304, [.ref x, .int a, .ref o] => guardo (decide (hK h x = 10 ∧ hK h o = 23 ∧ hN h o = 1)) (xrun d n P_xl 8 [.ref x, .int a] o h)
  | _, _ => prm d n y a h
theorem prm_mono : ∀ d d' n n' y a h z, d ≤ d' → n ≤ n' → prm d n y a h = some z → prm d' n' y a h = some z := fun _ _ _ _ _ _ _ _ _ _ q => q
theorem xrun_mono {d d' n n' : Nat} {P : List IR} {m : Nat} {a : List Value} {o : Nat} {h : AH} {z : Option Value × AH} (hd : d ≤ d') (hn : n ≤ n') (q : xrun d n P m a o h = some z) : xrun d' n' P m a o h = some z := by
  unfold xrun at q ⊢
  cases hr : run (callD ML prm d n) P n 0 (lcs m a) [] h with
  | none => rw [hr] at q; cases q
  | some w =>
    have := run_mono (fun y a h z => callD_mono prm_mono d d' n n' y a h z hd hn) n n' _ _ _ _ _ hn hr
    rw [hr] at q
    rw [this]
    exact q
theorem prX_mono : ∀ d d' n n' y a h z, d ≤ d' → n ≤ n' → prX d n y a h = some z → prX d' n' y a h = some z := by
  intro d d' n n' y a h z hd hn q
  unfold prX at q ⊢
  split at q
  · obtain ⟨g1, g2⟩ := guardo_some q
    unfold guardo; simp only [g1, if_true]; exact xrun_mono hd hn g2
  · obtain ⟨g1, g2⟩ := guardo_some q
    unfold guardo; simp only [g1, if_true]; exact xrun_mono hd hn g2
  · obtain ⟨g1, g2⟩ := guardo_some q
    unfold guardo; simp only [g1, if_true]; exact xrun_mono hd hn g2
  · exact q
def Wp (d : Nat) (P : List IR) (i : Nat) (L S : List Value) (h : AH) (Q : Option Value → AH → Prop) : Prop := ∃ n z, run (callD ML prX d n) P n i L S h = some z ∧ Q z.1 z.2
def Cl (d y : Nat) (a : List Value) (h : AH) (Q : Option Value → AH → Prop) : Prop := ∃ n z, callD ML prX d n y a h = some z ∧ Q z.1 z.2
section WPS
variable {d i : Nat} {P : List IR} {L S : List Value} {h : AH} {Q : Option Value → AH → Prop} {q : IR}
theorem Wp_plain {z : AS} (hq : P[i]? = some q) (h1 : isRet q.2.1 = false) (h2 : isCall q.2.1 = false) (hs : stp q.2.1 q.2.2.1 i L S h = some z) : Wp d P i L S h Q ↔ Wp d P z.1 z.2.1 z.2.2.1 z.2.2.2 Q := by
  constructor
  · rintro ⟨n, w, hr, hQ⟩
    cases n with
    | zero => cases hr
    | succ n =>
      refine ⟨n + 1, w, ?_, hQ⟩
      unfold run at hr
      simp only [hq, h1, h2, hs] at hr
      exact run_mono (fun _ _ _ _ h => h) n (n + 1) _ _ _ _ _ (by omega) (by simpa using hr)
  · rintro ⟨n, w, hr, hQ⟩
    refine ⟨n + 1, w, ?_, hQ⟩
    unfold run
    simp only [hq, h1, h2, hs]
    have := run_mono (fun y a h z => callD_mono (ML := ML) (pr := prX) prX_mono d d n (n + 1) y a h z (Nat.le_refl _) (by omega)) n n _ _ _ _ _ (Nat.le_refl _) hr
    simpa using this
theorem Wp_none (hq : P[i]? = some q) (h1 : isRet q.2.1 = false) (h2 : isCall q.2.1 = false) (hs : stp q.2.1 q.2.2.1 i L S h = none) : ¬ Wp d P i L S h Q := by
  rintro ⟨n, w, hr, hQ⟩
  cases n with
  | zero => cases hr
  | succ n =>
    unfold run at hr
    simp only [hq, h1, h2, hs] at hr
    simp at hr
theorem Wp_guard {z : AS} {b : Bool} (hq : P[i]? = some q) (h1 : isRet q.2.1 = false) (h2 : isCall q.2.1 = false) (hs : stp q.2.1 q.2.2.1 i L S h = guardo b (some z)) : Wp d P i L S h Q ↔ b = true ∧ Wp d P z.1 z.2.1 z.2.2.1 z.2.2.2 Q := by
  cases b with
  | true => 
    have := Wp_plain (d := d) (Q := Q) hq h1 h2 (hs.trans rfl)
    simpa using this
  | false =>
    have := Wp_none (d := d) (Q := Q) hq h1 h2 (hs.trans rfl)
    simp [this]
theorem Wp_if {z1 z2 : AS} {c : Prop} {dc : Decidable c} (hq : P[i]? = some q) (h1 : isRet q.2.1 = false) (h2 : isCall q.2.1 = false) (hs : stp q.2.1 q.2.2.1 i L S h = @ite _ c dc (some z1) (some z2)) : Wp d P i L S h Q ↔ (c → Wp d P z1.1 z1.2.1 z1.2.2.1 z1.2.2.2 Q) ∧ (¬ c → Wp d P z2.1 z2.2.1 z2.2.2.1 z2.2.2.2 Q) := by
  by_cases hc : c
  · rw [if_pos hc] at hs
    have := Wp_plain (d := d) (Q := Q) hq h1 h2 hs
    rw [this]
    exact ⟨fun w => ⟨fun _ => w, fun n => absurd hc n⟩, fun w => w.1 hc⟩
  · rw [if_neg hc] at hs
    have := Wp_plain (d := d) (Q := Q) hq h1 h2 hs
    rw [this]
    exact ⟨fun w => ⟨fun n => absurd n hc, fun _ => w⟩, fun w => w.2 hc⟩
theorem Wp_ret {v : Option Value} (hq : P[i]? = some q) (h1 : isRet q.2.1 = true) (hs : retv q.2.1 S = some v) : Wp d P i L S h Q ↔ Q v h := by
  constructor
  · rintro ⟨n, w, hr, hQ⟩
    cases n with
    | zero => cases hr
    | succ n =>
      unfold run at hr
      simp only [hq, h1, hs, if_true, Option.map_some, Option.some.injEq] at hr
      subst hr
      exact hQ
  · intro hQ
    refine ⟨1, (v, h), ?_, hQ⟩
    unfold run
    simp only [hq, h1, hs, if_true, Option.map_some]
theorem Wp_call {y k : Nat} {a S' : List Value} (hq : P[i]? = some q) (h1 : isRet q.2.1 = false) (h2 : isCall q.2.1 = true) (ho : q.2.2.1 = [y, k]) (hk : (decide (k ≤ S.length) && decide (((S.drop k).map fun v => v.category).sum ≤ 8)) = true) (ha : (S.take k).reverse = a) (hS : S.drop k = S') : Wp d P i L S h Q ↔ Cl d y a h (fun r h' => Wp d P (i + 1) L (r.toList ++ S') h' Q) := by
  subst ha; subst hS
  constructor
  · rintro ⟨n, w, hr, hQ⟩
    cases n with
    | zero => cases hr
    | succ n =>
      unfold run at hr
      simp only [hq, h1, h2, ho, if_true] at hr
      rw [if_neg (by simp)] at hr
      obtain ⟨-, hr⟩ := guardo_some hr
      obtain ⟨u, q3, q4⟩ := Option.bind_eq_some_iff.mp hr
      exact ⟨n + 1, u, q3, n + 1, w, run_mono (fun _ _ _ _ h => h) n (n + 1) _ _ _ _ _ (by omega) q4, hQ⟩
  · rintro ⟨n, u, q3, n', w, q4, hQ⟩
    refine ⟨max n n' + 1, w, ?_, hQ⟩
    unfold run
    simp only [hq, h1, h2, ho, if_true]
    rw [if_neg (by simp)]
    unfold guardo
    rw [if_pos hk]
    refine Option.bind_eq_some_iff.mpr ⟨u, callD_mono prX_mono d d n _ y _ h u (Nat.le_refl _) (by omega) q3, ?_⟩
    exact run_mono (fun y a h z => callD_mono (ML := ML) (pr := prX) prX_mono d d n' _ y a h z (Nat.le_refl _) (by omega)) n' _ _ _ _ _ _ (by omega) q4
end WPS
/-- a call is a run of the method's code -/
theorem Cl_method {d y : Nat} {a : List Value} {h : AH} {Q : Option Value → AH → Prop} {t : MDt} (ht : ML[y]? = some t) : Cl (d + 1) y a h Q ↔ rcv t a h = true ∧ Wp d t.2.2.2.2.2.2 0 (lcs t.2.2.1 a) [] h (fun r h' => rtk t.2.2.2.1 r = true ∧ Q r h') := by
  constructor
  · rintro ⟨n, z, q, hQ⟩
    obtain ⟨d', hd, h1, h2, h3⟩ := callD_inv q ht
    cases hd
    exact ⟨h1, n, z, h3, h2, hQ⟩
  · rintro ⟨h1, n, z, h3, h2, hQ⟩
    refine ⟨n, z, ?_, hQ⟩
    unfold callD
    simp only [ht]
    unfold guardo
    rw [if_pos h1, h3]
    simp [h2]
theorem Cl_mono {d d' y : Nat} {a : List Value} {h : AH} {Q : Option Value → AH → Prop} (hd : d ≤ d') (q : Cl d y a h Q) : Cl d' y a h Q := by
  obtain ⟨n, z, q, hQ⟩ := q
  exact ⟨n, z, callD_mono prX_mono d d' n n y a h z hd (Nat.le_refl _) q, hQ⟩
/-- what a method does is one thing alone -/
theorem Cl_iff {d y : Nat} {a : List Value} {h : AH} {r : Option Value} {h' : AH} (q : Cl d y a h (fun r0 h0 => r0 = r ∧ h0 = h')) {d' : Nat} (hd : d ≤ d') (Q : Option Value → AH → Prop) : Cl d' y a h Q ↔ Q r h' := by
  obtain ⟨n, z, q, rfl, rfl⟩ := q
  constructor
  · rintro ⟨n', z', q', hQ⟩
    have e1 := callD_mono prX_mono d d' n (max n n') y a h z hd (by omega) q
    have e2 := callD_mono prX_mono d' d' n' (max n n') y a h z' (Nat.le_refl _) (by omega) q'
    rw [e1] at e2
    cases e2
    exact hQ
  · intro hQ
    exact ⟨n, z, callD_mono prX_mono d d' n n y a h z hd (Nat.le_refl _) q, hQ⟩
theorem Cl_obj {d r : Nat} {h : AH} {Q : Option Value → AH → Prop} (hr : 100 ≤ r) : Cl (d + 1) 301 [.ref r] h Q ↔ Q none h := by
  have e : ∀ n, callD ML prX (d + 1) n 301 [.ref r] h = some (none, h) := fun n => by
    unfold callD
    simp only [show ML[301]? = none from rfl]
    show guardo (decide (100 ≤ r)) (some (none, h)) = _
    unfold guardo
    rw [if_pos (decide_eq_true hr)]
  constructor
  · rintro ⟨n, z, q, hQ⟩
    rw [e] at q
    cases q
    exact hQ
  · intro hQ
    exact ⟨0, _, e 0, hQ⟩
