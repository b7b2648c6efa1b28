/-! the items' nesting: the stack of the items that stand begun (opener, its ELSE or 0) before item i -/
abbrev fw_Op (K : Nat → Int32) (i : Nat) : Prop := K i = 4 ∨ K i = 5 ∨ K i = 6
def fw_st (K : Nat → Int32) : Nat → List (Nat × Nat)
  | 0 => []
  | i + 1 =>
    if K i = 4 ∨ K i = 5 ∨ K i = 6 then (i, 0) :: fw_st K i
    else if K i = 12 then (match fw_st K i with | [] => [] | (o, _) :: s => (o, i) :: s)
    else if K i = 13 then (fw_st K i).tail
    else fw_st K i
theorem fw_st_op {K : Nat → Int32} {i : Nat} (h : fw_Op K i) : fw_st K (i + 1) = (i, 0) :: fw_st K i := by
  show (if K i = 4 ∨ K i = 5 ∨ K i = 6 then _ else _) = _
  exact if_pos h
theorem fw_nop {K : Nat → Int32} {i : Nat} {c : Int32} (h : K i = c) (h4 : c ≠ 4) (h5 : c ≠ 5) (h6 : c ≠ 6) : ¬ fw_Op K i := by
  intro z
  rcases z with z | z | z
  · exact h4 (h.symm.trans z)
  · exact h5 (h.symm.trans z)
  · exact h6 (h.symm.trans z)
theorem fw_st_el {K : Nat → Int32} {i o e : Nat} {s : List (Nat × Nat)} (h : K i = 12) (hs : fw_st K i = (o, e) :: s) : fw_st K (i + 1) = (o, i) :: s := by
  show (if K i = 4 ∨ K i = 5 ∨ K i = 6 then _ else if K i = 12 then (match fw_st K i with | [] => [] | (o, _) :: s => (o, i) :: s) else _) = _
  rw [if_neg (fw_nop h (by decide) (by decide) (by decide)), if_pos h, hs]
theorem fw_st_en {K : Nat → Int32} {i o e : Nat} {s : List (Nat × Nat)} (h : K i = 13) (hs : fw_st K i = (o, e) :: s) : fw_st K (i + 1) = s := by
  show (if K i = 4 ∨ K i = 5 ∨ K i = 6 then _ else if K i = 12 then _ else if K i = 13 then (fw_st K i).tail else _) = _
  rw [if_neg (fw_nop h (by decide) (by decide) (by decide)), if_neg (by rw [h]; decide), if_pos h, hs]
  rfl
theorem fw_st_no {K : Nat → Int32} {i : Nat} (h1 : ¬ fw_Op K i) (h2 : ¬ K i = 12) (h3 : ¬ K i = 13) : fw_st K (i + 1) = fw_st K i := by
  show (if K i = 4 ∨ K i = 5 ∨ K i = 6 then _ else if K i = 12 then _ else if K i = 13 then _ else fw_st K i) = _
  rw [if_neg h1, if_neg h2, if_neg h3]
theorem fw_st_congr {K K' : Nat → Int32} : ∀ i, (∀ j, j < i → K j = K' j) → fw_st K i = fw_st K' i := by
  intro i
  induction i with
  | zero => intro _; rfl
  | succ i ih =>
    intro h
    have e := ih (fun j hj => h j (by omega))
    have ek := h i (by omega)
    unfold fw_st
    rw [e, ek]
/-- every item up to N belongs -/
def fw_Wf (K : Nat → Int32) (N : Nat) : Prop := ∀ i, i < N →
  (fw_Op K i → (fw_st K i).length < 4) ∧ (K i = 12 → ∃ o s, fw_st K i = (o, 0) :: s ∧ K o = 5) ∧ (K i = 13 → ∃ o e s, fw_st K i = (o, e) :: s)
theorem fw_Wf_0 (K : Nat → Int32) : fw_Wf K 0 := fun i h => absurd h (Nat.not_lt_zero i)
theorem fw_Wf_le {K : Nat → Int32} {N M : Nat} (h : fw_Wf K N) (hm : M ≤ N) : fw_Wf K M := fun i hi => h i (by omega)
theorem fw_Wf_s {K : Nat → Int32} {N : Nat} (h : fw_Wf K N) (h1 : fw_Op K N → (fw_st K N).length < 4) (h2 : K N = 12 → ∃ o s, fw_st K N = (o, 0) :: s ∧ K o = 5) (h3 : K N = 13 → ∃ o e s, fw_st K N = (o, e) :: s) : fw_Wf K (N + 1) := by
  intro i hi
  rcases Nat.lt_or_ge i N with z | z
  · exact h i z
  · have e : i = N := by omega
    subst e
    exact ⟨h1, h2, h3⟩
theorem fw_hd {K : Nat → Int32} {N : Nat} (W : fw_Wf K N) : ∀ i, i ≤ N → ∀ o e s, fw_st K i = (o, e) :: s → o < i ∧ fw_Op K o ∧ (e = 0 ∨ (o < e ∧ e < i ∧ K e = 12 ∧ K o = 5 ∧ fw_st K e = (o, 0) :: fw_st K o)) ∧ s = fw_st K o := by
  intro i
  induction i using Nat.strongRecOn with
  | ind i ih =>
    intro hi o e s h
    cases i with
    | zero => cases h
    | succ i =>
      by_cases h1 : fw_Op K i
      · rw [fw_st_op h1] at h
        cases h
        exact ⟨by omega, h1, Or.inl rfl, rfl⟩
      · by_cases h2 : K i = 12
        · obtain ⟨o', s', e1, e2⟩ := (W i (by omega)).2.1 h2
          rw [fw_st_el h2 e1] at h
          injection h with q1 q2
          injection q1 with q3 q4
          rw [q3, q2] at e1
          rw [q3] at e2
          obtain ⟨a, b, c, d⟩ := ih i (by omega) (by omega) o 0 s e1
          rw [← q4]
          exact ⟨by omega, b, Or.inr ⟨a, by omega, h2, e2, by rw [← d]; exact e1⟩, d⟩
        · by_cases h3 : K i = 13
          · obtain ⟨o', e', s', e1⟩ := (W i (by omega)).2.2 h3
            rw [fw_st_en h3 e1] at h
            obtain ⟨a, b, c, d⟩ := ih i (by omega) (by omega) o' e' s' e1
            rw [d] at h
            obtain ⟨a2, b2, c2, d2⟩ := ih o' (by omega) (by omega) o e s h
            refine ⟨by omega, b2, ?_, d2⟩
            rcases c2 with c2 | c2
            · exact Or.inl c2
            · exact Or.inr ⟨c2.1, by omega, c2.2.2⟩
          · rw [fw_st_no h1 h2 h3] at h
            obtain ⟨a2, b2, c2, d2⟩ := ih i (by omega) (by omega) o e s h
            refine ⟨by omega, b2, ?_, d2⟩
            rcases c2 with c2 | c2
            · exact Or.inl c2
            · exact Or.inr ⟨c2.1, by omega, c2.2.2⟩
theorem fw_mem_lt {K : Nat → Int32} {N : Nat} (W : fw_Wf K N) : ∀ i, i ≤ N → ∀ o e, (o, e) ∈ fw_st K i → o < i := by
  intro i
  induction i using Nat.strongRecOn with
  | ind i ih =>
    intro hi o e h
    cases hs : fw_st K i with
    | nil => rw [hs] at h; cases h
    | cons x s =>
      obtain ⟨o1, e1⟩ := x
      obtain ⟨a, b, c, d⟩ := fw_hd W i hi o1 e1 s hs
      rw [hs] at h
      rcases List.mem_cons.mp h with z | z
      · cases z; exact a
      · rw [d] at z
        have := ih o1 a (by omega) o e z
        omega
theorem fw_mem_op {K : Nat → Int32} {N : Nat} (W : fw_Wf K N) : ∀ i, i ≤ N → ∀ o e, (o, e) ∈ fw_st K i → fw_Op K o ∧ (e = 0 ∨ (e < i ∧ K e = 12 ∧ fw_st K e = (o, 0) :: fw_st K o)) := by
  intro i
  induction i using Nat.strongRecOn with
  | ind i ih =>
    intro hi o e h
    cases hs : fw_st K i with
    | nil => rw [hs] at h; cases h
    | cons x s =>
      obtain ⟨o1, e1⟩ := x
      obtain ⟨a, b, c, d⟩ := fw_hd W i hi o1 e1 s hs
      rw [hs] at h
      rcases List.mem_cons.mp h with z | z
      · cases z
        refine ⟨b, ?_⟩
        rcases c with c | c
        · exact Or.inl c
        · exact Or.inr ⟨c.2.1, c.2.2.1, c.2.2.2.2⟩
      · rw [d] at z
        obtain ⟨p, q⟩ := ih o1 a (by omega) o e z
        refine ⟨p, ?_⟩
        rcases q with q | q
        · exact Or.inl q
        · exact Or.inr ⟨by omega, q.2⟩
theorem fw_sub {K : Nat → Int32} {i o e : Nat} (h : (o, e) ∈ fw_st K (i + 1)) : o = i ∨ ∃ e', (o, e') ∈ fw_st K i := by
  by_cases h1 : fw_Op K i
  · rw [fw_st_op h1] at h
    rcases List.mem_cons.mp h with z | z
    · cases z; exact Or.inl rfl
    · exact Or.inr ⟨e, z⟩
  · by_cases h2 : K i = 12
    · cases hs : fw_st K i with
      | nil =>
        have : fw_st K (i + 1) = [] := by
          show (if K i = 4 ∨ K i = 5 ∨ K i = 6 then _ else if K i = 12 then (match fw_st K i with | [] => [] | (o, _) :: s => (o, i) :: s) else _) = _
          rw [if_neg h1, if_pos h2, hs]
        rw [this] at h
        cases h
      | cons x s =>
        obtain ⟨o1, e1⟩ := x
        rw [fw_st_el h2 hs] at h
        rcases List.mem_cons.mp h with z | z
        · cases z
          exact Or.inr ⟨e1, List.mem_cons.mpr (Or.inl rfl)⟩
        · exact Or.inr ⟨e, List.mem_cons.mpr (Or.inr z)⟩
    · by_cases h3 : K i = 13
      · have : fw_st K (i + 1) = (fw_st K i).tail := by
          show (if K i = 4 ∨ K i = 5 ∨ K i = 6 then _ else if K i = 12 then _ else if K i = 13 then (fw_st K i).tail else _) = _
          rw [if_neg h1, if_neg h2, if_pos h3]
        rw [this] at h
        exact Or.inr ⟨e, List.mem_of_mem_tail h⟩
      · rw [fw_st_no h1 h2 h3] at h
        exact Or.inr ⟨e, h⟩
/-- an opener whose END has come stands no more -/
theorem fw_shut {K : Nat → Int32} {N : Nat} (W : fw_Wf K N) {j o e : Nat} {s : List (Nat × Nat)} (hj : j < N) (hk : K j = 13) (hs : fw_st K j = (o, e) :: s) : ∀ d e', (o, e') ∉ fw_st K (j + 1 + d) := by
  obtain ⟨a, b, c, d0⟩ := fw_hd W j (by omega) o e s hs
  intro d
  induction d with
  | zero =>
    intro e' h
    rw [Nat.add_zero, fw_st_en hk hs, d0] at h
    have := fw_mem_lt W o (by omega) o e' h
    omega
  | succ d ih =>
    intro e' h
    rcases fw_sub (i := j + 1 + d) h with z | ⟨e2, z⟩
    · omega
    · exact ih e2 z
/-- the mates: M at an END is the opener; at the opener its ELSE, or the END; at the ELSE the END -/
def fw_Mt (K M : Nat → Int32) (N : Nat) : Prop := ∀ i, i < N → K i = 13 → ∀ o e s, fw_st K i = (o, e) :: s → M i = nI o ∧ (e = 0 → M o = nI i) ∧ (e ≠ 0 → M o = nI e ∧ M e = nI i)
def fw_Mo (K M : Nat → Int32) (N : Nat) : Prop := ∀ o e, (o, e) ∈ fw_st K N → (e = 0 → M o = -1) ∧ (e ≠ 0 → M o = nI e)
def fw_Good (K M : Nat → Int32) (N : Nat) : Prop := fw_Wf K N ∧ fw_st K N = [] ∧ fw_Mt K M N
theorem fw_Good_congr {K K' M M' : Nat → Int32} {N : Nat} (h : fw_Good K M N) (hK : ∀ j, j < N → K j = K' j) (hM : ∀ j, j < N → M j = M' j) : fw_Good K' M' N := by
  obtain ⟨W, E, T⟩ := h
  have hst : ∀ i, i ≤ N → fw_st K' i = fw_st K i := fun i hi => (fw_st_congr i (fun j hj => hK j (by omega))).symm
  refine ⟨?_, by rw [hst N (by omega)]; exact E, ?_⟩
  · intro i hi
    obtain ⟨w1, w2, w3⟩ := W i hi
    unfold fw_Op at *
    rw [hst i (by omega), ← hK i hi]
    refine ⟨w1, ?_, w3⟩
    intro z
    obtain ⟨o, s, q1, q2⟩ := w2 z
    have := (fw_hd W i (by omega) o 0 s q1).1
    exact ⟨o, s, q1, by rw [← hK o (by omega)]; exact q2⟩
  · intro i hi hk o e s hs
    rw [hst i (by omega)] at hs
    rw [← hK i hi] at hk
    obtain ⟨t1, t2, t3⟩ := T i hi hk o e s hs
    obtain ⟨a, b, c, d⟩ := fw_hd W i (by omega) o e s hs
    rw [← hM i hi, ← hM o (by omega)]
    refine ⟨t1, t2, ?_⟩
    intro z
    have he : e < N := by
      rcases c with c | c
      · exact absurd c z
      · omega
    rw [← hM e he]
    exact t3 z
theorem fw_ne {K : Nat → Int32} {i j : Nat} {c d : Int32} (h : K i = c) (h' : K j = d) (n : c ≠ d) : i ≠ j := by
  intro z
  subst z
  exact n (h.symm.trans h')
theorem fw_neO {K : Nat → Int32} {i j : Nat} {c : Int32} (h : fw_Op K i) (h' : K j = c) (h4 : c ≠ 4) (h5 : c ≠ 5) (h6 : c ≠ 6) : i ≠ j := by
  intro z
  subst z
  exact fw_nop h' h4 h5 h6 h
/-- mates after an opener -/
theorem fw_M_op {K M : Nat → Int32} {N : Nat} (W : fw_Wf K N) (T : fw_Mt K M N) (O : fw_Mo K M N) (hk : fw_Op K N) : fw_Mt K (upd M N (-1)) (N + 1) ∧ fw_Mo K (upd M N (-1)) (N + 1) := by
  constructor
  · intro i hi hi13 o e s hs
    have hne : N ≠ i := fw_neO hk hi13 (by decide) (by decide) (by decide)
    have hi' : i < N := by omega
    obtain ⟨a, b, c, d⟩ := fw_hd W i (by omega) o e s hs
    obtain ⟨t1, t2, t3⟩ := T i hi' hi13 o e s hs
    refine ⟨by rw [pk_un (by omega)]; exact t1, fun z => by rw [pk_un (by omega)]; exact t2 z, fun z => ?_⟩
    have he : e < N := by
      rcases c with c | c
      · exact absurd c z
      · omega
    rw [pk_un (by omega), pk_un (by omega)]
    exact t3 z
  · intro o e h
    rw [fw_st_op hk] at h
    rcases List.mem_cons.mp h with z | z
    · cases z
      exact ⟨fun _ => pk_us, fun z => absurd rfl z⟩
    · have := fw_mem_lt W N (by omega) o e z
      rw [pk_un (by omega)]
      exact O o e z
/-- mates after a plain item -/
theorem fw_M_no {K M : Nat → Int32} {N : Nat} (T : fw_Mt K M N) (O : fw_Mo K M N) (h1 : ¬ fw_Op K N) (h2 : ¬ K N = 12) (h3 : ¬ K N = 13) : fw_Mt K M (N + 1) ∧ fw_Mo K M (N + 1) := by
  constructor
  · intro i hi hi13 o e s hs
    have hne : i ≠ N := by
      intro z
      subst z
      exact h3 hi13
    exact T i (by omega) hi13 o e s hs
  · intro o e h
    rw [fw_st_no h1 h2 h3] at h
    exact O o e h
/-- mates after an ELSE -/
theorem fw_M_el {K M : Nat → Int32} {N o0 : Nat} {s0 : List (Nat × Nat)} (W : fw_Wf K N) (T : fw_Mt K M N) (O : fw_Mo K M N) (hk : K N = 12) (hs0 : fw_st K N = (o0, 0) :: s0) : fw_Mt K (upd M o0 (nI N)) (N + 1) ∧ fw_Mo K (upd M o0 (nI N)) (N + 1) := by
  obtain ⟨a0, b0, c0, d0⟩ := fw_hd W N (by omega) o0 0 s0 hs0
  constructor
  · intro i hi hi13 o e s hs
    have hne : N ≠ i := fw_ne hk hi13 (by decide)
    have hi' : i < N := by omega
    obtain ⟨a, b, c, d⟩ := fw_hd W i (by omega) o e s hs
    obtain ⟨t1, t2, t3⟩ := T i hi' hi13 o e s hs
    have n1 : i ≠ o0 := fun z => fw_neO b0 hi13 (by decide) (by decide) (by decide) z.symm
    have n2 : o ≠ o0 := by
      intro z
      have := fw_shut W hi' hi13 hs (N - (i + 1)) 0
      rw [show i + 1 + (N - (i + 1)) = N by omega, hs0, z] at this
      exact this (List.mem_cons.mpr (Or.inl rfl))
    refine ⟨by rw [pk_un n1]; exact t1, fun z => by rw [pk_un n2]; exact t2 z, fun z => ?_⟩
    have n3 : e ≠ o0 := by
      rcases c with c | c
      · exact absurd c z
      · exact fun y => fw_neO b0 c.2.2.1 (by decide) (by decide) (by decide) y.symm
    rw [pk_un n2, pk_un n3]
    exact t3 z
  · intro o e h
    rw [fw_st_el hk hs0] at h
    rcases List.mem_cons.mp h with z | z
    · cases z
      exact ⟨fun z => by omega, fun _ => pk_us⟩
    · have z' := z
      rw [d0] at z'
      have := fw_mem_lt W o0 (by omega) o e z'
      rw [pk_un (by omega)]
      exact O o e (by rw [hs0]; exact List.mem_cons.mpr (Or.inr z))
/-- mates after an END: m is where the first store goes (the opener, or its ELSE) -/
theorem fw_M_en {K M : Nat → Int32} {N o0 e0 m : Nat} {s0 : List (Nat × Nat)} (W : fw_Wf K N) (T : fw_Mt K M N) (O : fw_Mo K M N) (hk : K N = 13) (hs0 : fw_st K N = (o0, e0) :: s0) (hm0 : e0 = 0 → m = o0) (hm1 : e0 ≠ 0 → m = e0) : fw_Mt K (upd (upd M m (nI N)) N (nI o0)) (N + 1) ∧ fw_Mo K (upd (upd M m (nI N)) N (nI o0)) (N + 1) := by
  obtain ⟨a0, b0, c0, d0⟩ := fw_hd W N (by omega) o0 e0 s0 hs0
  have hmN : m < N := by
    rcases c0 with c0 | c0
    · rw [hm0 c0]; exact a0
    · rw [hm1 (by omega)]; exact c0.2.1
  constructor
  · intro i hi hi13 o e s hs
    rcases Nat.lt_or_ge i N with hi' | hi'
    · obtain ⟨a, b, c, d⟩ := fw_hd W i (by omega) o e s hs
      obtain ⟨t1, t2, t3⟩ := T i hi' hi13 o e s hs
      have no : o ≠ o0 := by
        intro z
        have := fw_shut W hi' hi13 hs (N - (i + 1)) e0
        rw [show i + 1 + (N - (i + 1)) = N by omega, hs0, z] at this
        exact this (List.mem_cons.mpr (Or.inl rfl))
      have n1 : i ≠ m := by
        rcases c0 with c0 | c0
        · rw [hm0 c0]; exact fun z => fw_neO b0 hi13 (by decide) (by decide) (by decide) z.symm
        · rw [hm1 (by omega)]; exact fw_ne hi13 c0.2.2.1 (by decide)
      have n2 : o ≠ m := by
        rcases c0 with c0 | c0
        · rw [hm0 c0]; exact no
        · rw [hm1 (by omega)]; exact fw_neO b c0.2.2.1 (by decide) (by decide) (by decide)
      refine ⟨by rw [pk_un (by omega), pk_un n1]; exact t1, fun z => by rw [pk_un (by omega), pk_un n2]; exact t2 z, fun z => ?_⟩
      rcases c with c | c
      · exact absurd c z
      · have n3 : e ≠ m := by
          rcases c0 with c0 | c0
          · rw [hm0 c0]; exact fun y => fw_neO b0 c.2.2.1 (by decide) (by decide) (by decide) y.symm
          · rw [hm1 (by omega)]
            intro y
            have q := c.2.2.2.2.symm.trans ((congrArg (fw_st K) y).trans c0.2.2.2.2)
            injection q with q1 q2
            injection q1 with q3 q4
            exact no q3
        rw [pk_un (by omega), pk_un n2, pk_un (by omega), pk_un n3]
        exact t3 z
    · have e1 : i = N := by omega
      rw [e1] at hs
      have q := hs.symm.trans hs0
      injection q with q1 q2
      injection q1 with q3 q4
      rw [e1, q3, q4]
      refine ⟨pk_us, fun z => ?_, fun z => ?_⟩
      · rw [pk_un (by omega), hm0 z, pk_us]
      · have hme := hm1 z
        have h1 : (o0, e0) ∈ fw_st K N := by rw [hs0]; exact List.mem_cons.mpr (Or.inl rfl)
        have h2 := (O o0 e0 h1).2 z
        rcases c0 with c0 | c0
        · exact absurd c0 z
        · rw [pk_un (by omega), pk_un (by omega), pk_un (by omega), hme, pk_us]
          exact ⟨h2, rfl⟩
  · intro o e h
    rw [fw_st_en hk hs0] at h
    have h' := h
    rw [d0] at h'
    have hlt := fw_mem_lt W o0 (by omega) o e h'
    obtain ⟨p, q⟩ := fw_mem_op W o0 (by omega) o e h'
    have nm : o ≠ m := by
      rcases c0 with c0 | c0
      · rw [hm0 c0]; omega
      · rw [hm1 (by omega)]; exact fw_neO p c0.2.2.1 (by decide) (by decide) (by decide)
    rw [pk_un (by omega), pk_un nm]
    exact O o e (by rw [hs0]; exact List.mem_cons.mpr (Or.inr h))
