/-! one step of a scan, lengths, sets as bits, the run's stack -/
theorem fw_step {K : Nat → Int32} {N : Nat} (W : fw_Wf K N) {j o e : Nat} {u s : List (Nat × Nat)} (hj : j < N) (h : fw_st K j = u ++ (o, e) :: s) :
    (K j = 13 ∧ u = []) ∨ (K j = 13 ∧ ∃ x u', u = x :: u' ∧ fw_st K (j + 1) = u' ++ (o, e) :: s) ∨ (fw_Op K j ∧ fw_st K (j + 1) = ((j, 0) :: u) ++ (o, e) :: s) ∨ (K j = 12 ∧ u = [] ∧ e = 0 ∧ fw_st K (j + 1) = [] ++ (o, j) :: s) ∨ (K j = 12 ∧ ∃ x x' u', u = x :: u' ∧ fw_st K (j + 1) = (x' :: u') ++ (o, e) :: s) ∨ (¬ fw_Op K j ∧ K j ≠ 12 ∧ K j ≠ 13 ∧ fw_st K (j + 1) = u ++ (o, e) :: s) := by
  by_cases h1 : fw_Op K j
  · exact Or.inr (Or.inr (Or.inl ⟨h1, (fw_st_op h1).trans (congrArg (List.cons (j, 0)) h)⟩))
  · by_cases h2 : K j = 12
    · obtain ⟨o', s', e1, e2⟩ := (W j hj).2.1 h2
      cases u with
      | nil =>
        rw [List.nil_append] at h
        have q := h.symm.trans e1
        cases q
        exact Or.inr (Or.inr (Or.inr (Or.inl ⟨h2, rfl, rfl, fw_st_el h2 e1⟩)))
      | cons x u' =>
        obtain ⟨o1, x1⟩ := x
        exact Or.inr (Or.inr (Or.inr (Or.inr (Or.inl ⟨h2, (o1, x1), (o1, j), u', rfl, fw_st_el h2 h⟩))))
    · by_cases h3 : K j = 13
      · cases u with
        | nil => exact Or.inl ⟨h3, rfl⟩
        | cons x u' =>
          obtain ⟨o1, x1⟩ := x
          exact Or.inr (Or.inl ⟨h3, (o1, x1), u', rfl, fw_st_en h3 h⟩)
      · exact Or.inr (Or.inr (Or.inr (Or.inr (Or.inr ⟨h1, h2, h3, by rw [fw_st_no h1 h2 h3]; exact h⟩))))
theorem fw_scan {K : Nat → Int32} {N : Nat} (W : fw_Wf K N) (E : fw_st K N = []) : ∀ m j o e u s, N - j = m → j ≤ N → fw_st K j = u ++ (o, e) :: s → ∃ t e', j ≤ t ∧ t < N ∧ K t = 13 ∧ fw_st K t = (o, e') :: s ∧ (e ≠ 0 → e' = e) := by
  intro m
  induction m with
  | zero =>
    intro j o e u s hm hj h
    have ej : j = N := by omega
    subst ej
    rw [E] at h
    cases u with
    | nil => cases h
    | cons x u => cases h
  | succ m ih =>
    intro j o e u s hm hj h
    rcases fw_step W (by omega) h with z | z | z | z | z | z
    · obtain ⟨z1, z2⟩ := z
      subst z2
      exact ⟨j, e, by omega, by omega, z1, h, fun _ => rfl⟩
    · obtain ⟨z1, x, u', z2, z3⟩ := z
      obtain ⟨t, e', a, b, c, d, f⟩ := ih (j + 1) o e u' s (by omega) (by omega) z3
      exact ⟨t, e', by omega, b, c, d, f⟩
    · obtain ⟨z1, z3⟩ := z
      obtain ⟨t, e', a, b, c, d, f⟩ := ih (j + 1) o e _ s (by omega) (by omega) z3
      exact ⟨t, e', by omega, b, c, d, f⟩
    · obtain ⟨z1, z2, z4, z3⟩ := z
      obtain ⟨t, e', a, b, c, d, f⟩ := ih (j + 1) o j _ s (by omega) (by omega) z3
      exact ⟨t, e', by omega, b, c, d, fun y => absurd z4 y⟩
    · obtain ⟨z1, x, x', u', z2, z3⟩ := z
      obtain ⟨t, e', a, b, c, d, f⟩ := ih (j + 1) o e _ s (by omega) (by omega) z3
      exact ⟨t, e', by omega, b, c, d, f⟩
    · obtain ⟨z1, z2, z4, z3⟩ := z
      obtain ⟨t, e', a, b, c, d, f⟩ := ih (j + 1) o e _ s (by omega) (by omega) z3
      exact ⟨t, e', by omega, b, c, d, f⟩
theorem fw_len {K : Nat → Int32} {N : Nat} (W : fw_Wf K N) : ∀ i, i ≤ N → (fw_st K i).length ≤ 4 := by
  intro i
  induction i with
  | zero => intro _; exact Nat.zero_le _
  | succ i ih =>
    intro hi
    have l := ih (by omega)
    by_cases h1 : fw_Op K i
    · rw [fw_st_op h1]
      exact (W i (by omega)).1 h1
    · by_cases h2 : K i = 12
      · obtain ⟨o', s', e1, e2⟩ := (W i (by omega)).2.1 h2
        rw [fw_st_el h2 e1]
        rw [e1] at l
        exact l
      · by_cases h3 : K i = 13
        · obtain ⟨o', e', s', e1⟩ := (W i (by omega)).2.2 h3
          rw [fw_st_en h3 e1]
          rw [e1] at l
          exact Nat.le_of_succ_le l
        · rw [fw_st_no h1 h2 h3]
          exact l
/-- what M says of an ELSE: its END, and that END's opener -/
theorem fw_G_el {K M : Nat → Int32} {N i o e : Nat} {s : List (Nat × Nat)} (G : fw_Good K M N) (hi : i < N) (hk : K i = 12) (hs : fw_st K i = (o, e) :: s) : ∃ t, i < t ∧ t < N ∧ K t = 13 ∧ fw_st K t = (o, i) :: s ∧ M i = nI t ∧ M t = nI o ∧ M o = nI i := by
  obtain ⟨W, E, T⟩ := G
  obtain ⟨o', s', q1, q2⟩ := (W i hi).2.1 hk
  have q := hs.symm.trans q1
  cases q
  have a := (fw_hd W i (by omega) o 0 s hs).1
  obtain ⟨t, e', b, c, d, f, g⟩ := fw_scan W E _ (i + 1) o i [] s rfl (by omega) (fw_st_el hk hs)
  rw [g (by omega)] at f
  obtain ⟨t1, t2, t3⟩ := T t c d o i s f
  obtain ⟨t4, t5⟩ := t3 (by omega)
  exact ⟨t, by omega, c, d, f, t5, t1, t4⟩
/-- what M says of an opener: its ELSE or its END -/
theorem fw_G_op {K M : Nat → Int32} {N i : Nat} (G : fw_Good K M N) (hi : i < N) (hk : fw_Op K i) : ∃ t e, i < t ∧ t < N ∧ K t = 13 ∧ fw_st K t = (i, e) :: fw_st K i ∧ M t = nI i ∧ (e = 0 → M i = nI t) ∧ (e ≠ 0 → M i = nI e ∧ M e = nI t ∧ i < e ∧ e < t ∧ K e = 12 ∧ K i = 5 ∧ fw_st K e = (i, 0) :: fw_st K i) := by
  obtain ⟨W, E, T⟩ := G
  obtain ⟨t, e', b, c, d, f, g⟩ := fw_scan W E _ (i + 1) i 0 [] (fw_st K i) rfl (by omega) (fw_st_op hk)
  obtain ⟨t1, t2, t3⟩ := T t c d i e' _ f
  obtain ⟨h1, h2, h3, h4⟩ := fw_hd W t (by omega) i e' _ f
  refine ⟨t, e', by omega, c, d, f, t1, t2, fun z => ?_⟩
  rcases h3 with h3 | h3
  · exact absurd h3 z
  · exact ⟨(t3 z).1, (t3 z).2, h3.1, h3.2.1, h3.2.2.1, h3.2.2.2.1, h3.2.2.2.2⟩
/-! sets of variables as bits -/
def fw_ss (s t : Int32) : Prop := ∀ i, i < 32 → bt s i = true → bt t i = true
theorem fw_ss_r (s : Int32) : fw_ss s s := fun _ _ h => h
theorem fw_ss_t {s t w : Int32} (h : fw_ss s t) (h' : fw_ss t w) : fw_ss s w := fun i hi z => h' i hi (h i hi z)
theorem fw_ss_o {s t : Int32} (x : Int32) (h : fw_ss s t) : fw_ss s (t ||| x) := fun i hi z => by rw [b_or, h i hi z]; rfl
theorem fw_ss_a {s t w : Int32} (h : fw_ss s t) (h' : fw_ss s w) : fw_ss s (t &&& w) := fun i hi z => by rw [b_and, h i hi z, h' i hi z]; rfl
theorem fw_ss_e {s t : Int32} (h : fw_ss s t) : t &&& s = s := b_ext fun i hi => by
  rw [b_and]
  have := h i hi
  cases z : bt s i with
  | false => exact Bool.and_false _
  | true => rw [this z]; rfl
def fw_U (K sA op se th : Nat → Int32) : Int32 → List (Nat × Nat) → Prop
  | _, [] => True
  | x, (o, e) :: s => se s.length = sA o ∧ (e = 0 → op s.length = K o) ∧ (e ≠ 0 → op s.length = 12 ∧ th s.length = sA e ∧ fw_ss (sA o) (sA e)) ∧ fw_ss (sA o) x ∧ fw_U K sA op se th (sA o) s
theorem fw_U_m {K sA op se th : Nat → Int32} {x y : Int32} {s : List (Nat × Nat)} (h : fw_U K sA op se th x s) (hx : fw_ss x y) : fw_U K sA op se th y s := by
  cases s with
  | nil => trivial
  | cons a s =>
    obtain ⟨o, e⟩ := a
    obtain ⟨p1, p2, p3, p4, p5⟩ := h
    exact ⟨p1, p2, p3, fw_ss_t p4 hx, p5⟩
theorem fw_U_fr {K sA op se th sA' op' se' th' : Nat → Int32} : ∀ (s : List (Nat × Nat)) (x : Int32), fw_U K sA op se th x s → (∀ o e, (o, e) ∈ s → sA' o = sA o ∧ (e ≠ 0 → sA' e = sA e)) → (∀ d, d < s.length → op' d = op d ∧ se' d = se d ∧ th' d = th d) → fw_U K sA' op' se' th' x s := by
  intro s
  induction s with
  | nil => intro x _ _ _; trivial
  | cons a s ih =>
    intro x h h1 h2
    obtain ⟨o, e⟩ := a
    obtain ⟨p1, p2, p3, p4, p5⟩ := h
    obtain ⟨m1, m2⟩ := h1 o e (List.mem_cons.mpr (Or.inl rfl))
    obtain ⟨d1, d2, d3⟩ := h2 s.length (Nat.lt_succ_self _)
    refine ⟨by rw [d2, m1]; exact p1, fun z => by rw [d1]; exact p2 z, fun z => ?_, by rw [m1]; exact p4, ?_⟩
    · rw [d1, d3, m1, m2 z]
      exact p3 z
    · rw [m1]
      exact ih (sA o) p5 (fun o' e' hm => h1 o' e' (List.mem_cons.mpr (Or.inr hm))) (fun d hd => h2 d (Nat.lt_succ_of_lt hd))
/-! the run's stack: X's rounds and outer limits by item, of the reference its two arrays by level; lim the limit, S the rounds left -/
def fw_R (K rl ol op nu : Nat → Int32) (base : Nat) : Nat → Nat → List (Nat × Nat) → Prop
  | lim, S, [] => lim = base ∧ S = 0
  | lim, S, (o, _) :: s => op s.length = nI o ∧
      ((K o = 4 ∧ ∃ x S', 1 ≤ x ∧ x ≤ 32 ∧ nu s.length = nI x ∧ rl o = nI x ∧ S = S' + x ∧ fw_R K rl ol op nu base lim S' s)
      ∨ (K o = 5 ∧ fw_R K rl ol op nu base lim S s)
      ∨ (K o = 6 ∧ nu s.length = nI lim ∧ ∃ lim', lim ≤ lim' ∧ ol o = nI lim' ∧ fw_R K rl ol op nu base lim' S s))
theorem fw_R_le {K rl ol op nu : Nat → Int32} {base : Nat} : ∀ (s : List (Nat × Nat)) (lim S : Nat), fw_R K rl ol op nu base lim S s → lim ≤ base := by
  intro s
  induction s with
  | nil =>
    intro lim S h
    obtain ⟨h1, _⟩ := h
    exact Nat.le_of_eq h1
  | cons a s ih =>
    intro lim S h
    obtain ⟨o, e⟩ := a
    obtain ⟨_, h⟩ := h
    rcases h with z | z | z
    · obtain ⟨_, x, S', _, _, _, _, _, z⟩ := z
      exact ih lim S' z
    · exact ih lim S z.2
    · obtain ⟨_, _, lim', z1, _, z2⟩ := z
      exact Nat.le_trans z1 (ih lim' S z2)
theorem fw_R_fr {K rl ol op nu rl' ol' op' nu' : Nat → Int32} {base : Nat} : ∀ (s : List (Nat × Nat)) (lim S : Nat), fw_R K rl ol op nu base lim S s → (∀ o e, (o, e) ∈ s → rl' o = rl o ∧ ol' o = ol o) → (∀ d, d < s.length → op' d = op d ∧ nu' d = nu d) → fw_R K rl' ol' op' nu' base lim S s := by
  intro s
  induction s with
  | nil => intro lim S h _ _; exact h
  | cons a s ih =>
    intro lim S h h1 h2
    obtain ⟨o, e⟩ := a
    obtain ⟨m1, m2⟩ := h1 o e (List.mem_cons.mpr (Or.inl rfl))
    obtain ⟨d1, d2⟩ := h2 s.length (Nat.lt_succ_self _)
    have h1' : ∀ o e, (o, e) ∈ s → rl' o = rl o ∧ ol' o = ol o := fun o' e' hm => h1 o' e' (List.mem_cons.mpr (Or.inr hm))
    have h2' : ∀ d, d < s.length → op' d = op d ∧ nu' d = nu d := fun d hd => h2 d (Nat.lt_succ_of_lt hd)
    obtain ⟨h0, h⟩ := h
    refine ⟨by rw [d1]; exact h0, ?_⟩
    rcases h with z | z | z
    · obtain ⟨z0, x, S', z1, z2, z3, z4, z5, z6⟩ := z
      exact Or.inl ⟨z0, x, S', z1, z2, by rw [d2]; exact z3, by rw [m1]; exact z4, z5, ih lim S' z6 h1' h2'⟩
    · exact Or.inr (Or.inl ⟨z.1, ih lim S z.2 h1' h2'⟩)
    · obtain ⟨z0, z1, lim', z2, z3, z4⟩ := z
      exact Or.inr (Or.inr ⟨z0, by rw [d2]; exact z1, lim', z2, by rw [m2]; exact z3, ih lim' S z4 h1' h2'⟩)
/-- the copy of the first i -/
def fw_cp (a b : Nat → Int32) (i : Nat) : Nat → Int32 := fun j => if j < i then a j else b j
theorem fw_cp_0 (a b : Nat → Int32) : fw_cp a b 0 = b := funext fun j => if_neg (Nat.not_lt_zero j)
theorem fw_cp_s (a b : Nat → Int32) (i : Nat) : upd (fw_cp a b i) i (a i) = fw_cp a b (i + 1) := funext fun j => by
  unfold upd fw_cp
  by_cases h : j = i
  · subst h
    rw [if_pos rfl, if_pos (Nat.lt_succ_self _)]
  · rw [if_neg h]
    by_cases h2 : j < i
    · rw [if_pos h2, if_pos (by omega)]
    · rw [if_neg h2, if_neg (by omega)]
theorem fw_cp_lt {a b : Nat → Int32} {i j : Nat} (h : j < i) : fw_cp a b i j = a j := if_pos h
section
variable {K rl ol op nu : Nat → Int32} {base lim S o e : Nat} {s : List (Nat × Nat)}
theorem fw_R_keep {rl' ol' op' nu' : Nat → Int32} (h : fw_R K rl ol op nu base lim S s) (hm : ∀ o' e', (o', e') ∈ s → o' < o) (h1 : ∀ j, j ≠ o → rl' j = rl j) (h2 : ∀ j, j ≠ o → ol' j = ol j) (h3 : ∀ d, d ≠ s.length → op' d = op d) (h4 : ∀ d, d ≠ s.length → nu' d = nu d) : fw_R K rl' ol' op' nu' base lim S s :=
  fw_R_fr s lim S h (fun o' e' hh => have := hm o' e' hh; ⟨h1 o' (by omega), h2 o' (by omega)⟩) (fun d hd => ⟨h3 d (by omega), h4 d (by omega)⟩)
theorem fw_un (f : Nat → Int32) (k : Nat) (x : Int32) : ∀ j, j ≠ k → upd f k x j = f j := fun _ h => pk_un h
theorem fw_id (f : Nat → Int32) (k : Nat) : ∀ j, j ≠ k → f j = f j := fun _ _ => rfl
theorem fw_R_p4 {x : Nat} (h : fw_R K rl ol op nu base lim S s) (hm : ∀ o' e', (o', e') ∈ s → o' < o) (hk : K o = 4) (h1 : 1 ≤ x) (h2 : x ≤ 32) : fw_R K (upd rl o (nI x)) ol (upd op s.length (nI o)) (upd nu s.length (nI x)) base lim (S + x) ((o, e) :: s) :=
  ⟨pk_us, Or.inl ⟨hk, x, S, h1, h2, pk_us, pk_us, rfl, fw_R_keep h hm (fw_un _ _ _) (fw_id _ _) (fw_un _ _ _) (fw_un _ _ _)⟩⟩
theorem fw_R_p5 {x : Int32} (h : fw_R K rl ol op nu base lim S s) (hm : ∀ o' e', (o', e') ∈ s → o' < o) (hk : K o = 5) : fw_R K rl ol (upd op s.length (nI o)) (upd nu s.length x) base lim S ((o, e) :: s) :=
  ⟨pk_us, Or.inr (Or.inl ⟨hk, fw_R_keep h hm (fw_id _ _) (fw_id _ _) (fw_un _ _ _) (fw_un _ _ _)⟩)⟩
theorem fw_R_p6 {x : Nat} (h : fw_R K rl ol op nu base lim S s) (hm : ∀ o' e', (o', e') ∈ s → o' < o) (hk : K o = 6) (hx : x ≤ lim) : fw_R K rl (upd ol o (nI lim)) (upd op s.length (nI o)) (upd nu s.length (nI x)) base x S ((o, e) :: s) :=
  ⟨pk_us, Or.inr (Or.inr ⟨hk, pk_us, lim, hx, pk_us, fw_R_keep h hm (fw_id _ _) (fw_un _ _ _) (fw_un _ _ _) (fw_un _ _ _)⟩)⟩
theorem fw_R_0 (x : Int32) (h : fw_R K rl ol op nu base lim S s) (hm : ∀ o' e', (o', e') ∈ s → o' < o) : fw_R K (upd rl o x) ol op nu base lim S s :=
  fw_R_keep h hm (fw_un _ _ _) (fw_id _ _) (fw_id _ _) (fw_id _ _)
/-- the top is a REPEAT -/
theorem fw_R_t4 (h : fw_R K rl ol op nu base lim S ((o, e) :: s)) (hm : ∀ o' e', (o', e') ∈ s → o' < o) (hk : K o = 4) : ∃ x S', 1 ≤ x ∧ x ≤ 32 ∧ nu s.length = nI x ∧ rl o = nI x ∧ S = S' + x ∧ (∀ (y z : Int32), fw_R K (upd rl o y) ol op (upd nu s.length z) base lim S' s) ∧ (∀ (e' y : Nat), 1 ≤ y → y ≤ 32 → fw_R K (upd rl o (nI y)) ol op (upd nu s.length (nI y)) base lim (S' + y) ((o, e') :: s)) := by
  obtain ⟨h0, h⟩ := h
  rcases h with z | z | z
  · obtain ⟨_, x, S', h1, h2, h3, h4, h5, h6⟩ := z
    refine ⟨x, S', h1, h2, h3, h4, h5, fun y z => fw_R_keep h6 hm (fw_un _ _ _) (fw_id _ _) (fw_id _ _) (fw_un _ _ _), fun e' y h7 h8 => ⟨h0, Or.inl ⟨hk, y, S', h7, h8, pk_us, pk_us, rfl, fw_R_keep h6 hm (fw_un _ _ _) (fw_id _ _) (fw_id _ _) (fw_un _ _ _)⟩⟩⟩
  · exact absurd (hk.symm.trans z.1) (by decide)
  · exact absurd (hk.symm.trans z.1) (by decide)
theorem fw_R_t5 (h : fw_R K rl ol op nu base lim S ((o, e) :: s)) (hk : K o = 5) : fw_R K rl ol op nu base lim S s := by
  obtain ⟨h0, h⟩ := h
  rcases h with z | z | z
  · exact absurd (hk.symm.trans z.1) (by decide)
  · exact z.2
  · exact absurd (hk.symm.trans z.1) (by decide)
theorem fw_R_t6 (h : fw_R K rl ol op nu base lim S ((o, e) :: s)) (hk : K o = 6) : nu s.length = nI lim ∧ ∃ lim', lim ≤ lim' ∧ ol o = nI lim' ∧ fw_R K rl ol op nu base lim' S s := by
  obtain ⟨h0, h⟩ := h
  rcases h with z | z | z
  · exact absurd (hk.symm.trans z.1) (by decide)
  · exact absurd (hk.symm.trans z.1) (by decide)
  · exact z.2
theorem fw_R_op (h : fw_R K rl ol op nu base lim S ((o, e) :: s)) : op s.length = nI o := by
  obtain ⟨h0, _⟩ := h
  exact h0
theorem fw_R_e (e' : Nat) (h : fw_R K rl ol op nu base lim S ((o, e) :: s)) : fw_R K rl ol op nu base lim S ((o, e') :: s) := h
end
