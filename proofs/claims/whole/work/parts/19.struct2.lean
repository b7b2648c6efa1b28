/-! scans, and the items that begin and end others -/
section
variable {xic xoc xfc xhf xil xll xol xea xwr xcu xfo xsp xpo xbl xli xvu yic ysz yfd yls ymd ysa ytk ydp yps ybi ysp yus ynx yra yrd : Int32} {iK iA iB xM xO xS FK FA FB FM inp lst out vs xR xL yO yN yS yT : Nat → Int32}
variable {N fd ll i sp p b lim us dp base S : Nat} {w : Bool}
theorem ry_eo (W : fw_Wf FK N) (hN : N ≤ 40) (Z : fw_st FK N = []) (hK : ∀ j, j < N → ∃ c : Nat, c ≤ 13 ∧ FK j = nI c) : ∀ (d j o e : Nat) (u s : List (Nat × Nat)), j + 1 + d = N → fw_st FK (j + 1) = u ++ (o, e) :: s → ∃ t e', j < t ∧ t < N ∧ FK t = 13 ∧ fw_st FK t = (o, e') :: s ∧ (e ≠ 0 → e' = e) ∧ ∀ post : Int32 → Prop, post (nI t) → wY_endOf_4 post yic ysz yfd yls ymd ysa ytk ydp yps ybi ysp yus ynx yra yrd iK iA iB FK FA FB inp lst out vs yO yN yS yT (d + 1) (nI (u.length + 1)) (nI j) := by
  intro d
  induction d with
  | zero =>
    intro j o e u s hj h
    have ej : j + 1 = N := by omega
    rw [ej, Z] at h
    cases u with
    | nil => cases h
    | cons x u => cases h
  | succ d ih =>
    intro j o e u s hj h
    have l4 := fw_len W (j + 1) (by omega)
    rw [h, List.length_append, List.length_cons] at l4
    have vj : vp_in (nI (j + 1)) 40 := vp_in_nI (by omega) (by omega)
    have cj : (nI (j + 1)).toNatClampNeg = j + 1 := nI_clamp (by omega)
    have n0 : ¬ nI (u.length + 1) ≤ 0 := nI_nle (by omega) (by omega)
    have ek : FK (nI (j + 1)).toNatClampNeg = FK (j + 1) := by rw [cj]
    have go : ∀ (post : Int32 → Prop) (A B : Prop), ¬ fw_Op FK (j + 1) → A → ((FK (nI (j + 1)).toNatClampNeg < 4 → A) ∧ (¬ FK (nI (j + 1)).toNatClampNeg < 4 → (vp_in (nI (j + 1)) 40 ∧ ((6 < FK (nI (j + 1)).toNatClampNeg → A) ∧ (¬ 6 < FK (nI (j + 1)).toNatClampNeg → B))))) := by
      intro post A B hn hA
      obtain ⟨c, hc, ec⟩ := hK (j + 1) (by omega)
      have q := fx_no4 hc (by rw [← ec]; exact hn)
      rw [ek, ec]
      rcases q with q | ⟨q1, q2, q3⟩
      · exact br_t q hA
      · exact br_f q1 ⟨vj, br_t q2 hA⟩
    rcases fw_step W (by omega) h with z | z | z | z | z | z
    · obtain ⟨z1, z2⟩ := z
      subst z2
      have x13 : FK (nI (j + 1)).toNatClampNeg = 13 := by rw [ek]; exact z1
      exact ⟨j + 1, e, by omega, by omega, z1, h, fun _ => rfl, fun post H => br_f n0 (nm_r (nI_1 j) ⟨vj, go post _ _ (fw_nop z1 (by decide) (by decide) (by decide)) ⟨vj, br_t x13 (nm_r (pk_m1 0) (br_t (by decide) H))⟩⟩)⟩
    · obtain ⟨z1, x, u', z2, z3⟩ := z
      subst z2
      have x13 : FK (nI (j + 1)).toNatClampNeg = 13 := by rw [ek]; exact z1
      obtain ⟨t, e', a, b, c, d', f, K⟩ := ih (j + 1) o e u' s (by omega) z3
      exact ⟨t, e', by omega, b, c, d', f, fun post H => br_f n0 (nm_r (nI_1 j) ⟨vj, go post _ _ (fw_nop z1 (by decide) (by decide) (by decide)) ⟨vj, br_t x13 (nm_r (pk_m1 (u'.length + 1)) (K post H))⟩⟩)⟩
    · obtain ⟨z1, z3⟩ := z
      obtain ⟨k1, k2, k3, k4, k5⟩ := fx_op4 z1
      obtain ⟨t, e', a, b, c, d', f, K⟩ := ih (j + 1) o e _ s (by omega) z3
      exact ⟨t, e', by omega, b, c, d', f, fun post H => br_f n0 (nm_r (nI_1 j) ⟨vj, br_f (by rw [ek]; exact k1) ⟨vj, br_f (by rw [ek]; exact k2) (nm_r (nI_1 (u.length + 1)) ⟨vj, br_f (by rw [ek]; exact k4) (K post H)⟩)⟩⟩)⟩
    · obtain ⟨z1, z2, z4, z3⟩ := z
      subst z2
      have n13 : ¬ FK (nI (j + 1)).toNatClampNeg = 13 := by rw [ek, z1]; decide
      obtain ⟨t, e', a, b, c, d', f, K⟩ := ih (j + 1) o (j + 1) [] s (by omega) z3
      exact ⟨t, e', by omega, b, c, d', fun y => absurd z4 y, fun post H => br_f n0 (nm_r (nI_1 j) ⟨vj, go post _ _ (fw_nop z1 (by decide) (by decide) (by decide)) ⟨vj, br_f n13 (K post H)⟩⟩)⟩
    · obtain ⟨z1, x, x', u', z2, z3⟩ := z
      subst z2
      have n13 : ¬ FK (nI (j + 1)).toNatClampNeg = 13 := by rw [ek, z1]; decide
      obtain ⟨t, e', a, b, c, d', f, K⟩ := ih (j + 1) o e (x' :: u') s (by omega) z3
      exact ⟨t, e', by omega, b, c, d', f, fun post H => br_f n0 (nm_r (nI_1 j) ⟨vj, go post _ _ (fw_nop z1 (by decide) (by decide) (by decide)) ⟨vj, br_f n13 (K post H)⟩⟩)⟩
    · obtain ⟨z1, z2, z4, z3⟩ := z
      have n13 : ¬ FK (nI (j + 1)).toNatClampNeg = 13 := by rw [ek]; exact z4
      obtain ⟨t, e', a, b, c, d', f, K⟩ := ih (j + 1) o e u s (by omega) z3
      exact ⟨t, e', by omega, b, c, d', f, fun post H => br_f n0 (nm_r (nI_1 j) ⟨vj, go post _ _ z1 ⟨vj, br_f n13 (K post H)⟩⟩)⟩
theorem ry_el (W : fw_Wf FK N) (hN : N ≤ 40) (Z : fw_st FK N = []) (hK : ∀ j, j < N → ∃ c : Nat, c ≤ 13 ∧ FK j = nI c) : ∀ (d j o : Nat) (u s : List (Nat × Nat)), j + 1 + d = N → fw_st FK (j + 1) = u ++ (o, 0) :: s → ∃ t, j < t ∧ t < N ∧ (FK t = 12 ∨ FK t = 13) ∧ fw_st FK t = (o, 0) :: s ∧ ∀ post : Int32 → Prop, post (nI t) → wY_elseOf_4 post yic ysz yfd yls ymd ysa ytk ydp yps ybi ysp yus ynx yra yrd iK iA iB FK FA FB inp lst out vs yO yN yS yT (d + 1) (nI (u.length + 1)) (nI j) := by
  intro d
  induction d with
  | zero =>
    intro j o u s hj h
    have ej : j + 1 = N := by omega
    rw [ej, Z] at h
    cases u with
    | nil => cases h
    | cons x u => cases h
  | succ d ih =>
    intro j o u s hj h
    have l4 := fw_len W (j + 1) (by omega)
    rw [h, List.length_append, List.length_cons] at l4
    have vj : vp_in (nI (j + 1)) 40 := vp_in_nI (by omega) (by omega)
    have cj : (nI (j + 1)).toNatClampNeg = j + 1 := nI_clamp (by omega)
    have n0 : ¬ nI (u.length + 1) ≤ 0 := nI_nle (by omega) (by omega)
    have ek : FK (nI (j + 1)).toNatClampNeg = FK (j + 1) := by rw [cj]
    have go : ∀ (post : Int32 → Prop) (A B : Prop), ¬ fw_Op FK (j + 1) → A → (vp_in (nI (j + 1)) 40 ∧ ((FK (nI (j + 1)).toNatClampNeg < 4 → A) ∧ (¬ FK (nI (j + 1)).toNatClampNeg < 4 → (vp_in (nI (j + 1)) 40 ∧ ((6 < FK (nI (j + 1)).toNatClampNeg → A) ∧ (¬ 6 < FK (nI (j + 1)).toNatClampNeg → B)))))) := by
      intro post A B hn hA
      obtain ⟨c, hc, ec⟩ := hK (j + 1) (by omega)
      have q := fx_no4 hc (by rw [← ec]; exact hn)
      rw [ek, ec]
      rcases q with q | ⟨q1, q2, q3⟩
      · exact ⟨vj, br_t q hA⟩
      · exact ⟨vj, br_f q1 ⟨vj, br_t q2 hA⟩⟩
    rcases fw_step W (by omega) h with z | z | z | z | z | z
    · obtain ⟨z1, z2⟩ := z
      subst z2
      have x13 : FK (nI (j + 1)).toNatClampNeg = 13 := by rw [ek]; exact z1
      have n12 : ¬ FK (nI (j + 1)).toNatClampNeg = 12 := by rw [x13]; decide
      exact ⟨j + 1, by omega, by omega, Or.inr z1, h, fun post H => br_f n0 (nm_r (nI_1 j) ⟨vj, br_f n12 (go post _ _ (fw_nop z1 (by decide) (by decide) (by decide)) ⟨vj, br_t x13 (nm_r (pk_m1 0) (br_t (by decide) H))⟩)⟩)⟩
    · obtain ⟨z1, x, u', z2, z3⟩ := z
      subst z2
      have x13 : FK (nI (j + 1)).toNatClampNeg = 13 := by rw [ek]; exact z1
      have n12 : ¬ FK (nI (j + 1)).toNatClampNeg = 12 := by rw [x13]; decide
      obtain ⟨t, a, b, c, d', K⟩ := ih (j + 1) o u' s (by omega) z3
      exact ⟨t, by omega, b, c, d', fun post H => br_f n0 (nm_r (nI_1 j) ⟨vj, br_f n12 (go post _ _ (fw_nop z1 (by decide) (by decide) (by decide)) ⟨vj, br_t x13 (nm_r (pk_m1 (u'.length + 1)) (K post H))⟩)⟩)⟩
    · obtain ⟨z1, z3⟩ := z
      obtain ⟨k1, k2, k3, k4, k5⟩ := fx_op4 z1
      obtain ⟨t, a, b, c, d', K⟩ := ih (j + 1) o _ s (by omega) z3
      exact ⟨t, by omega, b, c, d', fun post H => br_f n0 (nm_r (nI_1 j) ⟨vj, br_f (by rw [ek]; exact k3) ⟨vj, br_f (by rw [ek]; exact k1) ⟨vj, br_f (by rw [ek]; exact k2) (nm_r (nI_1 (u.length + 1)) ⟨vj, br_f (by rw [ek]; exact k4) (K post H)⟩)⟩⟩⟩)⟩
    · obtain ⟨z1, z2, z4, z3⟩ := z
      subst z2
      have x12 : FK (nI (j + 1)).toNatClampNeg = 12 := by rw [ek]; exact z1
      exact ⟨j + 1, by omega, by omega, Or.inl z1, h, fun post H => br_f n0 (nm_r (nI_1 j) ⟨vj, br_t x12 (br_t (by decide) H)⟩)⟩
    · obtain ⟨z1, x, x', u', z2, z3⟩ := z
      subst z2
      have x12 : FK (nI (j + 1)).toNatClampNeg = 12 := by rw [ek]; exact z1
      have n13 : ¬ FK (nI (j + 1)).toNatClampNeg = 13 := by rw [x12]; decide
      have l4' : u'.length + 1 + (s.length + 1) ≤ 4 := l4
      have n1 : ¬ nI ((x :: u').length + 1) = (1 : Int32) := fun y => by
        have y2 := (nI_eq (a := (x :: u').length + 1) (b := 1) (by rw [List.length_cons]; omega) (by omega)).mp y
        rw [List.length_cons] at y2
        omega
      obtain ⟨t, a, b, c, d', K⟩ := ih (j + 1) o (x' :: u') s (by omega) z3
      exact ⟨t, by omega, b, c, d', fun post H => br_f n0 (nm_r (nI_1 j) ⟨vj, br_t x12 (br_f n1 (go post _ _ (fw_nop z1 (by decide) (by decide) (by decide)) ⟨vj, br_f n13 (K post H)⟩))⟩)⟩
    · obtain ⟨z1, z2, z4, z3⟩ := z
      have n12 : ¬ FK (nI (j + 1)).toNatClampNeg = 12 := by rw [ek]; exact z2
      have n13 : ¬ FK (nI (j + 1)).toNatClampNeg = 13 := by rw [ek]; exact z4
      obtain ⟨t, a, b, c, d', K⟩ := ih (j + 1) o u s (by omega) z3
      exact ⟨t, by omega, b, c, d', fun post H => br_f n0 (nm_r (nI_1 j) ⟨vj, br_f n12 (go post _ _ z1 ⟨vj, br_f n13 (K post H)⟩)⟩)⟩
end
