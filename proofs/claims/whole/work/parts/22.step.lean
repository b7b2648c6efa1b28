/-! one item, before and in itself -/
section
variable {xic xoc xfc xhf xil xll xol xea xwr xcu xfo xsp xpo xbl xli xvu yic ysz yfd yls ymd ysa ytk ydp yps ybi ysp yus ynx yra yrd : Int32} {iK iA iB xM xO xS FK FA FB FM inp lst out vs xR xL yO yN yS yT : Nat → Int32}
variable {N fd ll i sp p b lim us dp base S : Nat} {w : Bool}
theorem rr_prep {c : Nat} (hc : c ≤ 11) (kc : FK i = nI c) (hi : i < 40) (hsp : sp ≤ 400) (hp : p ≤ 64) (hb : b ≤ 7) (hbp : 0 < b → 0 < p) (hus : us ≤ ll) (hll : ll ≤ 40) :
    (∃ (r : Int32) (sp1 sp2 b1 : Nat), r ≠ 0 ∧ b1 ≤ 7 ∧ (0 < b1 → 0 < p) ∧ (∀ post : Int32 → SX → Prop, post r (xic, xoc, nI N, xhf, nI fd, nI ll, xol, xea, fw_w w, nI i, xfo, nI sp1, nI p, nI b1, nI lim, nI us, iK, iA, iB, xM, xO, xS, FK, FA, FB, FM, inp, lst, out, vs, xR, xL) → wpX_prepareItem post (xic, xoc, nI N, xhf, nI fd, nI ll, xol, xea, fw_w w, nI i, xfo, nI sp, nI p, nI b, nI lim, nI us, iK, iA, iB, xM, xO, xS, FK, FA, FB, FM, inp, lst, out, vs, xR, xL) (nI c)) ∧ (∀ post : Int32 → SY → Prop, post r (yic, nI N, nI fd, nI ll, ymd, ysa, ytk, nI dp, nI p, nI b1, nI sp2, nI us, ynx, yra, fw_r w, iK, iA, iB, FK, FA, FB, inp, lst, out, vs, yO, yN, yS, yT) → wpY_item post (yic, nI N, nI fd, nI ll, ymd, ysa, ytk, nI dp, nI p, nI b, nI sp, nI us, ynx, yra, fw_r w, iK, iA, iB, FK, FA, FB, inp, lst, out, vs, yO, yN, yS, yT) (nI i))) ∨
    (sp < 400 ∧ ∃ b1 : Nat, b1 ≤ 7 ∧ (0 < b1 → 0 < p) ∧ (w = false → c < 3 → ll < 40) ∧ (w = true → c < 3 → us < ll) ∧ (∀ post : Int32 → SX → Prop, post 0 (xic, xoc, nI N, xhf, nI fd, nI ll, xol, xea, fw_w w, nI i, xfo, nI (sp + 1), nI p, nI b1, nI lim, nI us, iK, iA, iB, xM, xO, xS, FK, FA, FB, FM, inp, lst, out, vs, xR, xL) → wpX_prepareItem post (xic, xoc, nI N, xhf, nI fd, nI ll, xol, xea, fw_w w, nI i, xfo, nI sp, nI p, nI b, nI lim, nI us, iK, iA, iB, xM, xO, xS, FK, FA, FB, FM, inp, lst, out, vs, xR, xL) (nI c)) ∧ (∀ post : Int32 → SY → Prop, wY_item_113 post (nI i) (nI c) yic (nI N) (nI fd) (nI ll) ymd ysa ytk (nI dp) (nI p) (nI b1) (nI (sp + 1)) (nI us) ynx yra (fw_r w) iK iA iB FK FA FB inp lst out vs yO yN yS yT → wpY_item post (yic, nI N, nI fd, nI ll, ymd, ysa, ytk, nI dp, nI p, nI b, nI sp, nI us, ynx, yra, fw_r w, iK, iA, iB, FK, FA, FB, inp, lst, out, vs, yO, yN, yS, yT) (nI i))) := by
  have ci : (nI i).toNatClampNeg = i := nI_clamp (by omega)
  have vi : vp_in (nI i) 40 := vp_in_nI hi (by omega)
  by_cases h4 : sp < 400
  · by_cases hfull : w = false ∧ c < 3 ∧ ll = 40
    · obtain ⟨hw, hv, hl⟩ := hfull
      exact Or.inl ⟨8, sp + 1, sp, b, by decide, hb, hbp, fun post H => rx_m2 h4 hw hv hl H, fun post H => ry_m2 hi kc h4 hw hv hl H⟩
    · have hl : w = false → c < 3 → ll < 40 := fun hw hv => by
        rcases Nat.lt_or_ge ll 40 with z | z
        · exact z
        · exact absurd ⟨hw, hv, by omega⟩ hfull
      by_cases hpc : fw_clo c ∧ fw_pad w inp p b
      · obtain ⟨hclo, hpad⟩ := hpc
        exact Or.inl ⟨6, sp + 1, sp + 1, b, by decide, hb, hbp, fun post H => rx_prep hc h4 hl (rx_64p hclo hpad hb hbp hp H), fun post H => ry_item hi kc hc h4 hl (ry_70c hclo (ry_102p hpad hb hbp hp H))⟩
      · obtain ⟨b1, hb1, hbp1, PX, PY⟩ : ∃ b1 : Nat, b1 ≤ 7 ∧ (0 < b1 → 0 < p) ∧ (∀ post : Int32 → SX → Prop, wX_prepareItem_82 post (nI c) xic xoc (nI N) xhf (nI fd) (nI ll) xol xea (fw_w w) (nI i) xfo (nI (sp + 1)) (nI p) (nI b1) (nI lim) (nI us) iK iA iB xM xO xS FK FA FB FM inp lst out vs xR xL → wpX_prepareItem post (xic, xoc, nI N, xhf, nI fd, nI ll, xol, xea, fw_w w, nI i, xfo, nI sp, nI p, nI b, nI lim, nI us, iK, iA, iB, xM, xO, xS, FK, FA, FB, FM, inp, lst, out, vs, xR, xL) (nI c)) ∧ (∀ post : Int32 → SY → Prop, wY_item_113 post (nI i) (nI c) yic (nI N) (nI fd) (nI ll) ymd ysa ytk (nI dp) (nI p) (nI b1) (nI (sp + 1)) (nI us) ynx yra (fw_r w) iK iA iB FK FA FB inp lst out vs yO yN yS yT → wpY_item post (yic, nI N, nI fd, nI ll, ymd, ysa, ytk, nI dp, nI p, nI b, nI sp, nI us, ynx, yra, fw_r w, iK, iA, iB, FK, FA, FB, inp, lst, out, vs, yO, yN, yS, yT) (nI i)) := by
          by_cases hclo : fw_clo c
          · have hpad : ¬ fw_pad w inp p b := fun z => hpc ⟨hclo, z⟩
            exact ⟨0, by omega, fun z => by omega, fun post H => rx_prep hc h4 hl (rx_64c hclo hpad hb hbp hp H), fun post H => ry_item hi kc hc h4 hl (ry_70c hclo (ry_102 hpad hb hbp hp H))⟩
          · exact ⟨b, hb, hbp, fun post H => rx_prep hc h4 hl (rx_64n (by omega) hclo H), fun post H => ry_item hi kc hc h4 hl (ry_70n hc hclo H)⟩
        by_cases hs : w = true ∧ c < 3 ∧ ll ≤ us
        · obtain ⟨hw, hv, hl⟩ := hs
          have e : nI us = nI ll := by rw [show us = ll by omega]
          refine Or.inl ⟨3, sp + 1, sp + 1, b1, by decide, hb1, hbp1, fun post H => PX post (rx_82s (by omega) (by omega) hw hv hl H), fun post H => PY post ?_⟩
          subst hw
          exact ⟨vi, nm_e (br_f (nI_ge (b := 3) hv (by decide)) (br_t (by decide) (br_t e H)))⟩
        · have hs' : w = true → c < 3 → us < ll := fun hw hv => by
            rcases Nat.lt_or_ge us ll with z | z
            · exact z
            · exact absurd ⟨hw, hv, z⟩ hs
          exact Or.inr ⟨h4, b1, hb1, hbp1, hl, hs', fun post H => PX post (rx_82 (by omega) hll hs' H), PY⟩
  · exact Or.inl ⟨8, sp, sp, b, by decide, hb, hbp, fun post H => rx_m1 hc h4 (by omega) H, fun post H => ry_m1 hi kc hc (by omega) H⟩
theorem rf_all {c : Nat} (E : fr_E FK xR xL yO yN N fd lim S i dp w) (hp : p ≤ lim) (hb : b ≤ 7) (hbp : 0 < b → 0 < p) (hus : us ≤ ll) (hll : ll ≤ 40) (hc : c ≤ 11) (hn : ¬ (c = 4 ∨ c = 5 ∨ c = 6)) (kc : FK i = nI c) (hit : fw_It (FK i) (FA i)) (hl : w = false → c < 3 → ll < 40) (hu : w = true → c < 3 → us < ll) : (∃ (r q : Int32), r ≠ 0 ∧ (w = true → q = nI p) ∧ (∀ post : Int32 → SX → Prop, post r (xic, xoc, nI N, xhf, nI fd, nI ll, xol, xea, fw_w w, nI i, xfo, nI sp, nI p, nI b, nI lim, nI us, iK, iA, iB, xM, xO, xS, FK, FA, FB, FM, inp, lst, out, vs, xR, xL) → wpX_doItem post (xic, xoc, nI N, xhf, nI fd, nI ll, xol, xea, fw_w w, nI i, xfo, nI sp, nI p, nI b, nI lim, nI us, iK, iA, iB, xM, xO, xS, FK, FA, FB, FM, inp, lst, out, vs, xR, xL) (nI c) (FA i) (FB i)) ∧ (∀ post : Int32 → SY → Prop, post r (yic, nI N, nI fd, nI ll, ymd, ysa, ytk, nI dp, q, nI b, nI sp, nI us, ynx, yra, fw_r w, iK, iA, iB, FK, FA, FB, inp, lst, out, vs, yO, yN, yS, yT) → wY_item_113 post (nI i) (nI c) yic (nI N) (nI fd) (nI ll) ymd ysa ytk (nI dp) (nI p) (nI b) (nI sp) (nI us) ynx yra (fw_r w) iK iA iB FK FA FB inp lst out vs yO yN yS yT)) ∨ (∃ (p' b' us' ll' : Nat) (lst' out' vs' : Nat → Int32), p' ≤ lim ∧ b' ≤ 7 ∧ (0 < b' → 0 < p') ∧ us' ≤ ll' ∧ ll' ≤ 40 ∧ (∀ post : Int32 → SX → Prop, post 0 (xic, xoc, nI N, xhf, nI fd, nI ll', xol, xea, fw_w w, nI i, xfo, nI sp, nI p', nI b', nI lim, nI us', iK, iA, iB, xM, xO, xS, FK, FA, FB, FM, inp, lst', out', vs', xR, xL) → wpX_doItem post (xic, xoc, nI N, xhf, nI fd, nI ll, xol, xea, fw_w w, nI i, xfo, nI sp, nI p, nI b, nI lim, nI us, iK, iA, iB, xM, xO, xS, FK, FA, FB, FM, inp, lst, out, vs, xR, xL) (nI c) (FA i) (FB i)) ∧ (∀ post : Int32 → SY → Prop, post 0 (yic, nI N, nI fd, nI ll', ymd, ysa, ytk, nI dp, nI p', nI b', nI sp, nI us', ynx, yra, fw_r w, iK, iA, iB, FK, FA, FB, inp, lst', out', vs', yO, yN, yS, yT) → wY_item_113 post (nI i) (nI c) yic (nI N) (nI fd) (nI ll) ymd ysa ytk (nI dp) (nI p) (nI b) (nI sp) (nI us) ynx yra (fw_r w) iK iA iB FK FA FB inp lst out vs yO yN yS yT)) := by
  obtain ⟨c', h1, h2, h3, h4, h5⟩ := hit
  have e : c' = c := (nI_eq (by omega) (by omega)).mp (h2.symm.trans kc)
  subst e
  have h : c' = 0 ∨ c' = 1 ∨ c' = 2 ∨ c' = 3 ∨ c' = 7 ∨ c' = 8 ∨ c' = 9 ∨ c' = 10 ∨ c' = 11 := by omega
  rcases h with rfl | rfl | rfl | rfl | rfl | rfl | rfl | rfl | rfl
  · obtain ⟨m, m1, m2, m3⟩ := h3 rfl
    cases w with
    | false => exact rf_0r E hp hb hbp hus hll m1 m2 m3 rfl (hl rfl (by omega))
    | true => exact rf_0w E hp hb hbp hus hll m1 m2 m3 rfl (hu rfl (by omega))
  · cases w with
    | false => exact rf_1r E hp hb hbp hus hll rfl (hl rfl (by omega))
    | true => exact rf_1w E hp hb hbp hus hll rfl (hu rfl (by omega))
  · obtain ⟨m, m1, m2, m3⟩ := h4 rfl
    cases w with
    | false => exact rf_2r E hp hb hbp hus hll m1 m2 m3 rfl (hl rfl (by omega))
    | true => exact rf_2w E hp hb hbp hus hll m1 m2 m3 rfl (hu rfl (by omega))
  · exact rf_3 E hp hb hbp hus hll
  · exact rf_7 E hp hb hbp hus hll
  · obtain ⟨m, m1, m2, m3⟩ := h5 rfl
    exact rf_8 E hp hb hbp hus hll m1 m2 m3
  · exact rf_9 E hp hb hbp hus hll
  · exact rf_10 E hp hb hbp hus hll
  · exact rf_11 E hp hb hbp hus hll
end
