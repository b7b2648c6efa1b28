/-! the run, in lockstep -/
section
variable {xic xoc xfc xhf xil xll xol xea xwr xcu xfo xsp xpo xbl xli xvu yic ysz yfd yls ymd ysa ytk ydp yps ybi ysp yus ynx yra yrd : Int32} {iK iA iB xM xO xS FK FA FB FM inp lst out vs xR xL yO yN yS yT : Nat → Int32}
variable {N fd ll i sp p b lim us dp base S : Nat} {w : Bool}
theorem rm_fX {post : Int32 → SX → Prop} {n : Nat} {r x2 : Int32} (hr : r ≠ 0) (H : post r (xic, xoc, nI N, xhf, nI fd, nI ll, xol, nI i, fw_w w, nI i, xfo, nI sp, nI p, nI b, nI lim, nI us, iK, iA, iB, xM, xO, xS, FK, FA, FB, FM, inp, lst, out, vs, xR, xL)) : wX_runFormat_8 post (n + 1) r x2 xic xoc (nI N) xhf (nI fd) (nI ll) xol xea (fw_w w) (nI i) xfo (nI sp) (nI p) (nI b) (nI lim) (nI us) iK iA iB xM xO xS FK FA FB FM inp lst out vs xR xL := by
  have K : wX_runFormat_101 post r xic xoc (nI N) xhf (nI fd) (nI ll) xol xea (fw_w w) (nI i) xfo (nI sp) (nI p) (nI b) (nI lim) (nI us) iK iA iB xM xO xS FK FA FB FM inp lst out vs xR xL := br_f hr (br_f hr H)
  exact br_c (fun _ => K) (fun _ => br_f hr K)
theorem rm_fX2 {post : Int32 → SX → Prop} {n : Nat} {r : Int32} {vis : Nat} (hr : r ≠ 0) (H : post r (xic, xoc, nI N, xhf, nI fd, nI ll, xol, nI i, fw_w w, nI i, xfo, nI sp, nI p, nI b, nI lim, nI us, iK, iA, iB, xM, xO, xS, FK, FA, FB, FM, inp, lst, out, vs, xR, xL)) : wX_runFormat_83 post (wX_runFormat_8 post (n + 1)) r (nI vis) xic xoc (nI N) xhf (nI fd) (nI ll) xol xea (fw_w w) (nI i) xfo (nI sp) (nI p) (nI b) (nI lim) (nI us) iK iA iB xM xO xS FK FA FB FM inp lst out vs xR xL :=
  br_f hr (nm_e (rm_fX hr H))
theorem rm_fY {post : Int32 → SY → Prop} {n : Nat} {r : Int32} (hr : r ≠ 0) (H : post r (yic, nI N, nI fd, nI ll, ymd, nI i, yra, nI dp, nI p, nI b, nI sp, nI us, ynx, yra, fw_r w, iK, iA, iB, FK, FA, FB, inp, lst, out, vs, yO, yN, yS, yT)) : wY_run_50 post (n + 1) r (nI i) yic (nI N) (nI fd) (nI ll) ymd ysa ytk (nI dp) (nI p) (nI b) (nI sp) (nI us) ynx yra (fw_r w) iK iA iB FK FA FB inp lst out vs yO yN yS yT := by
  have K : wY_run_95 post r (nI i) yic (nI N) (nI fd) (nI ll) ymd ysa ytk (nI dp) (nI p) (nI b) (nI sp) (nI us) ynx yra (fw_r w) iK iA iB FK FA FB inp lst out vs yO yN yS yT := br_f hr (br_f hr H)
  exact br_c (fun _ => K) (fun _ => br_f hr K)
/-- at the end of the items -/
theorem rm_end (hN : N ≤ 40) (hfd : fd ≤ 64) (hp : p ≤ 64) (hb : b ≤ 7) (hbp : 0 < b → 0 < p) (hus : us ≤ 40) (hll : ll ≤ 40) : ∃ (r ea : Int32) (B : Nat), B ≤ 7 ∧ (0 < B → 0 < p) ∧ (∀ (post : Int32 → SX → Prop) (n vis : Nat), vis < 1000000 → post r (xic, xoc, nI N, xhf, nI fd, nI ll, xol, ea, fw_w w, nI N, xfo, nI sp, nI p, nI B, nI lim, nI us, iK, iA, iB, xM, xO, xS, FK, FA, FB, FM, inp, lst, out, vs, xR, xL) → wX_runFormat_8 post (n + 1) 0 (nI vis) xic xoc (nI N) xhf (nI fd) (nI ll) xol xea (fw_w w) (nI N) xfo (nI sp) (nI p) (nI b) (nI lim) (nI us) iK iA iB xM xO xS FK FA FB FM inp lst out vs xR xL) ∧ (∀ (post : Int32 → SY → Prop) (n : Nat), post r (yic, nI N, nI fd, nI ll, ymd, ea, nI p, nI dp, nI p, nI B, nI sp, nI us, ynx, nI p, fw_r w, iK, iA, iB, FK, FA, FB, inp, lst, out, vs, yO, yN, yS, yT) → wY_run_50 post (n + 1) 0 (nI N) yic (nI N) (nI fd) (nI ll) ymd ysa ytk (nI dp) (nI p) (nI b) (nI sp) (nI us) ynx yra (fw_r w) iK iA iB FK FA FB inp lst out vs yO yN yS yT) := by
  have cN : nI N ≤ nI N := nI_le (by omega) (by omega)
  have hX : ∀ (post : Int32 → SX → Prop) (n vis : Nat), vis < 1000000 → wpX_finishRun (fun r_37 u => match u with | (xic, xoc, xfc, xhf, xil, xll, xol, xea, xwr, xcu, xfo, xsp, xpo, xbl, xli, xvu, iK, iA, iB, xM, xO, xS, FK, FA, FB, FM, inp, lst, out, vs, xR, xL) => wX_runFormat_110 post r_37 xic xoc xfc xhf xil xll xol xea xwr xcu xfo xsp xpo xbl xli xvu iK iA iB xM xO xS FK FA FB FM inp lst out vs xR xL) (xic, xoc, nI N, xhf, nI fd, nI ll, xol, xea, fw_w w, nI N, xfo, nI sp, nI p, nI b, nI lim, nI us, iK, iA, iB, xM, xO, xS, FK, FA, FB, FM, inp, lst, out, vs, xR, xL) → wX_runFormat_8 post (n + 1) 0 (nI vis) xic xoc (nI N) xhf (nI fd) (nI ll) xol xea (fw_w w) (nI N) xfo (nI sp) (nI p) (nI b) (nI lim) (nI us) iK iA iB xM xO xS FK FA FB FM inp lst out vs xR xL := by
    intro post n vis hv H
    exact br_f (nI_ge (b := 1000000) hv (by decide)) (br_t rfl (br_t cN (br_t rfl H)))
  by_cases hpad : fw_pad w inp p b
  · refine ⟨6, nI N, b, hb, hbp, fun post n vis hv H => hX post n vis hv ?_, fun post n H => br_t cN (br_t rfl ?_)⟩
    · unfold wpX_finishRun
      exact rx_cl0 hpad hb hbp hp (br_t rfl (br_f (by decide) H))
    · exact ry_cl0 hpad hb hbp hp (br_f (by decide) (br_f (by decide) H))
  · cases w with
    | false =>
      by_cases hl : fd ≤ p
      · have c : nI fd ≤ nI p := nI_le hl (by omega)
        refine ⟨0, -1, 0, by omega, fun z => by omega, fun post n vis hv H => hX post n vis hv ?_, fun post n H => br_t cN (br_t rfl ?_)⟩
        · unfold wpX_finishRun
          exact rx_cl1 (w := false) hpad hb hbp hp (br_f (by decide) (br_t rfl (br_t c (br_t rfl (br_t rfl H)))))
        · exact ry_cl1 (w := false) hpad hb hbp hp (br_t rfl (br_f (by decide) (br_t c (br_t rfl H))))
      · have c : ¬ nI fd ≤ nI p := nI_ge (by omega) (by omega)
        refine ⟨7, nI N, 0, by omega, fun z => by omega, fun post n vis hv H => hX post n vis hv ?_, fun post n H => br_t cN (br_t rfl ?_)⟩
        · unfold wpX_finishRun
          exact rx_cl1 (w := false) hpad hb hbp hp (br_f (by decide) (br_t rfl (br_f c (br_f (by decide) (br_f (by decide) H)))))
        · exact ry_cl1 (w := false) hpad hb hbp hp (br_t rfl (br_f (by decide) (br_f c (br_f (by decide) H))))
    | true =>
      by_cases hl : ll ≤ us
      · have c : nI ll ≤ nI us := nI_le hl (by omega)
        refine ⟨0, -1, 0, by omega, fun z => by omega, fun post n vis hv H => hX post n vis hv ?_, fun post n H => br_t cN (br_t rfl ?_)⟩
        · unfold wpX_finishRun
          exact rx_cl1 (w := true) hpad hb hbp hp (br_f (by decide) (br_f (by decide) (br_t c (br_t rfl (br_t rfl H)))))
        · exact ry_cl1 (w := true) hpad hb hbp hp (br_t rfl (br_t (by decide) (br_t c (br_t rfl H))))
      · have c : ¬ nI ll ≤ nI us := nI_ge (by omega) (by omega)
        refine ⟨7, nI N, 0, by omega, fun z => by omega, fun post n vis hv H => hX post n vis hv ?_, fun post n H => br_t cN (br_t rfl ?_)⟩
        · unfold wpX_finishRun
          exact rx_cl1 (w := true) hpad hb hbp hp (br_f (by decide) (br_f (by decide) (br_f c (br_f (by decide) (br_f (by decide) H)))))
        · exact ry_cl1 (w := true) hpad hb hbp hp (br_t rfl (br_t (by decide) (br_f c (br_f (by decide) H))))
end
