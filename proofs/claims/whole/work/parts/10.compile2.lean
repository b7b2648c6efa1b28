/-! compile: what is set -/
section
variable {xic xoc xfc xhf xil xll xol xea xwr xcu xfo xsp xpo xbl xli xvu yic ysz yfd yls ymd ysa ytk ydp yps ybi ysp yus ynx yra yrd : Int32} {iK iA iB xM xO xS FK FA FB FM inp lst out vs xR xL yO yN yS yT : Nat → Int32}
theorem fx_ns1 {post : Int32 → Prop} {k : Int32} (h : (k = 4 ∨ k = 5 ∨ k = 6) ∨ k = 9 ∨ k = 11) (hp : post 1) : wpX_needsSet post (xic, xoc, xfc, xhf, xil, xll, xol, xea, xwr, xcu, xfo, xsp, xpo, xbl, xli, xvu, iK, iA, iB, xM, xO, xS, FK, FA, FB, FM, inp, lst, out, vs, xR, xL) k := by
  unfold wpX_needsSet
  dsimp only
  by_cases ho : k = 4 ∨ k = 5 ∨ k = 6
  · exact fx_op1 ho (br_f (by decide) hp)
  · refine fx_op0 ho (br_t rfl ?_)
    by_cases h9 : k = 9
    · exact br_t h9 hp
    · exact br_f h9 (br_t ((h.resolve_left ho).resolve_left h9) hp)
theorem fx_ns0 {post : Int32 → Prop} {k : Int32} (h : ¬ (k = 4 ∨ k = 5 ∨ k = 6)) (h9 : ¬ k = 9) (h11 : ¬ k = 11) (hp : post 0) : wpX_needsSet post (xic, xoc, xfc, xhf, xil, xll, xol, xea, xwr, xcu, xfo, xsp, xpo, xbl, xli, xvu, iK, iA, iB, xM, xO, xS, FK, FA, FB, FM, inp, lst, out, vs, xR, xL) k := by
  unfold wpX_needsSet
  dsimp only
  exact fx_op0 h (br_t rfl (br_f h9 (br_f h11 hp)))

theorem fu_X0 {post : Int32 → SX → Prop} {set own : Int32} {i : Nat} (hi : i < 40) (hk : iK i = nI 0) (h : post (set ||| own) (xic, xoc, xfc, xhf, xil, xll, xol, xea, xwr, xcu, xfo, xsp, xpo, xbl, xli, xvu, iK, iA, iB, xM, xO, upd xS i set, FK, FA, FB, FM, inp, lst, out, vs, xR, xL)) : wpX_setBehind post (xic, xoc, xfc, xhf, xil, xll, xol, xea, xwr, xcu, xfo, xsp, xpo, xbl, xli, xvu, iK, iA, iB, xM, xO, xS, FK, FA, FB, FM, inp, lst, out, vs, xR, xL) (nI i) set own := by
  have vi : vp_in (nI i) 40 := vp_in_nI hi (by omega)
  have ci : (nI i).toNatClampNeg = i := nI_clamp (by omega)
  have eK : iK (nI i).toNatClampNeg = nI 0 := by rw [ci]; exact hk
  exact ⟨vi, nm_r (by rw [ci]) ⟨vi, nm_r eK (br_f (by decide) (br_f (by decide) (br_t (by decide) (h))))⟩⟩
theorem fu_X1 {post : Int32 → SX → Prop} {set own : Int32} {i : Nat} (hi : i < 40) (hk : iK i = nI 1) (h : post (set ||| own) (xic, xoc, xfc, xhf, xil, xll, xol, xea, xwr, xcu, xfo, xsp, xpo, xbl, xli, xvu, iK, iA, iB, xM, xO, upd xS i set, FK, FA, FB, FM, inp, lst, out, vs, xR, xL)) : wpX_setBehind post (xic, xoc, xfc, xhf, xil, xll, xol, xea, xwr, xcu, xfo, xsp, xpo, xbl, xli, xvu, iK, iA, iB, xM, xO, xS, FK, FA, FB, FM, inp, lst, out, vs, xR, xL) (nI i) set own := by
  have vi : vp_in (nI i) 40 := vp_in_nI hi (by omega)
  have ci : (nI i).toNatClampNeg = i := nI_clamp (by omega)
  have eK : iK (nI i).toNatClampNeg = nI 1 := by rw [ci]; exact hk
  exact ⟨vi, nm_r (by rw [ci]) ⟨vi, nm_r eK (br_f (by decide) (br_f (by decide) (br_f (by decide) (br_t (by decide) (h)))))⟩⟩
theorem fu_X2 {post : Int32 → SX → Prop} {set own : Int32} {i : Nat} (hi : i < 40) (hk : iK i = nI 2) (h : post (set ||| own) (xic, xoc, xfc, xhf, xil, xll, xol, xea, xwr, xcu, xfo, xsp, xpo, xbl, xli, xvu, iK, iA, iB, xM, xO, upd xS i set, FK, FA, FB, FM, inp, lst, out, vs, xR, xL)) : wpX_setBehind post (xic, xoc, xfc, xhf, xil, xll, xol, xea, xwr, xcu, xfo, xsp, xpo, xbl, xli, xvu, iK, iA, iB, xM, xO, xS, FK, FA, FB, FM, inp, lst, out, vs, xR, xL) (nI i) set own := by
  have vi : vp_in (nI i) 40 := vp_in_nI hi (by omega)
  have ci : (nI i).toNatClampNeg = i := nI_clamp (by omega)
  have eK : iK (nI i).toNatClampNeg = nI 2 := by rw [ci]; exact hk
  exact ⟨vi, nm_r (by rw [ci]) ⟨vi, nm_r eK (br_f (by decide) (br_f (by decide) (br_f (by decide) (br_f (by decide) (br_t (by decide) (h))))))⟩⟩
theorem fu_X3 {post : Int32 → SX → Prop} {set own : Int32} {i : Nat} (hi : i < 40) (hk : iK i = nI 3) (h : post set (xic, xoc, xfc, xhf, xil, xll, xol, xea, xwr, xcu, xfo, xsp, xpo, xbl, xli, xvu, iK, iA, iB, xM, xO, upd xS i set, FK, FA, FB, FM, inp, lst, out, vs, xR, xL)) : wpX_setBehind post (xic, xoc, xfc, xhf, xil, xll, xol, xea, xwr, xcu, xfo, xsp, xpo, xbl, xli, xvu, iK, iA, iB, xM, xO, xS, FK, FA, FB, FM, inp, lst, out, vs, xR, xL) (nI i) set own := by
  have vi : vp_in (nI i) 40 := vp_in_nI hi (by omega)
  have ci : (nI i).toNatClampNeg = i := nI_clamp (by omega)
  have eK : iK (nI i).toNatClampNeg = nI 3 := by rw [ci]; exact hk
  exact ⟨vi, nm_r (by rw [ci]) ⟨vi, nm_r eK (br_f (by decide) (br_f (by decide) (br_f (by decide) (br_f (by decide) (br_f (by decide) (br_t (by decide) (h)))))))⟩⟩
theorem fu_X4 {post : Int32 → SX → Prop} {set own : Int32} {i : Nat} (hi : i < 40) (hk : iK i = nI 4) (h : post set (xic, xoc, xfc, xhf, xil, xll, xol, xea, xwr, xcu, xfo, xsp, xpo, xbl, xli, xvu, iK, iA, iB, xM, xO, upd xS i set, FK, FA, FB, FM, inp, lst, out, vs, xR, xL)) : wpX_setBehind post (xic, xoc, xfc, xhf, xil, xll, xol, xea, xwr, xcu, xfo, xsp, xpo, xbl, xli, xvu, iK, iA, iB, xM, xO, xS, FK, FA, FB, FM, inp, lst, out, vs, xR, xL) (nI i) set own := by
  have vi : vp_in (nI i) 40 := vp_in_nI hi (by omega)
  have ci : (nI i).toNatClampNeg = i := nI_clamp (by omega)
  have eK : iK (nI i).toNatClampNeg = nI 4 := by rw [ci]; exact hk
  exact ⟨vi, nm_r (by rw [ci]) ⟨vi, nm_r eK (br_f (by decide) (br_f (by decide) (br_f (by decide) (br_f (by decide) (br_f (by decide) (br_f (by decide) (br_t (by decide) (h))))))))⟩⟩
theorem fu_X5 {post : Int32 → SX → Prop} {set own : Int32} {i : Nat} (hi : i < 40) (hk : iK i = nI 5) (h : post set (xic, xoc, xfc, xhf, xil, xll, xol, xea, xwr, xcu, xfo, xsp, xpo, xbl, xli, xvu, iK, iA, iB, xM, xO, upd xS i set, FK, FA, FB, FM, inp, lst, out, vs, xR, xL)) : wpX_setBehind post (xic, xoc, xfc, xhf, xil, xll, xol, xea, xwr, xcu, xfo, xsp, xpo, xbl, xli, xvu, iK, iA, iB, xM, xO, xS, FK, FA, FB, FM, inp, lst, out, vs, xR, xL) (nI i) set own := by
  have vi : vp_in (nI i) 40 := vp_in_nI hi (by omega)
  have ci : (nI i).toNatClampNeg = i := nI_clamp (by omega)
  have eK : iK (nI i).toNatClampNeg = nI 5 := by rw [ci]; exact hk
  exact ⟨vi, nm_r (by rw [ci]) ⟨vi, nm_r eK (br_f (by decide) (br_f (by decide) (br_f (by decide) (br_f (by decide) (br_f (by decide) (br_f (by decide) (br_f (by decide) (br_t (by decide) (h)))))))))⟩⟩
theorem fu_X6 {post : Int32 → SX → Prop} {set own : Int32} {i : Nat} (hi : i < 40) (hk : iK i = nI 6) (h : post set (xic, xoc, xfc, xhf, xil, xll, xol, xea, xwr, xcu, xfo, xsp, xpo, xbl, xli, xvu, iK, iA, iB, xM, xO, upd xS i set, FK, FA, FB, FM, inp, lst, out, vs, xR, xL)) : wpX_setBehind post (xic, xoc, xfc, xhf, xil, xll, xol, xea, xwr, xcu, xfo, xsp, xpo, xbl, xli, xvu, iK, iA, iB, xM, xO, xS, FK, FA, FB, FM, inp, lst, out, vs, xR, xL) (nI i) set own := by
  have vi : vp_in (nI i) 40 := vp_in_nI hi (by omega)
  have ci : (nI i).toNatClampNeg = i := nI_clamp (by omega)
  have eK : iK (nI i).toNatClampNeg = nI 6 := by rw [ci]; exact hk
  exact ⟨vi, nm_r (by rw [ci]) ⟨vi, nm_r eK (br_f (by decide) (br_f (by decide) (br_f (by decide) (br_f (by decide) (br_f (by decide) (br_f (by decide) (br_f (by decide) (br_f (by decide) (br_t (by decide) (h))))))))))⟩⟩
theorem fu_X7 {post : Int32 → SX → Prop} {set own : Int32} {i : Nat} (hi : i < 40) (hk : iK i = nI 7) (h : post set (xic, xoc, xfc, xhf, xil, xll, xol, xea, xwr, xcu, xfo, xsp, xpo, xbl, xli, xvu, iK, iA, iB, xM, xO, upd xS i set, FK, FA, FB, FM, inp, lst, out, vs, xR, xL)) : wpX_setBehind post (xic, xoc, xfc, xhf, xil, xll, xol, xea, xwr, xcu, xfo, xsp, xpo, xbl, xli, xvu, iK, iA, iB, xM, xO, xS, FK, FA, FB, FM, inp, lst, out, vs, xR, xL) (nI i) set own := by
  have vi : vp_in (nI i) 40 := vp_in_nI hi (by omega)
  have ci : (nI i).toNatClampNeg = i := nI_clamp (by omega)
  have eK : iK (nI i).toNatClampNeg = nI 7 := by rw [ci]; exact hk
  exact ⟨vi, nm_r (by rw [ci]) ⟨vi, nm_r eK (br_f (by decide) (br_f (by decide) (br_f (by decide) (br_f (by decide) (br_f (by decide) (br_f (by decide) (br_f (by decide) (br_f (by decide) (br_f (by decide) (br_t (by decide) (h)))))))))))⟩⟩
theorem fu_X8 {post : Int32 → SX → Prop} {set own : Int32} {i : Nat} (hi : i < 40) (hk : iK i = nI 8) (h : post set (xic, xoc, xfc, xhf, xil, xll, xol, xea, xwr, xcu, xfo, xsp, xpo, xbl, xli, xvu, iK, iA, iB, xM, xO, upd xS i set, FK, FA, FB, FM, inp, lst, out, vs, xR, xL)) : wpX_setBehind post (xic, xoc, xfc, xhf, xil, xll, xol, xea, xwr, xcu, xfo, xsp, xpo, xbl, xli, xvu, iK, iA, iB, xM, xO, xS, FK, FA, FB, FM, inp, lst, out, vs, xR, xL) (nI i) set own := by
  have vi : vp_in (nI i) 40 := vp_in_nI hi (by omega)
  have ci : (nI i).toNatClampNeg = i := nI_clamp (by omega)
  have eK : iK (nI i).toNatClampNeg = nI 8 := by rw [ci]; exact hk
  exact ⟨vi, nm_r (by rw [ci]) ⟨vi, nm_r eK (br_f (by decide) (br_f (by decide) (br_f (by decide) (br_f (by decide) (br_f (by decide) (br_f (by decide) (br_f (by decide) (br_f (by decide) (br_f (by decide) (br_f (by decide) (br_t (by decide) (h))))))))))))⟩⟩
theorem fu_X9 {post : Int32 → SX → Prop} {set own : Int32} {i : Nat} (hi : i < 40) (hk : iK i = nI 9) (h : post set (xic, xoc, xfc, xhf, xil, xll, xol, xea, xwr, xcu, xfo, xsp, xpo, xbl, xli, xvu, iK, iA, iB, xM, xO, upd xS i set, FK, FA, FB, FM, inp, lst, out, vs, xR, xL)) : wpX_setBehind post (xic, xoc, xfc, xhf, xil, xll, xol, xea, xwr, xcu, xfo, xsp, xpo, xbl, xli, xvu, iK, iA, iB, xM, xO, xS, FK, FA, FB, FM, inp, lst, out, vs, xR, xL) (nI i) set own := by
  have vi : vp_in (nI i) 40 := vp_in_nI hi (by omega)
  have ci : (nI i).toNatClampNeg = i := nI_clamp (by omega)
  have eK : iK (nI i).toNatClampNeg = nI 9 := by rw [ci]; exact hk
  exact ⟨vi, nm_r (by rw [ci]) ⟨vi, nm_r eK (br_f (by decide) (br_f (by decide) (br_f (by decide) (br_f (by decide) (br_f (by decide) (br_f (by decide) (br_f (by decide) (br_f (by decide) (br_f (by decide) (br_f (by decide) (br_f (by decide) (br_t (by decide) (h)))))))))))))⟩⟩
theorem fu_X10 {post : Int32 → SX → Prop} {set own : Int32} {i : Nat} (hi : i < 40) (hk : iK i = nI 10) (h : post (set ||| own) (xic, xoc, xfc, xhf, xil, xll, xol, xea, xwr, xcu, xfo, xsp, xpo, xbl, xli, xvu, iK, iA, iB, xM, xO, upd xS i set, FK, FA, FB, FM, inp, lst, out, vs, xR, xL)) : wpX_setBehind post (xic, xoc, xfc, xhf, xil, xll, xol, xea, xwr, xcu, xfo, xsp, xpo, xbl, xli, xvu, iK, iA, iB, xM, xO, xS, FK, FA, FB, FM, inp, lst, out, vs, xR, xL) (nI i) set own := by
  have vi : vp_in (nI i) 40 := vp_in_nI hi (by omega)
  have ci : (nI i).toNatClampNeg = i := nI_clamp (by omega)
  have eK : iK (nI i).toNatClampNeg = nI 10 := by rw [ci]; exact hk
  exact ⟨vi, nm_r (by rw [ci]) ⟨vi, nm_r eK (br_f (by decide) (br_f (by decide) (br_f (by decide) (br_f (by decide) (br_f (by decide) (br_f (by decide) (br_f (by decide) (br_f (by decide) (br_f (by decide) (br_f (by decide) (br_f (by decide) (br_f (by decide) (br_t (by decide) (h))))))))))))))⟩⟩
theorem fu_X11 {post : Int32 → SX → Prop} {set own : Int32} {i : Nat} (hi : i < 40) (hk : iK i = nI 11) (h : post (set ||| own) (xic, xoc, xfc, xhf, xil, xll, xol, xea, xwr, xcu, xfo, xsp, xpo, xbl, xli, xvu, iK, iA, iB, xM, xO, upd xS i set, FK, FA, FB, FM, inp, lst, out, vs, xR, xL)) : wpX_setBehind post (xic, xoc, xfc, xhf, xil, xll, xol, xea, xwr, xcu, xfo, xsp, xpo, xbl, xli, xvu, iK, iA, iB, xM, xO, xS, FK, FA, FB, FM, inp, lst, out, vs, xR, xL) (nI i) set own := by
  have vi : vp_in (nI i) 40 := vp_in_nI hi (by omega)
  have ci : (nI i).toNatClampNeg = i := nI_clamp (by omega)
  have eK : iK (nI i).toNatClampNeg = nI 11 := by rw [ci]; exact hk
  exact ⟨vi, nm_r (by rw [ci]) ⟨vi, nm_r eK (br_f (by decide) (br_f (by decide) (br_f (by decide) (br_f (by decide) (br_f (by decide) (br_f (by decide) (br_f (by decide) (br_f (by decide) (br_f (by decide) (br_f (by decide) (br_f (by decide) (br_f (by decide) (br_f (by decide) (br_t (by decide) (h)))))))))))))))⟩⟩
theorem fu_X12 {post : Int32 → SX → Prop} {set own : Int32} {i t o : Nat} (hi : i < 40) (hk : iK i = nI 12) (ht : t < 40) (ho : o < 40) (hM : xM i = nI t) (hM2 : xM t = nI o) (hne : o ≠ i) (h : post (xS o) (xic, xoc, xfc, xhf, xil, xll, xol, xea, xwr, xcu, xfo, xsp, xpo, xbl, xli, xvu, iK, iA, iB, xM, xO, upd xS i set, FK, FA, FB, FM, inp, lst, out, vs, xR, xL)) : wpX_setBehind post (xic, xoc, xfc, xhf, xil, xll, xol, xea, xwr, xcu, xfo, xsp, xpo, xbl, xli, xvu, iK, iA, iB, xM, xO, xS, FK, FA, FB, FM, inp, lst, out, vs, xR, xL) (nI i) set own := by
  have vi : vp_in (nI i) 40 := vp_in_nI hi (by omega)
  have ci : (nI i).toNatClampNeg = i := nI_clamp (by omega)
  have eK : iK (nI i).toNatClampNeg = nI 12 := by rw [ci]; exact hk
  have m1 : xM (nI i).toNatClampNeg = nI t := by rw [ci]; exact hM
  have m2 : xM (nI t).toNatClampNeg = nI o := by rw [nI_clamp (by omega)]; exact hM2
  have co : (nI o).toNatClampNeg = o := nI_clamp (by omega)
  refine ⟨vi, nm_r (by rw [ci]) ⟨vi, nm_r eK (br_f (by decide) (br_f (by decide) (br_f (by decide) (br_f (by decide) (br_f (by decide) (br_f (by decide) (br_f (by decide) (br_f (by decide) (br_f (by decide) (br_f (by decide) (br_f (by decide) (br_f (by decide) (br_f (by decide) (br_f (by decide) (br_t (by decide) (⟨vi, ?_⟩))))))))))))))))⟩⟩
  rw [m1, m2, co, pk_un hne]
  exact ⟨vp_in_nI ht (by omega), vp_in_nI ho (by omega), h⟩
theorem fu_X13_b {post : Int32 → SX → Prop} {set own : Int32} {i o : Nat} (hi : i < 40) (hk : iK i = nI 13) (ho : o < 40) (hM : xM i = nI o) (h6 : iK o = 6) (h : post set (xic, xoc, xfc, xhf, xil, xll, xol, xea, xwr, xcu, xfo, xsp, xpo, xbl, xli, xvu, iK, iA, iB, xM, xO, upd xS i set, FK, FA, FB, FM, inp, lst, out, vs, xR, xL)) : wpX_setBehind post (xic, xoc, xfc, xhf, xil, xll, xol, xea, xwr, xcu, xfo, xsp, xpo, xbl, xli, xvu, iK, iA, iB, xM, xO, xS, FK, FA, FB, FM, inp, lst, out, vs, xR, xL) (nI i) set own := by
  have vi : vp_in (nI i) 40 := vp_in_nI hi (by omega)
  have ci : (nI i).toNatClampNeg = i := nI_clamp (by omega)
  have eK : iK (nI i).toNatClampNeg = nI 13 := by rw [ci]; exact hk
  have m1 : xM (nI i).toNatClampNeg = nI o := by rw [ci]; exact hM
  have co : (nI o).toNatClampNeg = o := nI_clamp (by omega)
  have vo : vp_in (nI o) 40 := vp_in_nI ho (by omega)
  have k6 : iK (nI o).toNatClampNeg = 6 := by rw [co]; exact h6
  refine ⟨vi, nm_r (by rw [ci]) ⟨vi, nm_r eK (br_f (by decide) (br_f (by decide) (br_f (by decide) (br_f (by decide) (br_f (by decide) (br_f (by decide) (br_f (by decide) (br_f (by decide) (br_f (by decide) (br_f (by decide) (br_f (by decide) (br_f (by decide) (br_f (by decide) (br_f (by decide) (br_f (by decide) (br_t (by decide) (?_)))))))))))))))))⟩⟩
  unfold wpX_setBehindEnd
  exact ⟨vi, nm_r m1 ⟨vo, br_t k6 h⟩⟩
theorem fu_X13_0 {post : Int32 → SX → Prop} {set own : Int32} {i o : Nat} (hi : i < 40) (hk : iK i = nI 13) (ho : o < 40) (hM : xM i = nI o) (h6 : ¬ iK o = 6) (hM2 : xM o = nI i) (hne : o ≠ i) (h : post (set &&& xS o) (xic, xoc, xfc, xhf, xil, xll, xol, xea, xwr, xcu, xfo, xsp, xpo, xbl, xli, xvu, iK, iA, iB, xM, xO, upd xS i set, FK, FA, FB, FM, inp, lst, out, vs, xR, xL)) : wpX_setBehind post (xic, xoc, xfc, xhf, xil, xll, xol, xea, xwr, xcu, xfo, xsp, xpo, xbl, xli, xvu, iK, iA, iB, xM, xO, xS, FK, FA, FB, FM, inp, lst, out, vs, xR, xL) (nI i) set own := by
  have vi : vp_in (nI i) 40 := vp_in_nI hi (by omega)
  have ci : (nI i).toNatClampNeg = i := nI_clamp (by omega)
  have eK : iK (nI i).toNatClampNeg = nI 13 := by rw [ci]; exact hk
  have m1 : xM (nI i).toNatClampNeg = nI o := by rw [ci]; exact hM
  have co : (nI o).toNatClampNeg = o := nI_clamp (by omega)
  have vo : vp_in (nI o) 40 := vp_in_nI ho (by omega)
  have k6 : ¬ iK (nI o).toNatClampNeg = 6 := by rw [co]; exact h6
  have m2 : xM (nI o).toNatClampNeg = nI i := by rw [co]; exact hM2
  refine ⟨vi, nm_r (by rw [ci]) ⟨vi, nm_r eK (br_f (by decide) (br_f (by decide) (br_f (by decide) (br_f (by decide) (br_f (by decide) (br_f (by decide) (br_f (by decide) (br_f (by decide) (br_f (by decide) (br_f (by decide) (br_f (by decide) (br_f (by decide) (br_f (by decide) (br_f (by decide) (br_f (by decide) (br_t (by decide) (?_)))))))))))))))))⟩⟩
  unfold wpX_setBehindEnd
  refine ⟨vi, nm_r m1 ⟨vo, br_f k6 ⟨vo, br_t m2 ⟨vo, ?_⟩⟩⟩⟩
  rw [co, pk_un hne]
  exact h
theorem fu_X13_e {post : Int32 → SX → Prop} {set own : Int32} {i o e : Nat} (hi : i < 40) (hk : iK i = nI 13) (ho : o < 40) (he : e < 40) (hM : xM i = nI o) (h6 : ¬ iK o = 6) (hM2 : xM o = nI e) (hne : e ≠ i) (h : post (set &&& xS e) (xic, xoc, xfc, xhf, xil, xll, xol, xea, xwr, xcu, xfo, xsp, xpo, xbl, xli, xvu, iK, iA, iB, xM, xO, upd xS i set, FK, FA, FB, FM, inp, lst, out, vs, xR, xL)) : wpX_setBehind post (xic, xoc, xfc, xhf, xil, xll, xol, xea, xwr, xcu, xfo, xsp, xpo, xbl, xli, xvu, iK, iA, iB, xM, xO, xS, FK, FA, FB, FM, inp, lst, out, vs, xR, xL) (nI i) set own := by
  have vi : vp_in (nI i) 40 := vp_in_nI hi (by omega)
  have ci : (nI i).toNatClampNeg = i := nI_clamp (by omega)
  have eK : iK (nI i).toNatClampNeg = nI 13 := by rw [ci]; exact hk
  have m1 : xM (nI i).toNatClampNeg = nI o := by rw [ci]; exact hM
  have co : (nI o).toNatClampNeg = o := nI_clamp (by omega)
  have vo : vp_in (nI o) 40 := vp_in_nI ho (by omega)
  have k6 : ¬ iK (nI o).toNatClampNeg = 6 := by rw [co]; exact h6
  have m2 : xM (nI o).toNatClampNeg = nI e := by rw [co]; exact hM2
  have m3 : ¬ xM (nI o).toNatClampNeg = nI i := by
    rw [m2]
    intro z
    exact hne ((nI_eq (by omega) (by omega)).mp z)
  refine ⟨vi, nm_r (by rw [ci]) ⟨vi, nm_r eK (br_f (by decide) (br_f (by decide) (br_f (by decide) (br_f (by decide) (br_f (by decide) (br_f (by decide) (br_f (by decide) (br_f (by decide) (br_f (by decide) (br_f (by decide) (br_f (by decide) (br_f (by decide) (br_f (by decide) (br_f (by decide) (br_f (by decide) (br_t (by decide) (?_)))))))))))))))))⟩⟩
  unfold wpX_setBehindEnd
  refine ⟨vi, nm_r m1 ⟨vo, br_f k6 ⟨vo, br_f m3 ⟨vo, ?_⟩⟩⟩⟩
  rw [m2]
  refine ⟨vp_in_nI he (by omega), ?_⟩
  rw [nI_clamp (by omega), pk_un hne]
  exact h
theorem fu_Y0 {post : Int32 → SY → Prop} {J : Int32 → Int32 → Int32 → (Nat → Int32) → (Nat → Int32) → (Nat → Int32) → (Nat → Int32) → (Nat → Int32) → (Nat → Int32) → (Nat → Int32) → (Nat → Int32) → (Nat → Int32) → (Nat → Int32) → (Nat → Int32) → (Nat → Int32) → (Nat → Int32) → (Nat → Int32) → Prop} {set : Int32} {oc i v : Nat} (h : J (set ||| ((1 : Int32) <<< (nI v &&& 31))) (nI oc) (nI (i + 1)) iK iA iB FK FA FB inp lst out vs yO yN yS yT) : ((nI 0 < 4 → wY_unset_46 post J set (nI oc) (nI i) (nI 0) (nI v) yic ysz yfd yls ymd ysa ytk ydp yps ybi ysp yus ynx yra yrd iK iA iB FK FA FB inp lst out vs yO yN yS yT) ∧ (¬ nI 0 < 4 → ((nI 0 ≤ 6 → wY_unset_60 post J set (nI oc) (nI i) (nI 0) (nI v) yic ysz yfd yls ymd ysa ytk ydp yps ybi ysp yus ynx yra yrd iK iA iB FK FA FB inp lst out vs yO yN yS yT) ∧ (¬ nI 0 ≤ 6 → wY_unset_46 post J set (nI oc) (nI i) (nI 0) (nI v) yic ysz yfd yls ymd ysa ytk ydp yps ybi ysp yus ynx yra yrd iK iA iB FK FA FB inp lst out vs yO yN yS yT)))) :=
  br_t (by decide) (br_f (by decide) (br_f (by decide) (br_t rfl (br_t (by decide) (nm_e (br_t (by decide) (br_f (by decide) (br_f (by decide) (nm_r (nI_1 i) h)))))))))
theorem fu_Y1 {post : Int32 → SY → Prop} {J : Int32 → Int32 → Int32 → (Nat → Int32) → (Nat → Int32) → (Nat → Int32) → (Nat → Int32) → (Nat → Int32) → (Nat → Int32) → (Nat → Int32) → (Nat → Int32) → (Nat → Int32) → (Nat → Int32) → (Nat → Int32) → (Nat → Int32) → (Nat → Int32) → (Nat → Int32) → Prop} {set : Int32} {oc i v : Nat} (h : J (set ||| ((1 : Int32) <<< (nI v &&& 31))) (nI oc) (nI (i + 1)) iK iA iB FK FA FB inp lst out vs yO yN yS yT) : ((nI 1 < 4 → wY_unset_46 post J set (nI oc) (nI i) (nI 1) (nI v) yic ysz yfd yls ymd ysa ytk ydp yps ybi ysp yus ynx yra yrd iK iA iB FK FA FB inp lst out vs yO yN yS yT) ∧ (¬ nI 1 < 4 → ((nI 1 ≤ 6 → wY_unset_60 post J set (nI oc) (nI i) (nI 1) (nI v) yic ysz yfd yls ymd ysa ytk ydp yps ybi ysp yus ynx yra yrd iK iA iB FK FA FB inp lst out vs yO yN yS yT) ∧ (¬ nI 1 ≤ 6 → wY_unset_46 post J set (nI oc) (nI i) (nI 1) (nI v) yic ysz yfd yls ymd ysa ytk ydp yps ybi ysp yus ynx yra yrd iK iA iB FK FA FB inp lst out vs yO yN yS yT)))) :=
  br_t (by decide) (br_f (by decide) (br_f (by decide) (br_t rfl (br_t (by decide) (nm_e (br_t (by decide) (br_f (by decide) (br_f (by decide) (nm_r (nI_1 i) h)))))))))
theorem fu_Y2 {post : Int32 → SY → Prop} {J : Int32 → Int32 → Int32 → (Nat → Int32) → (Nat → Int32) → (Nat → Int32) → (Nat → Int32) → (Nat → Int32) → (Nat → Int32) → (Nat → Int32) → (Nat → Int32) → (Nat → Int32) → (Nat → Int32) → (Nat → Int32) → (Nat → Int32) → (Nat → Int32) → (Nat → Int32) → Prop} {set : Int32} {oc i v : Nat} (h : J (set ||| ((1 : Int32) <<< (nI v &&& 31))) (nI oc) (nI (i + 1)) iK iA iB FK FA FB inp lst out vs yO yN yS yT) : ((nI 2 < 4 → wY_unset_46 post J set (nI oc) (nI i) (nI 2) (nI v) yic ysz yfd yls ymd ysa ytk ydp yps ybi ysp yus ynx yra yrd iK iA iB FK FA FB inp lst out vs yO yN yS yT) ∧ (¬ nI 2 < 4 → ((nI 2 ≤ 6 → wY_unset_60 post J set (nI oc) (nI i) (nI 2) (nI v) yic ysz yfd yls ymd ysa ytk ydp yps ybi ysp yus ynx yra yrd iK iA iB FK FA FB inp lst out vs yO yN yS yT) ∧ (¬ nI 2 ≤ 6 → wY_unset_46 post J set (nI oc) (nI i) (nI 2) (nI v) yic ysz yfd yls ymd ysa ytk ydp yps ybi ysp yus ynx yra yrd iK iA iB FK FA FB inp lst out vs yO yN yS yT)))) :=
  br_t (by decide) (br_f (by decide) (br_f (by decide) (br_t rfl (br_t (by decide) (nm_e (br_t (by decide) (br_f (by decide) (br_f (by decide) (nm_r (nI_1 i) h)))))))))
theorem fu_Y3 {post : Int32 → SY → Prop} {J : Int32 → Int32 → Int32 → (Nat → Int32) → (Nat → Int32) → (Nat → Int32) → (Nat → Int32) → (Nat → Int32) → (Nat → Int32) → (Nat → Int32) → (Nat → Int32) → (Nat → Int32) → (Nat → Int32) → (Nat → Int32) → (Nat → Int32) → (Nat → Int32) → (Nat → Int32) → Prop} {set : Int32} {oc i v : Nat} (h : J set (nI oc) (nI (i + 1)) iK iA iB FK FA FB inp lst out vs yO yN yS yT) : ((nI 3 < 4 → wY_unset_46 post J set (nI oc) (nI i) (nI 3) (nI v) yic ysz yfd yls ymd ysa ytk ydp yps ybi ysp yus ynx yra yrd iK iA iB FK FA FB inp lst out vs yO yN yS yT) ∧ (¬ nI 3 < 4 → ((nI 3 ≤ 6 → wY_unset_60 post J set (nI oc) (nI i) (nI 3) (nI v) yic ysz yfd yls ymd ysa ytk ydp yps ybi ysp yus ynx yra yrd iK iA iB FK FA FB inp lst out vs yO yN yS yT) ∧ (¬ nI 3 ≤ 6 → wY_unset_46 post J set (nI oc) (nI i) (nI 3) (nI v) yic ysz yfd yls ymd ysa ytk ydp yps ybi ysp yus ynx yra yrd iK iA iB FK FA FB inp lst out vs yO yN yS yT)))) :=
  br_t (by decide) (br_f (by decide) (br_f (by decide) (br_t rfl (br_f (by decide) (br_f (by decide) (br_f (by decide) (br_t (by decide) (br_f (by decide) (br_f (by decide) (nm_r (nI_1 i) h))))))))))
theorem fu_Y4 {post : Int32 → SY → Prop} {J : Int32 → Int32 → Int32 → (Nat → Int32) → (Nat → Int32) → (Nat → Int32) → (Nat → Int32) → (Nat → Int32) → (Nat → Int32) → (Nat → Int32) → (Nat → Int32) → (Nat → Int32) → (Nat → Int32) → (Nat → Int32) → (Nat → Int32) → (Nat → Int32) → (Nat → Int32) → Prop} {set : Int32} {oc i v : Nat} (ho : oc < 4) (hb : ¬ ((set >>> (nI v &&& 31)) &&& 1) = 0) (h : J set (nI (oc + 1)) (nI (i + 1)) iK iA iB FK FA FB inp lst out vs (upd yO oc (nI 4)) yN (upd yS oc set) yT) : ((nI 4 < 4 → wY_unset_46 post J set (nI oc) (nI i) (nI 4) (nI v) yic ysz yfd yls ymd ysa ytk ydp yps ybi ysp yus ynx yra yrd iK iA iB FK FA FB inp lst out vs yO yN yS yT) ∧ (¬ nI 4 < 4 → ((nI 4 ≤ 6 → wY_unset_60 post J set (nI oc) (nI i) (nI 4) (nI v) yic ysz yfd yls ymd ysa ytk ydp yps ybi ysp yus ynx yra yrd iK iA iB FK FA FB inp lst out vs yO yN yS yT) ∧ (¬ nI 4 ≤ 6 → wY_unset_46 post J set (nI oc) (nI i) (nI 4) (nI v) yic ysz yfd yls ymd ysa ytk ydp yps ybi ysp yus ynx yra yrd iK iA iB FK FA FB inp lst out vs yO yN yS yT)))) := by
  have v5 : vp_in (nI oc) 5 := vp_in_nI (by omega) (by omega)
  have co : (nI oc).toNatClampNeg = oc := nI_clamp (by omega)
  exact br_f (by decide) (br_t (by decide) (br_f (by decide) (br_f hb (br_f (by decide) (br_f (by decide) (br_f (by decide) (br_f (by decide) (br_f (by decide) (⟨v5, nm_r (by rw [co]) (nm_r (nI_1 oc) ⟨v5, nm_r (by rw [co]) (br_f (by decide) (br_f (by decide) (nm_r (nI_1 i) h)))⟩)⟩)))))))))
theorem fu_Y5 {post : Int32 → SY → Prop} {J : Int32 → Int32 → Int32 → (Nat → Int32) → (Nat → Int32) → (Nat → Int32) → (Nat → Int32) → (Nat → Int32) → (Nat → Int32) → (Nat → Int32) → (Nat → Int32) → (Nat → Int32) → (Nat → Int32) → (Nat → Int32) → (Nat → Int32) → (Nat → Int32) → (Nat → Int32) → Prop} {set : Int32} {oc i v : Nat} (ho : oc < 4) (hb : ¬ ((set >>> (nI v &&& 31)) &&& 1) = 0) (h : J set (nI (oc + 1)) (nI (i + 1)) iK iA iB FK FA FB inp lst out vs (upd yO oc (nI 5)) yN (upd yS oc set) yT) : ((nI 5 < 4 → wY_unset_46 post J set (nI oc) (nI i) (nI 5) (nI v) yic ysz yfd yls ymd ysa ytk ydp yps ybi ysp yus ynx yra yrd iK iA iB FK FA FB inp lst out vs yO yN yS yT) ∧ (¬ nI 5 < 4 → ((nI 5 ≤ 6 → wY_unset_60 post J set (nI oc) (nI i) (nI 5) (nI v) yic ysz yfd yls ymd ysa ytk ydp yps ybi ysp yus ynx yra yrd iK iA iB FK FA FB inp lst out vs yO yN yS yT) ∧ (¬ nI 5 ≤ 6 → wY_unset_46 post J set (nI oc) (nI i) (nI 5) (nI v) yic ysz yfd yls ymd ysa ytk ydp yps ybi ysp yus ynx yra yrd iK iA iB FK FA FB inp lst out vs yO yN yS yT)))) := by
  have v5 : vp_in (nI oc) 5 := vp_in_nI (by omega) (by omega)
  have co : (nI oc).toNatClampNeg = oc := nI_clamp (by omega)
  exact br_f (by decide) (br_t (by decide) (br_f (by decide) (br_f hb (br_f (by decide) (br_f (by decide) (br_f (by decide) (br_f (by decide) (br_f (by decide) (⟨v5, nm_r (by rw [co]) (nm_r (nI_1 oc) ⟨v5, nm_r (by rw [co]) (br_f (by decide) (br_f (by decide) (nm_r (nI_1 i) h)))⟩)⟩)))))))))
theorem fu_Y6 {post : Int32 → SY → Prop} {J : Int32 → Int32 → Int32 → (Nat → Int32) → (Nat → Int32) → (Nat → Int32) → (Nat → Int32) → (Nat → Int32) → (Nat → Int32) → (Nat → Int32) → (Nat → Int32) → (Nat → Int32) → (Nat → Int32) → (Nat → Int32) → (Nat → Int32) → (Nat → Int32) → (Nat → Int32) → Prop} {set : Int32} {oc i v : Nat} (ho : oc < 4) (hb : ¬ ((set >>> (nI v &&& 31)) &&& 1) = 0) (h : J set (nI (oc + 1)) (nI (i + 1)) iK iA iB FK FA FB inp lst out vs (upd yO oc (nI 6)) yN (upd yS oc set) yT) : ((nI 6 < 4 → wY_unset_46 post J set (nI oc) (nI i) (nI 6) (nI v) yic ysz yfd yls ymd ysa ytk ydp yps ybi ysp yus ynx yra yrd iK iA iB FK FA FB inp lst out vs yO yN yS yT) ∧ (¬ nI 6 < 4 → ((nI 6 ≤ 6 → wY_unset_60 post J set (nI oc) (nI i) (nI 6) (nI v) yic ysz yfd yls ymd ysa ytk ydp yps ybi ysp yus ynx yra yrd iK iA iB FK FA FB inp lst out vs yO yN yS yT) ∧ (¬ nI 6 ≤ 6 → wY_unset_46 post J set (nI oc) (nI i) (nI 6) (nI v) yic ysz yfd yls ymd ysa ytk ydp yps ybi ysp yus ynx yra yrd iK iA iB FK FA FB inp lst out vs yO yN yS yT)))) := by
  have v5 : vp_in (nI oc) 5 := vp_in_nI (by omega) (by omega)
  have co : (nI oc).toNatClampNeg = oc := nI_clamp (by omega)
  exact br_f (by decide) (br_t (by decide) (br_f (by decide) (br_f hb (br_f (by decide) (br_f (by decide) (br_f (by decide) (br_f (by decide) (br_f (by decide) (⟨v5, nm_r (by rw [co]) (nm_r (nI_1 oc) ⟨v5, nm_r (by rw [co]) (br_f (by decide) (br_f (by decide) (nm_r (nI_1 i) h)))⟩)⟩)))))))))
theorem fu_Y7 {post : Int32 → SY → Prop} {J : Int32 → Int32 → Int32 → (Nat → Int32) → (Nat → Int32) → (Nat → Int32) → (Nat → Int32) → (Nat → Int32) → (Nat → Int32) → (Nat → Int32) → (Nat → Int32) → (Nat → Int32) → (Nat → Int32) → (Nat → Int32) → (Nat → Int32) → (Nat → Int32) → (Nat → Int32) → Prop} {set : Int32} {oc i v : Nat} (h : J set (nI oc) (nI (i + 1)) iK iA iB FK FA FB inp lst out vs yO yN yS yT) : ((nI 7 < 4 → wY_unset_46 post J set (nI oc) (nI i) (nI 7) (nI v) yic ysz yfd yls ymd ysa ytk ydp yps ybi ysp yus ynx yra yrd iK iA iB FK FA FB inp lst out vs yO yN yS yT) ∧ (¬ nI 7 < 4 → ((nI 7 ≤ 6 → wY_unset_60 post J set (nI oc) (nI i) (nI 7) (nI v) yic ysz yfd yls ymd ysa ytk ydp yps ybi ysp yus ynx yra yrd iK iA iB FK FA FB inp lst out vs yO yN yS yT) ∧ (¬ nI 7 ≤ 6 → wY_unset_46 post J set (nI oc) (nI i) (nI 7) (nI v) yic ysz yfd yls ymd ysa ytk ydp yps ybi ysp yus ynx yra yrd iK iA iB FK FA FB inp lst out vs yO yN yS yT)))) :=
  br_f (by decide) (br_f (by decide) (br_f (by decide) (br_f (by decide) (br_t rfl (br_f (by decide) (br_f (by decide) (br_f (by decide) (br_f (by decide) (br_t (by decide) (br_f (by decide) (br_f (by decide) (nm_r (nI_1 i) h))))))))))))
theorem fu_Y8 {post : Int32 → SY → Prop} {J : Int32 → Int32 → Int32 → (Nat → Int32) → (Nat → Int32) → (Nat → Int32) → (Nat → Int32) → (Nat → Int32) → (Nat → Int32) → (Nat → Int32) → (Nat → Int32) → (Nat → Int32) → (Nat → Int32) → (Nat → Int32) → (Nat → Int32) → (Nat → Int32) → (Nat → Int32) → Prop} {set : Int32} {oc i v : Nat} (h : J set (nI oc) (nI (i + 1)) iK iA iB FK FA FB inp lst out vs yO yN yS yT) : ((nI 8 < 4 → wY_unset_46 post J set (nI oc) (nI i) (nI 8) (nI v) yic ysz yfd yls ymd ysa ytk ydp yps ybi ysp yus ynx yra yrd iK iA iB FK FA FB inp lst out vs yO yN yS yT) ∧ (¬ nI 8 < 4 → ((nI 8 ≤ 6 → wY_unset_60 post J set (nI oc) (nI i) (nI 8) (nI v) yic ysz yfd yls ymd ysa ytk ydp yps ybi ysp yus ynx yra yrd iK iA iB FK FA FB inp lst out vs yO yN yS yT) ∧ (¬ nI 8 ≤ 6 → wY_unset_46 post J set (nI oc) (nI i) (nI 8) (nI v) yic ysz yfd yls ymd ysa ytk ydp yps ybi ysp yus ynx yra yrd iK iA iB FK FA FB inp lst out vs yO yN yS yT)))) :=
  br_f (by decide) (br_f (by decide) (br_f (by decide) (br_f (by decide) (br_t rfl (br_f (by decide) (br_f (by decide) (br_f (by decide) (br_f (by decide) (br_t (by decide) (br_f (by decide) (br_f (by decide) (nm_r (nI_1 i) h))))))))))))
theorem fu_Y9 {post : Int32 → SY → Prop} {J : Int32 → Int32 → Int32 → (Nat → Int32) → (Nat → Int32) → (Nat → Int32) → (Nat → Int32) → (Nat → Int32) → (Nat → Int32) → (Nat → Int32) → (Nat → Int32) → (Nat → Int32) → (Nat → Int32) → (Nat → Int32) → (Nat → Int32) → (Nat → Int32) → (Nat → Int32) → Prop} {set : Int32} {oc i v : Nat} (hb : ¬ ((set >>> (nI v &&& 31)) &&& 1) = 0) (h : J set (nI oc) (nI (i + 1)) iK iA iB FK FA FB inp lst out vs yO yN yS yT) : ((nI 9 < 4 → wY_unset_46 post J set (nI oc) (nI i) (nI 9) (nI v) yic ysz yfd yls ymd ysa ytk ydp yps ybi ysp yus ynx yra yrd iK iA iB FK FA FB inp lst out vs yO yN yS yT) ∧ (¬ nI 9 < 4 → ((nI 9 ≤ 6 → wY_unset_60 post J set (nI oc) (nI i) (nI 9) (nI v) yic ysz yfd yls ymd ysa ytk ydp yps ybi ysp yus ynx yra yrd iK iA iB FK FA FB inp lst out vs yO yN yS yT) ∧ (¬ nI 9 ≤ 6 → wY_unset_46 post J set (nI oc) (nI i) (nI 9) (nI v) yic ysz yfd yls ymd ysa ytk ydp yps ybi ysp yus ynx yra yrd iK iA iB FK FA FB inp lst out vs yO yN yS yT)))) :=
  br_f (by decide) (br_f (by decide) (br_t (by decide) (br_f (by decide) (br_f hb (br_f (by decide) (br_f (by decide) (br_f (by decide) (br_f (by decide) (br_t (by decide) (br_f (by decide) (br_f (by decide) (nm_r (nI_1 i) h))))))))))))
theorem fu_Y10 {post : Int32 → SY → Prop} {J : Int32 → Int32 → Int32 → (Nat → Int32) → (Nat → Int32) → (Nat → Int32) → (Nat → Int32) → (Nat → Int32) → (Nat → Int32) → (Nat → Int32) → (Nat → Int32) → (Nat → Int32) → (Nat → Int32) → (Nat → Int32) → (Nat → Int32) → (Nat → Int32) → (Nat → Int32) → Prop} {set : Int32} {oc i v : Nat} (h : J (set ||| ((1 : Int32) <<< (nI v &&& 31))) (nI oc) (nI (i + 1)) iK iA iB FK FA FB inp lst out vs yO yN yS yT) : ((nI 10 < 4 → wY_unset_46 post J set (nI oc) (nI i) (nI 10) (nI v) yic ysz yfd yls ymd ysa ytk ydp yps ybi ysp yus ynx yra yrd iK iA iB FK FA FB inp lst out vs yO yN yS yT) ∧ (¬ nI 10 < 4 → ((nI 10 ≤ 6 → wY_unset_60 post J set (nI oc) (nI i) (nI 10) (nI v) yic ysz yfd yls ymd ysa ytk ydp yps ybi ysp yus ynx yra yrd iK iA iB FK FA FB inp lst out vs yO yN yS yT) ∧ (¬ nI 10 ≤ 6 → wY_unset_46 post J set (nI oc) (nI i) (nI 10) (nI v) yic ysz yfd yls ymd ysa ytk ydp yps ybi ysp yus ynx yra yrd iK iA iB FK FA FB inp lst out vs yO yN yS yT)))) :=
  br_f (by decide) (br_f (by decide) (br_f (by decide) (br_f (by decide) (br_t rfl (br_f (by decide) (br_t (by decide) (nm_e (br_f (by decide) (br_t (by decide) (br_f (by decide) (br_f (by decide) (nm_r (nI_1 i) h))))))))))))
theorem fu_Y11 {post : Int32 → SY → Prop} {J : Int32 → Int32 → Int32 → (Nat → Int32) → (Nat → Int32) → (Nat → Int32) → (Nat → Int32) → (Nat → Int32) → (Nat → Int32) → (Nat → Int32) → (Nat → Int32) → (Nat → Int32) → (Nat → Int32) → (Nat → Int32) → (Nat → Int32) → (Nat → Int32) → (Nat → Int32) → Prop} {set : Int32} {oc i v : Nat} (hb : ¬ ((set >>> (nI v &&& 31)) &&& 1) = 0) (h : J (set ||| ((1 : Int32) <<< (nI v &&& 31))) (nI oc) (nI (i + 1)) iK iA iB FK FA FB inp lst out vs yO yN yS yT) : ((nI 11 < 4 → wY_unset_46 post J set (nI oc) (nI i) (nI 11) (nI v) yic ysz yfd yls ymd ysa ytk ydp yps ybi ysp yus ynx yra yrd iK iA iB FK FA FB inp lst out vs yO yN yS yT) ∧ (¬ nI 11 < 4 → ((nI 11 ≤ 6 → wY_unset_60 post J set (nI oc) (nI i) (nI 11) (nI v) yic ysz yfd yls ymd ysa ytk ydp yps ybi ysp yus ynx yra yrd iK iA iB FK FA FB inp lst out vs yO yN yS yT) ∧ (¬ nI 11 ≤ 6 → wY_unset_46 post J set (nI oc) (nI i) (nI 11) (nI v) yic ysz yfd yls ymd ysa ytk ydp yps ybi ysp yus ynx yra yrd iK iA iB FK FA FB inp lst out vs yO yN yS yT)))) :=
  br_f (by decide) (br_f (by decide) (br_f (by decide) (br_t (by decide) (br_f (by decide) (br_f hb (br_f (by decide) (br_f (by decide) (br_t (by decide) (nm_e (br_f (by decide) (br_t (by decide) (br_f (by decide) (br_f (by decide) (nm_r (nI_1 i) h))))))))))))))
theorem fu_Y12 {post : Int32 → SY → Prop} {J : Int32 → Int32 → Int32 → (Nat → Int32) → (Nat → Int32) → (Nat → Int32) → (Nat → Int32) → (Nat → Int32) → (Nat → Int32) → (Nat → Int32) → (Nat → Int32) → (Nat → Int32) → (Nat → Int32) → (Nat → Int32) → (Nat → Int32) → (Nat → Int32) → (Nat → Int32) → Prop} {set : Int32} {oc i v l : Nat} (hl : oc = l + 1) (ho : oc ≤ 4) (h : J (yS l) (nI oc) (nI (i + 1)) iK iA iB FK FA FB inp lst out vs (upd yO l 12) yN yS (upd yT l set)) : ((nI 12 < 4 → wY_unset_46 post J set (nI oc) (nI i) (nI 12) (nI v) yic ysz yfd yls ymd ysa ytk ydp yps ybi ysp yus ynx yra yrd iK iA iB FK FA FB inp lst out vs yO yN yS yT) ∧ (¬ nI 12 < 4 → ((nI 12 ≤ 6 → wY_unset_60 post J set (nI oc) (nI i) (nI 12) (nI v) yic ysz yfd yls ymd ysa ytk ydp yps ybi ysp yus ynx yra yrd iK iA iB FK FA FB inp lst out vs yO yN yS yT) ∧ (¬ nI 12 ≤ 6 → wY_unset_46 post J set (nI oc) (nI i) (nI 12) (nI v) yic ysz yfd yls ymd ysa ytk ydp yps ybi ysp yus ynx yra yrd iK iA iB FK FA FB inp lst out vs yO yN yS yT)))) := by
  have em : nI oc - 1 = nI l := by rw [hl]; exact nI_pred _
  have v5 : vp_in (nI oc - 1) 5 := by rw [em]; exact vp_in_nI (by omega) (by omega)
  have cm : (nI oc - 1).toNatClampNeg = l := by rw [em]; exact nI_clamp (by omega)
  exact br_f (by decide) (br_f (by decide) (br_f (by decide) (br_f (by decide) (br_t rfl (br_f (by decide) (br_f (by decide) (br_f (by decide) (br_f (by decide) (br_t (by decide) (br_t (by decide) ⟨v5, nm_r (by rw [cm]) ⟨v5, nm_r (by rw [cm]) ⟨v5, nm_r (by rw [cm]) (br_f (by decide) (nm_r (nI_1 i) h))⟩⟩⟩))))))))))
theorem fu_Y13_e {post : Int32 → SY → Prop} {J : Int32 → Int32 → Int32 → (Nat → Int32) → (Nat → Int32) → (Nat → Int32) → (Nat → Int32) → (Nat → Int32) → (Nat → Int32) → (Nat → Int32) → (Nat → Int32) → (Nat → Int32) → (Nat → Int32) → (Nat → Int32) → (Nat → Int32) → (Nat → Int32) → (Nat → Int32) → Prop} {set : Int32} {oc i v l : Nat} (hl : oc = l + 1) (ho : oc ≤ 4) (hy : yO l = 12) (h : J (set &&& yT l) (nI l) (nI (i + 1)) iK iA iB FK FA FB inp lst out vs yO yN yS yT) : ((nI 13 < 4 → wY_unset_46 post J set (nI oc) (nI i) (nI 13) (nI v) yic ysz yfd yls ymd ysa ytk ydp yps ybi ysp yus ynx yra yrd iK iA iB FK FA FB inp lst out vs yO yN yS yT) ∧ (¬ nI 13 < 4 → ((nI 13 ≤ 6 → wY_unset_60 post J set (nI oc) (nI i) (nI 13) (nI v) yic ysz yfd yls ymd ysa ytk ydp yps ybi ysp yus ynx yra yrd iK iA iB FK FA FB inp lst out vs yO yN yS yT) ∧ (¬ nI 13 ≤ 6 → wY_unset_46 post J set (nI oc) (nI i) (nI 13) (nI v) yic ysz yfd yls ymd ysa ytk ydp yps ybi ysp yus ynx yra yrd iK iA iB FK FA FB inp lst out vs yO yN yS yT)))) := by
  have em : nI oc + (-1) = nI l := by rw [hl]; exact pk_m1 _
  have v5 : vp_in (nI l) 5 := vp_in_nI (by omega) (by omega)
  have cm : (nI l).toNatClampNeg = l := nI_clamp (by omega)
  exact br_f (by decide) (br_f (by decide) (br_f (by decide) (br_f (by decide) (br_t rfl (br_f (by decide) (br_f (by decide) (br_f (by decide) (br_f (by decide) (br_t (by decide) (br_f (by decide) (br_t (by decide) (nm_r em ⟨v5, br_t (by rw [cm]; exact hy) ⟨v5, nm_r (by rw [cm]) (nm_r (nI_1 i) h)⟩⟩))))))))))))
theorem fu_Y13_b {post : Int32 → SY → Prop} {J : Int32 → Int32 → Int32 → (Nat → Int32) → (Nat → Int32) → (Nat → Int32) → (Nat → Int32) → (Nat → Int32) → (Nat → Int32) → (Nat → Int32) → (Nat → Int32) → (Nat → Int32) → (Nat → Int32) → (Nat → Int32) → (Nat → Int32) → (Nat → Int32) → (Nat → Int32) → Prop} {set : Int32} {oc i v l : Nat} (hl : oc = l + 1) (ho : oc ≤ 4) (hy : yO l = 6) (h : J (set) (nI l) (nI (i + 1)) iK iA iB FK FA FB inp lst out vs yO yN yS yT) : ((nI 13 < 4 → wY_unset_46 post J set (nI oc) (nI i) (nI 13) (nI v) yic ysz yfd yls ymd ysa ytk ydp yps ybi ysp yus ynx yra yrd iK iA iB FK FA FB inp lst out vs yO yN yS yT) ∧ (¬ nI 13 < 4 → ((nI 13 ≤ 6 → wY_unset_60 post J set (nI oc) (nI i) (nI 13) (nI v) yic ysz yfd yls ymd ysa ytk ydp yps ybi ysp yus ynx yra yrd iK iA iB FK FA FB inp lst out vs yO yN yS yT) ∧ (¬ nI 13 ≤ 6 → wY_unset_46 post J set (nI oc) (nI i) (nI 13) (nI v) yic ysz yfd yls ymd ysa ytk ydp yps ybi ysp yus ynx yra yrd iK iA iB FK FA FB inp lst out vs yO yN yS yT)))) := by
  have em : nI oc + (-1) = nI l := by rw [hl]; exact pk_m1 _
  have v5 : vp_in (nI l) 5 := vp_in_nI (by omega) (by omega)
  have cm : (nI l).toNatClampNeg = l := nI_clamp (by omega)
  exact br_f (by decide) (br_f (by decide) (br_f (by decide) (br_f (by decide) (br_t rfl (br_f (by decide) (br_f (by decide) (br_f (by decide) (br_f (by decide) (br_t (by decide) (br_f (by decide) (br_t (by decide) (nm_r em ⟨v5, br_f (by rw [cm, hy]; decide) ⟨v5, br_t (by rw [cm]; exact hy) (nm_r (nI_1 i) h)⟩⟩))))))))))))
theorem fu_Y13_0 {post : Int32 → SY → Prop} {J : Int32 → Int32 → Int32 → (Nat → Int32) → (Nat → Int32) → (Nat → Int32) → (Nat → Int32) → (Nat → Int32) → (Nat → Int32) → (Nat → Int32) → (Nat → Int32) → (Nat → Int32) → (Nat → Int32) → (Nat → Int32) → (Nat → Int32) → (Nat → Int32) → (Nat → Int32) → Prop} {set : Int32} {oc i v l : Nat} (hl : oc = l + 1) (ho : oc ≤ 4) (hy : ¬ yO l = 12) (hy2 : ¬ yO l = 6) (h : J (yS l) (nI l) (nI (i + 1)) iK iA iB FK FA FB inp lst out vs yO yN yS yT) : ((nI 13 < 4 → wY_unset_46 post J set (nI oc) (nI i) (nI 13) (nI v) yic ysz yfd yls ymd ysa ytk ydp yps ybi ysp yus ynx yra yrd iK iA iB FK FA FB inp lst out vs yO yN yS yT) ∧ (¬ nI 13 < 4 → ((nI 13 ≤ 6 → wY_unset_60 post J set (nI oc) (nI i) (nI 13) (nI v) yic ysz yfd yls ymd ysa ytk ydp yps ybi ysp yus ynx yra yrd iK iA iB FK FA FB inp lst out vs yO yN yS yT) ∧ (¬ nI 13 ≤ 6 → wY_unset_46 post J set (nI oc) (nI i) (nI 13) (nI v) yic ysz yfd yls ymd ysa ytk ydp yps ybi ysp yus ynx yra yrd iK iA iB FK FA FB inp lst out vs yO yN yS yT)))) := by
  have em : nI oc + (-1) = nI l := by rw [hl]; exact pk_m1 _
  have v5 : vp_in (nI l) 5 := vp_in_nI (by omega) (by omega)
  have cm : (nI l).toNatClampNeg = l := nI_clamp (by omega)
  exact br_f (by decide) (br_f (by decide) (br_f (by decide) (br_f (by decide) (br_t rfl (br_f (by decide) (br_f (by decide) (br_f (by decide) (br_f (by decide) (br_t (by decide) (br_f (by decide) (br_t (by decide) (nm_r em ⟨v5, br_f (by rw [cm]; exact hy) ⟨v5, br_f (by rw [cm]; exact hy2) ⟨v5, nm_r (by rw [cm]) (nm_r (nI_1 i) h)⟩⟩⟩))))))))))))
theorem fu_YF4 {post : Int32 → SY → Prop} {J : Int32 → Int32 → Int32 → (Nat → Int32) → (Nat → Int32) → (Nat → Int32) → (Nat → Int32) → (Nat → Int32) → (Nat → Int32) → (Nat → Int32) → (Nat → Int32) → (Nat → Int32) → (Nat → Int32) → (Nat → Int32) → (Nat → Int32) → (Nat → Int32) → (Nat → Int32) → Prop} {set : Int32} {oc i v : Nat} (hb : ((set >>> (nI v &&& 31)) &&& 1) = 0) (h : post (nI i) (yic, ysz, yfd, yls, ymd, ysa, ytk, ydp, yps, ybi, ysp, yus, ynx, yra, yrd, iK, iA, iB, FK, FA, FB, inp, lst, out, vs, yO, yN, yS, yT)) : ((nI 4 < 4 → wY_unset_46 post J set (nI oc) (nI i) (nI 4) (nI v) yic ysz yfd yls ymd ysa ytk ydp yps ybi ysp yus ynx yra yrd iK iA iB FK FA FB inp lst out vs yO yN yS yT) ∧ (¬ nI 4 < 4 → ((nI 4 ≤ 6 → wY_unset_60 post J set (nI oc) (nI i) (nI 4) (nI v) yic ysz yfd yls ymd ysa ytk ydp yps ybi ysp yus ynx yra yrd iK iA iB FK FA FB inp lst out vs yO yN yS yT) ∧ (¬ nI 4 ≤ 6 → wY_unset_46 post J set (nI oc) (nI i) (nI 4) (nI v) yic ysz yfd yls ymd ysa ytk ydp yps ybi ysp yus ynx yra yrd iK iA iB FK FA FB inp lst out vs yO yN yS yT)))) :=
  br_f (by decide) (br_t (by decide) (br_f (by decide) (br_t hb h)))
theorem fu_YF5 {post : Int32 → SY → Prop} {J : Int32 → Int32 → Int32 → (Nat → Int32) → (Nat → Int32) → (Nat → Int32) → (Nat → Int32) → (Nat → Int32) → (Nat → Int32) → (Nat → Int32) → (Nat → Int32) → (Nat → Int32) → (Nat → Int32) → (Nat → Int32) → (Nat → Int32) → (Nat → Int32) → (Nat → Int32) → Prop} {set : Int32} {oc i v : Nat} (hb : ((set >>> (nI v &&& 31)) &&& 1) = 0) (h : post (nI i) (yic, ysz, yfd, yls, ymd, ysa, ytk, ydp, yps, ybi, ysp, yus, ynx, yra, yrd, iK, iA, iB, FK, FA, FB, inp, lst, out, vs, yO, yN, yS, yT)) : ((nI 5 < 4 → wY_unset_46 post J set (nI oc) (nI i) (nI 5) (nI v) yic ysz yfd yls ymd ysa ytk ydp yps ybi ysp yus ynx yra yrd iK iA iB FK FA FB inp lst out vs yO yN yS yT) ∧ (¬ nI 5 < 4 → ((nI 5 ≤ 6 → wY_unset_60 post J set (nI oc) (nI i) (nI 5) (nI v) yic ysz yfd yls ymd ysa ytk ydp yps ybi ysp yus ynx yra yrd iK iA iB FK FA FB inp lst out vs yO yN yS yT) ∧ (¬ nI 5 ≤ 6 → wY_unset_46 post J set (nI oc) (nI i) (nI 5) (nI v) yic ysz yfd yls ymd ysa ytk ydp yps ybi ysp yus ynx yra yrd iK iA iB FK FA FB inp lst out vs yO yN yS yT)))) :=
  br_f (by decide) (br_t (by decide) (br_f (by decide) (br_t hb h)))
theorem fu_YF6 {post : Int32 → SY → Prop} {J : Int32 → Int32 → Int32 → (Nat → Int32) → (Nat → Int32) → (Nat → Int32) → (Nat → Int32) → (Nat → Int32) → (Nat → Int32) → (Nat → Int32) → (Nat → Int32) → (Nat → Int32) → (Nat → Int32) → (Nat → Int32) → (Nat → Int32) → (Nat → Int32) → (Nat → Int32) → Prop} {set : Int32} {oc i v : Nat} (hb : ((set >>> (nI v &&& 31)) &&& 1) = 0) (h : post (nI i) (yic, ysz, yfd, yls, ymd, ysa, ytk, ydp, yps, ybi, ysp, yus, ynx, yra, yrd, iK, iA, iB, FK, FA, FB, inp, lst, out, vs, yO, yN, yS, yT)) : ((nI 6 < 4 → wY_unset_46 post J set (nI oc) (nI i) (nI 6) (nI v) yic ysz yfd yls ymd ysa ytk ydp yps ybi ysp yus ynx yra yrd iK iA iB FK FA FB inp lst out vs yO yN yS yT) ∧ (¬ nI 6 < 4 → ((nI 6 ≤ 6 → wY_unset_60 post J set (nI oc) (nI i) (nI 6) (nI v) yic ysz yfd yls ymd ysa ytk ydp yps ybi ysp yus ynx yra yrd iK iA iB FK FA FB inp lst out vs yO yN yS yT) ∧ (¬ nI 6 ≤ 6 → wY_unset_46 post J set (nI oc) (nI i) (nI 6) (nI v) yic ysz yfd yls ymd ysa ytk ydp yps ybi ysp yus ynx yra yrd iK iA iB FK FA FB inp lst out vs yO yN yS yT)))) :=
  br_f (by decide) (br_t (by decide) (br_f (by decide) (br_t hb h)))
theorem fu_YF9 {post : Int32 → SY → Prop} {J : Int32 → Int32 → Int32 → (Nat → Int32) → (Nat → Int32) → (Nat → Int32) → (Nat → Int32) → (Nat → Int32) → (Nat → Int32) → (Nat → Int32) → (Nat → Int32) → (Nat → Int32) → (Nat → Int32) → (Nat → Int32) → (Nat → Int32) → (Nat → Int32) → (Nat → Int32) → Prop} {set : Int32} {oc i v : Nat} (hb : ((set >>> (nI v &&& 31)) &&& 1) = 0) (h : post (nI i) (yic, ysz, yfd, yls, ymd, ysa, ytk, ydp, yps, ybi, ysp, yus, ynx, yra, yrd, iK, iA, iB, FK, FA, FB, inp, lst, out, vs, yO, yN, yS, yT)) : ((nI 9 < 4 → wY_unset_46 post J set (nI oc) (nI i) (nI 9) (nI v) yic ysz yfd yls ymd ysa ytk ydp yps ybi ysp yus ynx yra yrd iK iA iB FK FA FB inp lst out vs yO yN yS yT) ∧ (¬ nI 9 < 4 → ((nI 9 ≤ 6 → wY_unset_60 post J set (nI oc) (nI i) (nI 9) (nI v) yic ysz yfd yls ymd ysa ytk ydp yps ybi ysp yus ynx yra yrd iK iA iB FK FA FB inp lst out vs yO yN yS yT) ∧ (¬ nI 9 ≤ 6 → wY_unset_46 post J set (nI oc) (nI i) (nI 9) (nI v) yic ysz yfd yls ymd ysa ytk ydp yps ybi ysp yus ynx yra yrd iK iA iB FK FA FB inp lst out vs yO yN yS yT)))) :=
  br_f (by decide) (br_f (by decide) (br_t (by decide) (br_f (by decide) (br_t hb h))))
theorem fu_YF11 {post : Int32 → SY → Prop} {J : Int32 → Int32 → Int32 → (Nat → Int32) → (Nat → Int32) → (Nat → Int32) → (Nat → Int32) → (Nat → Int32) → (Nat → Int32) → (Nat → Int32) → (Nat → Int32) → (Nat → Int32) → (Nat → Int32) → (Nat → Int32) → (Nat → Int32) → (Nat → Int32) → (Nat → Int32) → Prop} {set : Int32} {oc i v : Nat} (hb : ((set >>> (nI v &&& 31)) &&& 1) = 0) (h : post (nI i) (yic, ysz, yfd, yls, ymd, ysa, ytk, ydp, yps, ybi, ysp, yus, ynx, yra, yrd, iK, iA, iB, FK, FA, FB, inp, lst, out, vs, yO, yN, yS, yT)) : ((nI 11 < 4 → wY_unset_46 post J set (nI oc) (nI i) (nI 11) (nI v) yic ysz yfd yls ymd ysa ytk ydp yps ybi ysp yus ynx yra yrd iK iA iB FK FA FB inp lst out vs yO yN yS yT) ∧ (¬ nI 11 < 4 → ((nI 11 ≤ 6 → wY_unset_60 post J set (nI oc) (nI i) (nI 11) (nI v) yic ysz yfd yls ymd ysa ytk ydp yps ybi ysp yus ynx yra yrd iK iA iB FK FA FB inp lst out vs yO yN yS yT) ∧ (¬ nI 11 ≤ 6 → wY_unset_46 post J set (nI oc) (nI i) (nI 11) (nI v) yic ysz yfd yls ymd ysa ytk ydp yps ybi ysp yus ynx yra yrd iK iA iB FK FA FB inp lst out vs yO yN yS yT)))) :=
  br_f (by decide) (br_f (by decide) (br_f (by decide) (br_t (by decide) (br_f (by decide) (br_t hb h)))))
theorem fu_lock {n : Nat} (hn : n ≤ 40) (G : fw_Good iK xM n) (hK : ∀ j, j < n → ∃ c : Nat, c ≤ 13 ∧ iK j = nI c) : ∀ (d i oc : Nat) (set : Int32) (xS yO yS yT : Nat → Int32), i + d = n → (fw_st iK i).length = oc → fw_U iK xS yO yS yT set (fw_st iK i) →
    ∃ (r : Int32) (xS' yO' yS' yT' : Nat → Int32), (∀ post : Int32 → SX → Prop, post r (nI n, xoc, xfc, xhf, xil, xll, xol, xea, xwr, xcu, xfo, xsp, xpo, xbl, xli, xvu, iK, iA, iB, xM, xO, xS', FK, FA, FB, FM, inp, lst, out, vs, xR, xL) → wX_findUnset_4 post (d + 1) set (nI i) (nI n) xoc xfc xhf xil xll xol xea xwr xcu xfo xsp xpo xbl xli xvu iK iA iB xM xO xS FK FA FB FM inp lst out vs xR xL) ∧ (∀ post : Int32 → SY → Prop, post r (nI n, ysz, yfd, yls, ymd, ysa, ytk, ydp, yps, ybi, ysp, yus, ynx, yra, yrd, iK, iA, iB, FK, FA, FB, inp, lst, out, vs, yO', yN, yS', yT') → wY_unset_6 post (nI n) ysz yfd yls ymd ysa ytk ydp yps ybi ysp yus ynx yra yrd (d + 1) set (nI oc) (nI i) iK iA iB FK FA FB inp lst out vs yO yN yS yT) ∧ (r = -1 ∨ (¬ r < 0 ∧ ¬ r = -1)) := by
  intro d
  induction d with
  | zero =>
    intro i oc set xS yO yS yT hi hoc hU
    have c1 : nI n ≤ nI i := nI_le (by omega) (by omega)
    exact ⟨-1, xS, yO, yS, yT, fun post hp => br_t c1 hp, fun post hp => br_t c1 hp, Or.inl rfl⟩
  | succ d ih =>
    intro i oc set xS yO yS yT hi hoc hU
    have W := G.1
    have c1 : ¬ nI n ≤ nI i := nI_ge (by omega) (by omega)
    have hi4 : i < 40 := by omega
    have vi : vp_in (nI i) 40 := vp_in_nI (by omega) (by omega)
    have ci : (nI i).toNatClampNeg = i := nI_clamp (by omega)
    have l4 := fw_len W i (by omega)
    rw [hoc] at l4
    obtain ⟨v, hv, ev⟩ := pk_andE (iB i) (m := 7) 3 (by decide)
    have hv8 : v < 8 := hv
    have eown : (1 : Int32) <<< ((iB (nI i).toNatClampNeg &&& 7) &&& 31) = (1 : Int32) <<< (nI v &&& 31) := by rw [ci, ev]
    have ev' : iB (nI i).toNatClampNeg &&& 7 = nI v := by rw [ci]; exact ev
    have hb := fb_has set (v := v) (by omega)
    have bad : ¬ nI i < 0 ∧ ¬ nI i = -1 := ⟨nI_pos (by omega), fx_m1 (by omega)⟩
    obtain ⟨c, hc, ec⟩ := hK i (by omega)
    have mlt : ∀ o e, (o, e) ∈ fw_st iK i → o ≠ i ∧ (e ≠ 0 → e ≠ i) := by
      intro o e hm
      have q1 := fw_mem_lt W i (by omega) o e hm
      have q2 := (fw_mem_op W i (by omega) o e hm).2
      refine ⟨by omega, fun z => ?_⟩
      rcases q2 with q2 | q2
      · exact absurd q2 z
      · omega
    have hU' : fw_U iK (upd xS i set) yO yS yT set (fw_st iK i) := fw_U_fr _ _ hU (fun o e hm => ⟨pk_un (mlt o e hm).1, fun z => pk_un ((mlt o e hm).2 z)⟩) (fun d hd => ⟨rfl, rfl, rfl⟩)
    have hcs : c = 0 ∨ c = 1 ∨ c = 2 ∨ c = 3 ∨ c = 4 ∨ c = 5 ∨ c = 6 ∨ c = 7 ∨ c = 8 ∨ c = 9 ∨ c = 10 ∨ c = 11 ∨ c = 12 ∨ c = 13 := by omega
    rcases hcs with rfl | rfl | rfl | rfl | rfl | rfl | rfl | rfl | rfl | rfl | rfl | rfl | rfl | rfl
    · have eK : iK (nI i).toNatClampNeg = nI 0 := by rw [ci]; exact ec
      have nop : ¬ fw_Op iK i := fw_nop ec (by decide) (by decide) (by decide)
      have n12 : ¬ iK i = 12 := by rw [ec]; decide
      have n13 : ¬ iK i = 13 := by rw [ec]; decide
      have hst := fw_st_no nop n12 n13
      obtain ⟨r, xS', yO', yS', yT', HX, HY, hr⟩ := ih (i + 1) oc (set ||| ((1 : Int32) <<< (nI v &&& 31))) (upd xS i set) yO yS yT (by omega) (by rw [hst]; exact hoc) (by rw [hst]; exact fw_U_m hU' (fw_ss_o _ (fw_ss_r _)))
      refine ⟨r, xS', yO', yS', yT', fun post hp => br_f c1 ⟨vi, nm_r eown ⟨vi, ?_⟩⟩, fun post hp => br_f c1 ⟨vi, nm_r eK ⟨vi, nm_r ev' (fu_Y0 (HY post hp))⟩⟩, hr⟩
      rw [eK]
      exact fx_ns0 (by decide) (by decide) (by decide) (br_t rfl (fu_X0 hi4 ec (nm_r (nI_1 i) (HX post hp))))
    · have eK : iK (nI i).toNatClampNeg = nI 1 := by rw [ci]; exact ec
      have nop : ¬ fw_Op iK i := fw_nop ec (by decide) (by decide) (by decide)
      have n12 : ¬ iK i = 12 := by rw [ec]; decide
      have n13 : ¬ iK i = 13 := by rw [ec]; decide
      have hst := fw_st_no nop n12 n13
      obtain ⟨r, xS', yO', yS', yT', HX, HY, hr⟩ := ih (i + 1) oc (set ||| ((1 : Int32) <<< (nI v &&& 31))) (upd xS i set) yO yS yT (by omega) (by rw [hst]; exact hoc) (by rw [hst]; exact fw_U_m hU' (fw_ss_o _ (fw_ss_r _)))
      refine ⟨r, xS', yO', yS', yT', fun post hp => br_f c1 ⟨vi, nm_r eown ⟨vi, ?_⟩⟩, fun post hp => br_f c1 ⟨vi, nm_r eK ⟨vi, nm_r ev' (fu_Y1 (HY post hp))⟩⟩, hr⟩
      rw [eK]
      exact fx_ns0 (by decide) (by decide) (by decide) (br_t rfl (fu_X1 hi4 ec (nm_r (nI_1 i) (HX post hp))))
    · have eK : iK (nI i).toNatClampNeg = nI 2 := by rw [ci]; exact ec
      have nop : ¬ fw_Op iK i := fw_nop ec (by decide) (by decide) (by decide)
      have n12 : ¬ iK i = 12 := by rw [ec]; decide
      have n13 : ¬ iK i = 13 := by rw [ec]; decide
      have hst := fw_st_no nop n12 n13
      obtain ⟨r, xS', yO', yS', yT', HX, HY, hr⟩ := ih (i + 1) oc (set ||| ((1 : Int32) <<< (nI v &&& 31))) (upd xS i set) yO yS yT (by omega) (by rw [hst]; exact hoc) (by rw [hst]; exact fw_U_m hU' (fw_ss_o _ (fw_ss_r _)))
      refine ⟨r, xS', yO', yS', yT', fun post hp => br_f c1 ⟨vi, nm_r eown ⟨vi, ?_⟩⟩, fun post hp => br_f c1 ⟨vi, nm_r eK ⟨vi, nm_r ev' (fu_Y2 (HY post hp))⟩⟩, hr⟩
      rw [eK]
      exact fx_ns0 (by decide) (by decide) (by decide) (br_t rfl (fu_X2 hi4 ec (nm_r (nI_1 i) (HX post hp))))
    · have eK : iK (nI i).toNatClampNeg = nI 3 := by rw [ci]; exact ec
      have nop : ¬ fw_Op iK i := fw_nop ec (by decide) (by decide) (by decide)
      have n12 : ¬ iK i = 12 := by rw [ec]; decide
      have n13 : ¬ iK i = 13 := by rw [ec]; decide
      have hst := fw_st_no nop n12 n13
      obtain ⟨r, xS', yO', yS', yT', HX, HY, hr⟩ := ih (i + 1) oc set (upd xS i set) yO yS yT (by omega) (by rw [hst]; exact hoc) (by rw [hst]; exact hU')
      refine ⟨r, xS', yO', yS', yT', fun post hp => br_f c1 ⟨vi, nm_r eown ⟨vi, ?_⟩⟩, fun post hp => br_f c1 ⟨vi, nm_r eK ⟨vi, nm_r ev' (fu_Y3 (HY post hp))⟩⟩, hr⟩
      rw [eK]
      exact fx_ns0 (by decide) (by decide) (by decide) (br_t rfl (fu_X3 hi4 ec (nm_r (nI_1 i) (HX post hp))))
    · have eK : iK (nI i).toNatClampNeg = nI 4 := by rw [ci]; exact ec
      have n12 : ¬ iK i = 12 := by rw [ec]; decide
      have n13 : ¬ iK i = 13 := by rw [ec]; decide
      by_cases hz : set &&& ((1 : Int32) <<< (nI v &&& 31)) = 0
      · refine ⟨nI i, xS, yO, yS, yT, fun post hp => br_f c1 ⟨vi, nm_r eown ⟨vi, ?_⟩⟩, fun post hp => br_f c1 ⟨vi, nm_r eK ⟨vi, nm_r ev' (fu_YF4 (hb.mpr hz) hp)⟩⟩, Or.inr bad⟩
        rw [eK]
        exact fx_ns1 (Or.inl (Or.inl rfl)) (br_f (by decide) (br_t hz hp))
      · have hz2 : ¬ ((set >>> (nI v &&& 31)) &&& 1) = 0 := fun z => hz (hb.mp z)
        have hop : fw_Op iK i := Or.inl ec
        have ho4 := (W i (by omega)).1 hop
        rw [hoc] at ho4
        have hst := fw_st_op hop
        have hU2 : fw_U iK (upd xS i set) (upd yO oc (nI 4)) (upd yS oc set) yT set (fw_st iK (i + 1)) := by
          rw [hst]
          refine ⟨by rw [hoc, pk_us, pk_us], fun _ => by rw [hoc, pk_us]; exact ec.symm, fun z => absurd rfl z, by rw [pk_us]; exact fw_ss_r _, ?_⟩
          rw [pk_us]
          exact fw_U_fr _ _ hU' (fun o e hm => ⟨rfl, fun _ => rfl⟩) (fun d hd => by rw [hoc] at hd; exact ⟨pk_un (by omega), pk_un (by omega), rfl⟩)
        obtain ⟨r, xS', yO', yS', yT', HX, HY, hr⟩ := ih (i + 1) (oc + 1) set (upd xS i set) (upd yO oc (nI 4)) (upd yS oc set) yT (by omega) (by rw [hst, List.length_cons, hoc]) (hU2)
        refine ⟨r, xS', yO', yS', yT', fun post hp => br_f c1 ⟨vi, nm_r eown ⟨vi, ?_⟩⟩, fun post hp => br_f c1 ⟨vi, nm_r eK ⟨vi, nm_r ev' (fu_Y4 ho4 hz2 (HY post hp))⟩⟩, hr⟩
        rw [eK]
        exact fx_ns1 (Or.inl (Or.inl rfl)) (br_f (by decide) (br_f hz (fu_X4 hi4 ec (nm_r (nI_1 i) (HX post hp)))))
    · have eK : iK (nI i).toNatClampNeg = nI 5 := by rw [ci]; exact ec
      have n12 : ¬ iK i = 12 := by rw [ec]; decide
      have n13 : ¬ iK i = 13 := by rw [ec]; decide
      by_cases hz : set &&& ((1 : Int32) <<< (nI v &&& 31)) = 0
      · refine ⟨nI i, xS, yO, yS, yT, fun post hp => br_f c1 ⟨vi, nm_r eown ⟨vi, ?_⟩⟩, fun post hp => br_f c1 ⟨vi, nm_r eK ⟨vi, nm_r ev' (fu_YF5 (hb.mpr hz) hp)⟩⟩, Or.inr bad⟩
        rw [eK]
        exact fx_ns1 (Or.inl (Or.inr (Or.inl rfl))) (br_f (by decide) (br_t hz hp))
      · have hz2 : ¬ ((set >>> (nI v &&& 31)) &&& 1) = 0 := fun z => hz (hb.mp z)
        have hop : fw_Op iK i := Or.inr (Or.inl ec)
        have ho4 := (W i (by omega)).1 hop
        rw [hoc] at ho4
        have hst := fw_st_op hop
        have hU2 : fw_U iK (upd xS i set) (upd yO oc (nI 5)) (upd yS oc set) yT set (fw_st iK (i + 1)) := by
          rw [hst]
          refine ⟨by rw [hoc, pk_us, pk_us], fun _ => by rw [hoc, pk_us]; exact ec.symm, fun z => absurd rfl z, by rw [pk_us]; exact fw_ss_r _, ?_⟩
          rw [pk_us]
          exact fw_U_fr _ _ hU' (fun o e hm => ⟨rfl, fun _ => rfl⟩) (fun d hd => by rw [hoc] at hd; exact ⟨pk_un (by omega), pk_un (by omega), rfl⟩)
        obtain ⟨r, xS', yO', yS', yT', HX, HY, hr⟩ := ih (i + 1) (oc + 1) set (upd xS i set) (upd yO oc (nI 5)) (upd yS oc set) yT (by omega) (by rw [hst, List.length_cons, hoc]) (hU2)
        refine ⟨r, xS', yO', yS', yT', fun post hp => br_f c1 ⟨vi, nm_r eown ⟨vi, ?_⟩⟩, fun post hp => br_f c1 ⟨vi, nm_r eK ⟨vi, nm_r ev' (fu_Y5 ho4 hz2 (HY post hp))⟩⟩, hr⟩
        rw [eK]
        exact fx_ns1 (Or.inl (Or.inr (Or.inl rfl))) (br_f (by decide) (br_f hz (fu_X5 hi4 ec (nm_r (nI_1 i) (HX post hp)))))
    · have eK : iK (nI i).toNatClampNeg = nI 6 := by rw [ci]; exact ec
      have n12 : ¬ iK i = 12 := by rw [ec]; decide
      have n13 : ¬ iK i = 13 := by rw [ec]; decide
      by_cases hz : set &&& ((1 : Int32) <<< (nI v &&& 31)) = 0
      · refine ⟨nI i, xS, yO, yS, yT, fun post hp => br_f c1 ⟨vi, nm_r eown ⟨vi, ?_⟩⟩, fun post hp => br_f c1 ⟨vi, nm_r eK ⟨vi, nm_r ev' (fu_YF6 (hb.mpr hz) hp)⟩⟩, Or.inr bad⟩
        rw [eK]
        exact fx_ns1 (Or.inl (Or.inr (Or.inr rfl))) (br_f (by decide) (br_t hz hp))
      · have hz2 : ¬ ((set >>> (nI v &&& 31)) &&& 1) = 0 := fun z => hz (hb.mp z)
        have hop : fw_Op iK i := Or.inr (Or.inr ec)
        have ho4 := (W i (by omega)).1 hop
        rw [hoc] at ho4
        have hst := fw_st_op hop
        have hU2 : fw_U iK (upd xS i set) (upd yO oc (nI 6)) (upd yS oc set) yT set (fw_st iK (i + 1)) := by
          rw [hst]
          refine ⟨by rw [hoc, pk_us, pk_us], fun _ => by rw [hoc, pk_us]; exact ec.symm, fun z => absurd rfl z, by rw [pk_us]; exact fw_ss_r _, ?_⟩
          rw [pk_us]
          exact fw_U_fr _ _ hU' (fun o e hm => ⟨rfl, fun _ => rfl⟩) (fun d hd => by rw [hoc] at hd; exact ⟨pk_un (by omega), pk_un (by omega), rfl⟩)
        obtain ⟨r, xS', yO', yS', yT', HX, HY, hr⟩ := ih (i + 1) (oc + 1) set (upd xS i set) (upd yO oc (nI 6)) (upd yS oc set) yT (by omega) (by rw [hst, List.length_cons, hoc]) (hU2)
        refine ⟨r, xS', yO', yS', yT', fun post hp => br_f c1 ⟨vi, nm_r eown ⟨vi, ?_⟩⟩, fun post hp => br_f c1 ⟨vi, nm_r eK ⟨vi, nm_r ev' (fu_Y6 ho4 hz2 (HY post hp))⟩⟩, hr⟩
        rw [eK]
        exact fx_ns1 (Or.inl (Or.inr (Or.inr rfl))) (br_f (by decide) (br_f hz (fu_X6 hi4 ec (nm_r (nI_1 i) (HX post hp)))))
    · have eK : iK (nI i).toNatClampNeg = nI 7 := by rw [ci]; exact ec
      have nop : ¬ fw_Op iK i := fw_nop ec (by decide) (by decide) (by decide)
      have n12 : ¬ iK i = 12 := by rw [ec]; decide
      have n13 : ¬ iK i = 13 := by rw [ec]; decide
      have hst := fw_st_no nop n12 n13
      obtain ⟨r, xS', yO', yS', yT', HX, HY, hr⟩ := ih (i + 1) oc set (upd xS i set) yO yS yT (by omega) (by rw [hst]; exact hoc) (by rw [hst]; exact hU')
      refine ⟨r, xS', yO', yS', yT', fun post hp => br_f c1 ⟨vi, nm_r eown ⟨vi, ?_⟩⟩, fun post hp => br_f c1 ⟨vi, nm_r eK ⟨vi, nm_r ev' (fu_Y7 (HY post hp))⟩⟩, hr⟩
      rw [eK]
      exact fx_ns0 (by decide) (by decide) (by decide) (br_t rfl (fu_X7 hi4 ec (nm_r (nI_1 i) (HX post hp))))
    · have eK : iK (nI i).toNatClampNeg = nI 8 := by rw [ci]; exact ec
      have nop : ¬ fw_Op iK i := fw_nop ec (by decide) (by decide) (by decide)
      have n12 : ¬ iK i = 12 := by rw [ec]; decide
      have n13 : ¬ iK i = 13 := by rw [ec]; decide
      have hst := fw_st_no nop n12 n13
      obtain ⟨r, xS', yO', yS', yT', HX, HY, hr⟩ := ih (i + 1) oc set (upd xS i set) yO yS yT (by omega) (by rw [hst]; exact hoc) (by rw [hst]; exact hU')
      refine ⟨r, xS', yO', yS', yT', fun post hp => br_f c1 ⟨vi, nm_r eown ⟨vi, ?_⟩⟩, fun post hp => br_f c1 ⟨vi, nm_r eK ⟨vi, nm_r ev' (fu_Y8 (HY post hp))⟩⟩, hr⟩
      rw [eK]
      exact fx_ns0 (by decide) (by decide) (by decide) (br_t rfl (fu_X8 hi4 ec (nm_r (nI_1 i) (HX post hp))))
    · have eK : iK (nI i).toNatClampNeg = nI 9 := by rw [ci]; exact ec
      have nop : ¬ fw_Op iK i := fw_nop ec (by decide) (by decide) (by decide)
      have n12 : ¬ iK i = 12 := by rw [ec]; decide
      have n13 : ¬ iK i = 13 := by rw [ec]; decide
      by_cases hz : set &&& ((1 : Int32) <<< (nI v &&& 31)) = 0
      · refine ⟨nI i, xS, yO, yS, yT, fun post hp => br_f c1 ⟨vi, nm_r eown ⟨vi, ?_⟩⟩, fun post hp => br_f c1 ⟨vi, nm_r eK ⟨vi, nm_r ev' (fu_YF9 (hb.mpr hz) hp)⟩⟩, Or.inr bad⟩
        rw [eK]
        exact fx_ns1 (Or.inr (Or.inl rfl)) (br_f (by decide) (br_t hz hp))
      · have hz2 : ¬ ((set >>> (nI v &&& 31)) &&& 1) = 0 := fun z => hz (hb.mp z)
        have hst := fw_st_no nop n12 n13
        obtain ⟨r, xS', yO', yS', yT', HX, HY, hr⟩ := ih (i + 1) oc set (upd xS i set) yO yS yT (by omega) (by rw [hst]; exact hoc) (by rw [hst]; exact hU')
        refine ⟨r, xS', yO', yS', yT', fun post hp => br_f c1 ⟨vi, nm_r eown ⟨vi, ?_⟩⟩, fun post hp => br_f c1 ⟨vi, nm_r eK ⟨vi, nm_r ev' (fu_Y9 hz2 (HY post hp))⟩⟩, hr⟩
        rw [eK]
        exact fx_ns1 (Or.inr (Or.inl rfl)) (br_f (by decide) (br_f hz (fu_X9 hi4 ec (nm_r (nI_1 i) (HX post hp)))))
    · have eK : iK (nI i).toNatClampNeg = nI 10 := by rw [ci]; exact ec
      have nop : ¬ fw_Op iK i := fw_nop ec (by decide) (by decide) (by decide)
      have n12 : ¬ iK i = 12 := by rw [ec]; decide
      have n13 : ¬ iK i = 13 := by rw [ec]; decide
      have hst := fw_st_no nop n12 n13
      obtain ⟨r, xS', yO', yS', yT', HX, HY, hr⟩ := ih (i + 1) oc (set ||| ((1 : Int32) <<< (nI v &&& 31))) (upd xS i set) yO yS yT (by omega) (by rw [hst]; exact hoc) (by rw [hst]; exact fw_U_m hU' (fw_ss_o _ (fw_ss_r _)))
      refine ⟨r, xS', yO', yS', yT', fun post hp => br_f c1 ⟨vi, nm_r eown ⟨vi, ?_⟩⟩, fun post hp => br_f c1 ⟨vi, nm_r eK ⟨vi, nm_r ev' (fu_Y10 (HY post hp))⟩⟩, hr⟩
      rw [eK]
      exact fx_ns0 (by decide) (by decide) (by decide) (br_t rfl (fu_X10 hi4 ec (nm_r (nI_1 i) (HX post hp))))
    · have eK : iK (nI i).toNatClampNeg = nI 11 := by rw [ci]; exact ec
      have nop : ¬ fw_Op iK i := fw_nop ec (by decide) (by decide) (by decide)
      have n12 : ¬ iK i = 12 := by rw [ec]; decide
      have n13 : ¬ iK i = 13 := by rw [ec]; decide
      by_cases hz : set &&& ((1 : Int32) <<< (nI v &&& 31)) = 0
      · refine ⟨nI i, xS, yO, yS, yT, fun post hp => br_f c1 ⟨vi, nm_r eown ⟨vi, ?_⟩⟩, fun post hp => br_f c1 ⟨vi, nm_r eK ⟨vi, nm_r ev' (fu_YF11 (hb.mpr hz) hp)⟩⟩, Or.inr bad⟩
        rw [eK]
        exact fx_ns1 (Or.inr (Or.inr rfl)) (br_f (by decide) (br_t hz hp))
      · have hz2 : ¬ ((set >>> (nI v &&& 31)) &&& 1) = 0 := fun z => hz (hb.mp z)
        have hst := fw_st_no nop n12 n13
        obtain ⟨r, xS', yO', yS', yT', HX, HY, hr⟩ := ih (i + 1) oc (set ||| ((1 : Int32) <<< (nI v &&& 31))) (upd xS i set) yO yS yT (by omega) (by rw [hst]; exact hoc) (by rw [hst]; exact fw_U_m hU' (fw_ss_o _ (fw_ss_r _)))
        refine ⟨r, xS', yO', yS', yT', fun post hp => br_f c1 ⟨vi, nm_r eown ⟨vi, ?_⟩⟩, fun post hp => br_f c1 ⟨vi, nm_r eK ⟨vi, nm_r ev' (fu_Y11 hz2 (HY post hp))⟩⟩, hr⟩
        rw [eK]
        exact fx_ns1 (Or.inr (Or.inr rfl)) (br_f (by decide) (br_f hz (fu_X11 hi4 ec (nm_r (nI_1 i) (HX post hp)))))
    · have eK : iK (nI i).toNatClampNeg = nI 12 := by rw [ci]; exact ec
      have nop : ¬ fw_Op iK i := fw_nop ec (by decide) (by decide) (by decide)
      have n13 : ¬ iK i = 13 := by rw [ec]; decide
      obtain ⟨o, s, hs, ho5⟩ := (W i (by omega)).2.1 ec
      obtain ⟨t, t1, t2, t3, t4, t5, t6, t7⟩ := fw_G_el G (by omega) ec hs
      obtain ⟨a1, a2, a3, a4⟩ := fw_hd W i (by omega) o 0 s hs
      have hst := fw_st_el ec hs
      rw [hs] at hU' hoc
      have eo : oc = s.length + 1 := hoc.symm
      obtain ⟨u1, u2, u3, u4, u5⟩ := hU'
      have uo : upd xS i set o = xS o := pk_un (by omega)
      have hU2 : fw_U iK (upd xS i set) (upd yO s.length 12) yS (upd yT s.length set) (yS s.length) (fw_st iK (i + 1)) := by
        rw [hst]
        refine ⟨u1, fun z => by omega, fun _ => ⟨pk_us, by rw [pk_us, pk_us], by rw [pk_us]; exact u4⟩, by rw [u1]; exact fw_ss_r _, ?_⟩
        exact fw_U_fr _ _ u5 (fun o e hm => ⟨rfl, fun _ => rfl⟩) (fun d hd => ⟨pk_un (by omega), rfl, pk_un (by omega)⟩)
      have us : yS s.length = xS o := by rw [u1]; exact uo
      obtain ⟨r, xS', yO', yS', yT', HX, HY, hr⟩ := ih (i + 1) oc (yS s.length) (upd xS i set) (upd yO s.length 12) yS (upd yT s.length set) (by omega) (by rw [hst]; exact hoc) (hU2)
      refine ⟨r, xS', yO', yS', yT', fun post hp => br_f c1 ⟨vi, nm_r eown ⟨vi, ?_⟩⟩, fun post hp => br_f c1 ⟨vi, nm_r eK ⟨vi, nm_r ev' (fu_Y12 eo l4 (HY post hp))⟩⟩, hr⟩
      rw [eK]
      exact fx_ns0 (by decide) (by decide) (by decide) (br_t rfl (fu_X12 (t := t) (o := o) hi4 ec (by omega) (by omega) t5 t6 (by omega) (by rw [← us]; exact (nm_r (nI_1 i) (HX post hp)))))
    · have eK : iK (nI i).toNatClampNeg = nI 13 := by rw [ci]; exact ec
      have nop : ¬ fw_Op iK i := fw_nop ec (by decide) (by decide) (by decide)
      have n12 : ¬ iK i = 12 := by rw [ec]; decide
      obtain ⟨o, e, s, hs⟩ := (W i (by omega)).2.2 ec
      obtain ⟨t1, t2, t3⟩ := G.2.2 i (by omega) ec o e s hs
      obtain ⟨a1, a2, a3, a4⟩ := fw_hd W i (by omega) o e s hs
      have hst := fw_st_en ec hs
      rw [hs] at hU' hoc
      have eo : oc = s.length + 1 := hoc.symm
      obtain ⟨u1, u2, u3, u4, u5⟩ := hU'
      have uo : upd xS i set o = xS o := pk_un (by omega)
      by_cases he : e = 0
      · by_cases h6 : iK o = 6
        · obtain ⟨r, xS', yO', yS', yT', HX, HY, hr⟩ := ih (i + 1) s.length set (upd xS i set) yO yS yT (by omega) (by rw [hst]) (by rw [hst]; exact fw_U_m u5 u4)
          refine ⟨r, xS', yO', yS', yT', fun post hp => br_f c1 ⟨vi, nm_r eown ⟨vi, ?_⟩⟩, fun post hp => br_f c1 ⟨vi, nm_r eK ⟨vi, nm_r ev' (fu_Y13_b eo l4 ((u2 he).trans h6) (HY post hp))⟩⟩, hr⟩
          rw [eK]
          exact fx_ns0 (by decide) (by decide) (by decide) (br_t rfl (fu_X13_b (o := o) hi4 ec (by omega) t1 h6 (nm_r (nI_1 i) (HX post hp))))
        · have us : yS s.length = set &&& xS o := by rw [u1]; rw [uo] at u4 ⊢; exact (fw_ss_e u4).symm
          obtain ⟨r, xS', yO', yS', yT', HX, HY, hr⟩ := ih (i + 1) s.length (yS s.length) (upd xS i set) yO yS yT (by omega) (by rw [hst]) (by rw [hst, u1]; exact u5)
          refine ⟨r, xS', yO', yS', yT', fun post hp => br_f c1 ⟨vi, nm_r eown ⟨vi, ?_⟩⟩, fun post hp => br_f c1 ⟨vi, nm_r eK ⟨vi, nm_r ev' (fu_Y13_0 eo l4 (by rw [u2 he]; rcases a2 with z | z | z <;> rw [z] <;> decide) (by rw [u2 he]; exact h6) (HY post hp))⟩⟩, hr⟩
          rw [eK]
          exact fx_ns0 (by decide) (by decide) (by decide) (br_t rfl (fu_X13_0 (o := o) hi4 ec (by omega) t1 h6 (t2 he) (by omega) (by rw [← us]; exact (nm_r (nI_1 i) (HX post hp)))))
      · obtain ⟨w1, w2⟩ := t3 he
        obtain ⟨p1, p2, p3⟩ := u3 he
        have a3' := a3.resolve_left he
        have h6 : ¬ iK o = 6 := by rw [a3'.2.2.2.1]; decide
        have ue : upd xS i set e = xS e := pk_un (by omega)
        have us : set &&& yT s.length = set &&& xS e := by rw [p2, ue]
        obtain ⟨r, xS', yO', yS', yT', HX, HY, hr⟩ := ih (i + 1) s.length (set &&& yT s.length) (upd xS i set) yO yS yT (by omega) (by rw [hst]) (by rw [hst, p2]; exact fw_U_m u5 (fw_ss_a u4 p3))
        refine ⟨r, xS', yO', yS', yT', fun post hp => br_f c1 ⟨vi, nm_r eown ⟨vi, ?_⟩⟩, fun post hp => br_f c1 ⟨vi, nm_r eK ⟨vi, nm_r ev' (fu_Y13_e eo l4 p1 (HY post hp))⟩⟩, hr⟩
        rw [eK]
        exact fx_ns0 (by decide) (by decide) (by decide) (br_t rfl (fu_X13_e (o := o) (e := e) hi4 ec (by omega) (by omega) t1 h6 w1 (by omega) (by rw [← us]; exact (nm_r (nI_1 i) (HX post hp)))))
end
