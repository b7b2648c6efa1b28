/-! a run: limits, closing, what comes before the item -/
def fw_base (w : Bool) (fd : Nat) : Nat := if w then 64 else fd
def fw_pad (w : Bool) (inp : Nat → Int32) (p b : Nat) : Prop := w = false ∧ 0 < b ∧ ¬ (inp (p - 1) &&& (((1 : Int32) <<< (nI b &&& 31)) - 1)) = 0
def fw_clo (c : Nat) : Prop := c = 0 ∨ c = 1 ∨ c = 3 ∨ c = 6 ∨ c = 7 ∨ c = 8
theorem fy_s1 (l : Nat) : nI l - 1 = nI l + (-1) := by
  cases l with
  | zero => decide
  | succ l => rw [nI_pred, pk_m1]
section
variable {xic xoc xfc xhf xil xll xol xea xwr xcu xfo xsp xpo xbl xli xvu yic ysz yfd yls ymd ysa ytk ydp yps ybi ysp yus ynx yra yrd : Int32} {iK iA iB xM xO xS FK FA FB FM inp lst out vs xR xL yO yN yS yT : Nat → Int32}
variable {N fd ll i sp p b lim us dp base S : Nat} {w : Bool}
theorem ry_lim {post : Int32 → Prop} (hfd : fd ≤ 64) : ∀ (s : List (Nat × Nat)) (lim S m : Nat), fw_R FK xR xL yO yN (fw_base w fd) lim S s → s.length ≤ 4 → (∀ o e, (o, e) ∈ s → o < 40) → post (nI lim) → s.length < m → wY_limit_7 post yic (nI N) (nI fd) (nI ll) ymd ysa ytk (nI dp) (nI p) (nI b) (nI sp) (nI us) ynx yra (fw_r w) iK iA iB FK FA FB inp lst out vs yO yN yS yT m (nI s.length + (-1)) := by
  intro s
  induction s with
  | nil =>
    intro lim S m h hl hm hp hn
    cases m with
    | zero => omega
    | succ m =>
      obtain ⟨h1, h2⟩ := h
      refine br_t (by decide) ?_
      cases w with
      | false =>
        have e : lim = fd := h1
        rw [e] at hp
        exact br_f (by decide) hp
      | true =>
        have e : lim = 64 := h1
        rw [e] at hp
        exact br_t (by decide) hp
  | cons a s ih =>
    intro lim S m h hl hm hp hn
    obtain ⟨o, e⟩ := a
    cases m with
    | zero => omega
    | succ m =>
      have hl' : s.length + 1 ≤ 4 := hl
      have hn' : s.length + 1 < m + 1 := hn
      have ho := hm o e (List.mem_cons.mpr (Or.inl rfl))
      have hm' : ∀ o e, (o, e) ∈ s → o < 40 := fun o' e' q => hm o' e' (List.mem_cons.mpr (Or.inr q))
      have e1 : nI ((o, e) :: s).length + (-1) = nI s.length := pk_m1 s.length
      rw [e1]
      have v5 : vp_in (nI s.length) 5 := vp_in_nI (by omega) (by omega)
      have cs : (nI s.length).toNatClampNeg = s.length := nI_clamp (by omega)
      have eo : yO (nI s.length).toNatClampNeg = nI o := by rw [cs]; exact fw_R_op h
      have vo : vp_in (yO (nI s.length).toNatClampNeg) 40 := by rw [eo]; exact vp_in_nI ho (by omega)
      have ek : FK (yO (nI s.length).toNatClampNeg).toNatClampNeg = FK o := by rw [eo, nI_clamp (by omega)]
      have en : yN (nI s.length).toNatClampNeg = yN s.length := by rw [cs]
      obtain ⟨_, h⟩ := h
      rcases h with z | z | z
      · obtain ⟨z0, x, S', _, _, _, _, _, z⟩ := z
        refine br_f (nI_pos (by omega)) ⟨v5, vo, br_f (by rw [ek, z0]; decide) (nm_e ?_)⟩
        exact ih lim S' m z (by omega) hm' hp (by omega)
      · refine br_f (nI_pos (by omega)) ⟨v5, vo, br_f (by rw [ek, z.1]; decide) (nm_e ?_)⟩
        exact ih lim S m z.2 (by omega) hm' hp (by omega)
      · obtain ⟨z0, z1, _⟩ := z
        refine br_f (nI_pos (by omega)) ⟨v5, vo, br_t (by rw [ek]; exact z0) ⟨v5, ?_⟩⟩
        rw [en, z1]
        exact hp
theorem ry_limit {post : Int32 → Prop} (W : fw_Wf FK N) (hN : N ≤ 40) (hi : i < N) (hfd : fd ≤ 64) (R : fw_R FK xR xL yO yN (fw_base w fd) lim S (fw_st FK i)) (hd : dp = (fw_st FK i).length) (hp : post (nI lim)) : wpY_limit post (yic, nI N, nI fd, nI ll, ymd, ysa, ytk, nI dp, nI p, nI b, nI sp, nI us, ynx, yra, fw_r w, iK, iA, iB, FK, FA, FB, inp, lst, out, vs, yO, yN, yS, yT) := by
  have l4 := fw_len W i (by omega)
  refine nm_r (fy_s1 dp) ⟨dp + 1, ?_⟩
  subst hd
  exact ry_lim hfd (fw_st FK i) lim S _ R l4 (fun o e hm => by have := fw_mem_lt W i (by omega) o e hm; omega) hp (by omega)
theorem ry_room1 {post : Int32 → Prop} {m : Nat} (W : fw_Wf FK N) (hN : N ≤ 40) (hi : i < N) (hfd : fd ≤ 64) (R : fw_R FK xR xL yO yN (fw_base w fd) lim S (fw_st FK i)) (hd : dp = (fw_st FK i).length) (hlim : lim ≤ 64) (h : p + m ≤ lim) (hp : post 1) : wpY_room post (yic, nI N, nI fd, nI ll, ymd, ysa, ytk, nI dp, nI p, nI b, nI sp, nI us, ynx, yra, fw_r w, iK, iA, iB, FK, FA, FB, inp, lst, out, vs, yO, yN, yS, yT) (nI m) := by
  unfold wpY_room
  refine ry_limit W hN hi hfd R hd ?_
  refine br_f ?_ hp
  rw [pk_sub (by omega)]
  exact nI_nlt (by omega) (by omega)
theorem ry_room0 {post : Int32 → Prop} {m : Nat} (W : fw_Wf FK N) (hN : N ≤ 40) (hi : i < N) (hfd : fd ≤ 64) (R : fw_R FK xR xL yO yN (fw_base w fd) lim S (fw_st FK i)) (hd : dp = (fw_st FK i).length) (hlim : lim ≤ 64) (hpl : p ≤ lim) (hm : m < 2 ^ 31) (h : lim < p + m) (hp : post 0) : wpY_room post (yic, nI N, nI fd, nI ll, ymd, ysa, ytk, nI dp, nI p, nI b, nI sp, nI us, ynx, yra, fw_r w, iK, iA, iB, FK, FA, FB, inp, lst, out, vs, yO, yN, yS, yT) (nI m) := by
  unfold wpY_room
  refine ry_limit W hN hi hfd R hd ?_
  refine br_t ?_ hp
  rw [pk_sub (by omega)]
  exact nI_lt (by omega) hm
/-! closing the bits -/
theorem rx_cl1 {post : Int32 → SX → Prop} (h : ¬ fw_pad w inp p b) (hb : b ≤ 7) (hbp : 0 < b → 0 < p) (hp : p ≤ 64) (H : post 1 (xic, xoc, nI N, xhf, nI fd, nI ll, xol, xea, fw_w w, nI i, xfo, nI sp, nI p, nI 0, nI lim, nI us, iK, iA, iB, xM, xO, xS, FK, FA, FB, FM, inp, lst, out, vs, xR, xL)) : wpX_closeBits post (xic, xoc, nI N, xhf, nI fd, nI ll, xol, xea, fw_w w, nI i, xfo, nI sp, nI p, nI b, nI lim, nI us, iK, iA, iB, xM, xO, xS, FK, FA, FB, FM, inp, lst, out, vs, xR, xL) := by
  cases w with
  | true => exact br_f (by decide) H
  | false =>
    by_cases h0 : b = 0
    · subst h0
      exact br_t (by decide) (br_t (by decide) H)
    · have hp0 := hbp (by omega)
      have em : nI p - 1 = nI (p - 1) := by
        obtain ⟨q, rfl⟩ : ∃ q, p = q + 1 := ⟨p - 1, by omega⟩
        exact nI_pred q
      have ve : vp_in (nI p - 1) 64 := by rw [em]; exact vp_in_nI (by omega) (by omega)
      have ce : (nI p - 1).toNatClampNeg = p - 1 := by rw [em]; exact nI_clamp (by omega)
      refine br_t (by decide) (br_f (nI_nle (by omega) (by omega)) ⟨ve, br_t ?_ H⟩)
      rw [ce]
      by_cases z : (inp (p - 1) &&& (((1 : Int32) <<< (nI b &&& 31)) - 1)) = 0
      · exact z
      · exact absurd ⟨rfl, by omega, z⟩ h
theorem rx_cl0 {post : Int32 → SX → Prop} (h : fw_pad w inp p b) (hb : b ≤ 7) (hbp : 0 < b → 0 < p) (hp : p ≤ 64) (H : post 0 (xic, xoc, nI N, xhf, nI fd, nI ll, xol, xea, fw_w w, nI i, xfo, nI sp, nI p, nI b, nI lim, nI us, iK, iA, iB, xM, xO, xS, FK, FA, FB, FM, inp, lst, out, vs, xR, xL)) : wpX_closeBits post (xic, xoc, nI N, xhf, nI fd, nI ll, xol, xea, fw_w w, nI i, xfo, nI sp, nI p, nI b, nI lim, nI us, iK, iA, iB, xM, xO, xS, FK, FA, FB, FM, inp, lst, out, vs, xR, xL) := by
  obtain ⟨rfl, h0, h1⟩ := h
  have hp0 := hbp h0
  have em : nI p - 1 = nI (p - 1) := by
    obtain ⟨q, rfl⟩ : ∃ q, p = q + 1 := ⟨p - 1, by omega⟩
    exact nI_pred q
  have ve : vp_in (nI p - 1) 64 := by rw [em]; exact vp_in_nI (by omega) (by omega)
  have ce : (nI p - 1).toNatClampNeg = p - 1 := by rw [em]; exact nI_clamp (by omega)
  refine br_t (by decide) (br_f (nI_nle (by omega) (by omega)) ⟨ve, br_f ?_ H⟩)
  rw [ce]
  exact h1
theorem ry_cl1 {post : Int32 → SY → Prop} (h : ¬ fw_pad w inp p b) (hb : b ≤ 7) (hbp : 0 < b → 0 < p) (hp : p ≤ 64) (H : post 0 (yic, nI N, nI fd, nI ll, ymd, ysa, ytk, nI dp, nI p, nI 0, nI sp, nI us, ynx, yra, fw_r w, iK, iA, iB, FK, FA, FB, inp, lst, out, vs, yO, yN, yS, yT)) : wpY_close post (yic, nI N, nI fd, nI ll, ymd, ysa, ytk, nI dp, nI p, nI b, nI sp, nI us, ynx, yra, fw_r w, iK, iA, iB, FK, FA, FB, inp, lst, out, vs, yO, yN, yS, yT) := by
  cases w with
  | true => exact br_t (by decide) H
  | false =>
    by_cases h0 : b = 0
    · subst h0
      exact br_f (by decide) (br_t (by decide) H)
    · have hp0 := hbp (by omega)
      have em : nI p - 1 = nI (p - 1) := by
        obtain ⟨q, rfl⟩ : ∃ q, p = q + 1 := ⟨p - 1, by omega⟩
        exact nI_pred q
      have ve : vp_in (nI p - 1) 64 := by rw [em]; exact vp_in_nI (by omega) (by omega)
      have ce : (nI p - 1).toNatClampNeg = p - 1 := by rw [em]; exact nI_clamp (by omega)
      refine br_f (by decide) (br_f (nI_nle (by omega) (by omega)) ⟨ve, br_t ?_ H⟩)
      rw [ce]
      by_cases z : (inp (p - 1) &&& (((1 : Int32) <<< (nI b &&& 31)) - 1)) = 0
      · exact z
      · exact absurd ⟨rfl, by omega, z⟩ h
theorem ry_cl0 {post : Int32 → SY → Prop} (h : fw_pad w inp p b) (hb : b ≤ 7) (hbp : 0 < b → 0 < p) (hp : p ≤ 64) (H : post 6 (yic, nI N, nI fd, nI ll, ymd, ysa, ytk, nI dp, nI p, nI b, nI sp, nI us, ynx, yra, fw_r w, iK, iA, iB, FK, FA, FB, inp, lst, out, vs, yO, yN, yS, yT)) : wpY_close post (yic, nI N, nI fd, nI ll, ymd, ysa, ytk, nI dp, nI p, nI b, nI sp, nI us, ynx, yra, fw_r w, iK, iA, iB, FK, FA, FB, inp, lst, out, vs, yO, yN, yS, yT) := by
  obtain ⟨rfl, h0, h1⟩ := h
  have hp0 := hbp h0
  have em : nI p - 1 = nI (p - 1) := by
    obtain ⟨q, rfl⟩ : ∃ q, p = q + 1 := ⟨p - 1, by omega⟩
    exact nI_pred q
  have ve : vp_in (nI p - 1) 64 := by rw [em]; exact vp_in_nI (by omega) (by omega)
  have ce : (nI p - 1).toNatClampNeg = p - 1 := by rw [em]; exact nI_clamp (by omega)
  refine br_f (by decide) (br_f (nI_nle (by omega) (by omega)) ⟨ve, br_f ?_ H⟩)
  rw [ce]
  exact h1
/-! before the item: the one side -/
theorem rx_hv1 {post : Int32 → Prop} {c : Nat} (h : c < 3) (hp : post 1) : wpX_hasValue post (xic, xoc, xfc, xhf, xil, xll, xol, xea, xwr, xcu, xfo, xsp, xpo, xbl, xli, xvu, iK, iA, iB, xM, xO, xS, FK, FA, FB, FM, inp, lst, out, vs, xR, xL) (nI c) := by
  have h' : c = 0 ∨ c = 1 ∨ c = 2 := by omega
  rcases h' with rfl | rfl | rfl
  · exact br_t (by decide) hp
  · exact br_f (by decide) (br_t (by decide) hp)
  · exact br_f (by decide) (br_f (by decide) (br_t (by decide) hp))
theorem rx_nl {c m : Nat} (hc : c ≤ 13) (h : c ≠ m) (hm : m ≤ 13) : ¬ nI c = nI m := fun z => h ((nI_eq (by omega) (by omega)).mp z)
theorem rx_hv0 {post : Int32 → Prop} {c : Nat} (hc : c ≤ 13) (h : ¬ c < 3) (hp : post 0) : wpX_hasValue post (xic, xoc, xfc, xhf, xil, xll, xol, xea, xwr, xcu, xfo, xsp, xpo, xbl, xli, xvu, iK, iA, iB, xM, xO, xS, FK, FA, FB, FM, inp, lst, out, vs, xR, xL) (nI c) :=
  br_f (rx_nl (m := 0) hc (by omega) (by omega)) (br_f (rx_nl (m := 1) hc (by omega) (by omega)) (br_f (rx_nl (m := 2) hc (by omega) (by omega)) hp))
theorem rx_cb1 {post : Int32 → Prop} {c : Nat} (h : fw_clo c) (hp : post 1) : wpX_closesBits post (xic, xoc, xfc, xhf, xil, xll, xol, xea, xwr, xcu, xfo, xsp, xpo, xbl, xli, xvu, iK, iA, iB, xM, xO, xS, FK, FA, FB, FM, inp, lst, out, vs, xR, xL) (nI c) := by
  rcases h with rfl | rfl | rfl | rfl | rfl | rfl
  · exact br_t (by decide) hp
  · exact br_f (by decide) (br_t (by decide) hp)
  · exact br_f (by decide) (br_f (by decide) (br_t (by decide) hp))
  · exact br_f (by decide) (br_f (by decide) (br_f (by decide) (br_t (by decide) hp)))
  · exact br_f (by decide) (br_f (by decide) (br_f (by decide) (br_f (by decide) (br_t (by decide) hp))))
  · exact br_f (by decide) (br_f (by decide) (br_f (by decide) (br_f (by decide) (br_f (by decide) (br_t (by decide) hp)))))
theorem rx_cb0 {post : Int32 → Prop} {c : Nat} (hc : c ≤ 13) (h : ¬ fw_clo c) (hp : post 0) : wpX_closesBits post (xic, xoc, xfc, xhf, xil, xll, xol, xea, xwr, xcu, xfo, xsp, xpo, xbl, xli, xvu, iK, iA, iB, xM, xO, xS, FK, FA, FB, FM, inp, lst, out, vs, xR, xL) (nI c) := by
  unfold fw_clo at h
  exact br_f (rx_nl (m := 0) hc (by omega) (by omega)) (br_f (rx_nl (m := 1) hc (by omega) (by omega)) (br_f (rx_nl (m := 3) hc (by omega) (by omega)) (br_f (rx_nl (m := 6) hc (by omega) (by omega)) (br_f (rx_nl (m := 7) hc (by omega) (by omega)) (br_f (rx_nl (m := 8) hc (by omega) (by omega)) hp)))))
theorem rx_82 {post : Int32 → SX → Prop} {c : Nat} (hc : c ≤ 13) (hll : ll ≤ 40) (hs : w = true → c < 3 → us < ll) (H : post 0 (xic, xoc, nI N, xhf, nI fd, nI ll, xol, xea, fw_w w, nI i, xfo, nI sp, nI p, nI b, nI lim, nI us, iK, iA, iB, xM, xO, xS, FK, FA, FB, FM, inp, lst, out, vs, xR, xL)) : wX_prepareItem_82 post (nI c) xic xoc (nI N) xhf (nI fd) (nI ll) xol xea (fw_w w) (nI i) xfo (nI sp) (nI p) (nI b) (nI lim) (nI us) iK iA iB xM xO xS FK FA FB FM inp lst out vs xR xL := by
  cases w with
  | false => exact br_t rfl H
  | true =>
    refine br_f (by decide) ?_
    by_cases hv : c < 3
    · exact rx_hv1 hv (br_f (by decide) (br_t (nI_lt (hs rfl hv) (by omega)) H))
    · exact rx_hv0 hc hv (br_t rfl H)
theorem rx_82s {post : Int32 → SX → Prop} {c : Nat} (hll : ll ≤ 40) (hus : us ≤ 40) (hw : w = true) (hv : c < 3) (hs : ll ≤ us) (H : post 3 (xic, xoc, nI N, xhf, nI fd, nI ll, xol, xea, fw_w w, nI i, xfo, nI sp, nI p, nI b, nI lim, nI us, iK, iA, iB, xM, xO, xS, FK, FA, FB, FM, inp, lst, out, vs, xR, xL)) : wX_prepareItem_82 post (nI c) xic xoc (nI N) xhf (nI fd) (nI ll) xol xea (fw_w w) (nI i) xfo (nI sp) (nI p) (nI b) (nI lim) (nI us) iK iA iB xM xO xS FK FA FB FM inp lst out vs xR xL := by
  subst hw
  exact br_f (by decide) (rx_hv1 hv (br_f (by decide) (br_f (nI_nlt hs (by omega)) H)))
theorem rx_64c {post : Int32 → SX → Prop} {c : Nat} (h : fw_clo c) (hpad : ¬ fw_pad w inp p b) (hb : b ≤ 7) (hbp : 0 < b → 0 < p) (hp : p ≤ 64) (H : wX_prepareItem_82 post (nI c) xic xoc (nI N) xhf (nI fd) (nI ll) xol xea (fw_w w) (nI i) xfo (nI sp) (nI p) (nI 0) (nI lim) (nI us) iK iA iB xM xO xS FK FA FB FM inp lst out vs xR xL) : wX_prepareItem_64 post (nI c) xic xoc (nI N) xhf (nI fd) (nI ll) xol xea (fw_w w) (nI i) xfo (nI sp) (nI p) (nI b) (nI lim) (nI us) iK iA iB xM xO xS FK FA FB FM inp lst out vs xR xL := by
  unfold wX_prepareItem_64
  exact rx_cb1 h (br_f (by decide) (rx_cl1 hpad hb hbp hp (br_f (by decide) H)))
theorem rx_64n {post : Int32 → SX → Prop} {c : Nat} (hc : c ≤ 13) (h : ¬ fw_clo c) (H : wX_prepareItem_82 post (nI c) xic xoc (nI N) xhf (nI fd) (nI ll) xol xea (fw_w w) (nI i) xfo (nI sp) (nI p) (nI b) (nI lim) (nI us) iK iA iB xM xO xS FK FA FB FM inp lst out vs xR xL) : wX_prepareItem_64 post (nI c) xic xoc (nI N) xhf (nI fd) (nI ll) xol xea (fw_w w) (nI i) xfo (nI sp) (nI p) (nI b) (nI lim) (nI us) iK iA iB xM xO xS FK FA FB FM inp lst out vs xR xL := by
  unfold wX_prepareItem_64
  exact rx_cb0 hc h (br_t rfl H)
theorem rx_64p {post : Int32 → SX → Prop} {c : Nat} (h : fw_clo c) (hpad : fw_pad w inp p b) (hb : b ≤ 7) (hbp : 0 < b → 0 < p) (hp : p ≤ 64) (H : post 6 (xic, xoc, nI N, xhf, nI fd, nI ll, xol, xea, fw_w w, nI i, xfo, nI sp, nI p, nI b, nI lim, nI us, iK, iA, iB, xM, xO, xS, FK, FA, FB, FM, inp, lst, out, vs, xR, xL)) : wX_prepareItem_64 post (nI c) xic xoc (nI N) xhf (nI fd) (nI ll) xol xea (fw_w w) (nI i) xfo (nI sp) (nI p) (nI b) (nI lim) (nI us) iK iA iB xM xO xS FK FA FB FM inp lst out vs xR xL := by
  unfold wX_prepareItem_64
  exact rx_cb1 h (br_f (by decide) (rx_cl0 hpad hb hbp hp (br_t rfl H)))
theorem rx_prep {post : Int32 → SX → Prop} {c : Nat} (hc : c ≤ 11) (hsp : sp < 400) (hl : w = false → c < 3 → ll < 40) (H : wX_prepareItem_64 post (nI c) xic xoc (nI N) xhf (nI fd) (nI ll) xol xea (fw_w w) (nI i) xfo (nI (sp + 1)) (nI p) (nI b) (nI lim) (nI us) iK iA iB xM xO xS FK FA FB FM inp lst out vs xR xL) : wpX_prepareItem post (xic, xoc, nI N, xhf, nI fd, nI ll, xol, xea, fw_w w, nI i, xfo, nI sp, nI p, nI b, nI lim, nI us, iK, iA, iB, xM, xO, xS, FK, FA, FB, FM, inp, lst, out, vs, xR, xL) (nI c) := by
  refine br_f (rx_nl (m := 12) (by omega) (by omega) (by omega)) (br_f (rx_nl (m := 13) (by omega) (by omega) (by omega)) (br_t (nI_lt (b := 400) hsp (by decide)) (nm_r (nI_1 sp) ?_)))
  cases w with
  | true => exact br_f (by decide) H
  | false =>
    refine br_t rfl ?_
    by_cases hv : c < 3
    · exact rx_hv1 hv (br_f (by decide) (br_t (nI_lt (b := 40) (hl rfl hv) (by decide)) H))
    · exact rx_hv0 (by omega) hv (br_t rfl H)
theorem rx_m1 {post : Int32 → SX → Prop} {c : Nat} (hc : c ≤ 11) (hsp : ¬ sp < 400) (hs2 : sp < 2 ^ 31) (H : post 8 (xic, xoc, nI N, xhf, nI fd, nI ll, xol, xea, fw_w w, nI i, xfo, nI sp, nI p, nI b, nI lim, nI us, iK, iA, iB, xM, xO, xS, FK, FA, FB, FM, inp, lst, out, vs, xR, xL)) : wpX_prepareItem post (xic, xoc, nI N, xhf, nI fd, nI ll, xol, xea, fw_w w, nI i, xfo, nI sp, nI p, nI b, nI lim, nI us, iK, iA, iB, xM, xO, xS, FK, FA, FB, FM, inp, lst, out, vs, xR, xL) (nI c) :=
  br_f (rx_nl (m := 12) (by omega) (by omega) (by omega)) (br_f (rx_nl (m := 13) (by omega) (by omega) (by omega)) (br_f (nI_nlt (b := 400) (by omega) hs2) H))
theorem rx_m2 {post : Int32 → SX → Prop} {c : Nat} (hsp : sp < 400) (hw : w = false) (hv : c < 3) (hl : ll = 40) (H : post 8 (xic, xoc, nI N, xhf, nI fd, nI ll, xol, xea, fw_w w, nI i, xfo, nI (sp + 1), nI p, nI b, nI lim, nI us, iK, iA, iB, xM, xO, xS, FK, FA, FB, FM, inp, lst, out, vs, xR, xL)) : wpX_prepareItem post (xic, xoc, nI N, xhf, nI fd, nI ll, xol, xea, fw_w w, nI i, xfo, nI sp, nI p, nI b, nI lim, nI us, iK, iA, iB, xM, xO, xS, FK, FA, FB, FM, inp, lst, out, vs, xR, xL) (nI c) := by
  subst hw
  subst hl
  exact br_f (rx_nl (m := 12) (by omega) (by omega) (by omega)) (br_f (rx_nl (m := 13) (by omega) (by omega) (by omega)) (br_t (nI_lt (b := 400) hsp (by decide)) (nm_r (nI_1 sp) (br_t rfl (rx_hv1 hv (br_f (by decide) (br_f (by decide) H)))))))
/-! before the item: the other side -/
theorem ry_70c {post : Int32 → SY → Prop} {c : Nat} (h : fw_clo c) (H : wY_item_102 post (nI i) (nI c) yic (nI N) (nI fd) (nI ll) ymd ysa ytk (nI dp) (nI p) (nI b) (nI (sp + 1)) (nI us) ynx yra (fw_r w) iK iA iB FK FA FB inp lst out vs yO yN yS yT) : wY_item_70 post (nI i) (nI c) yic (nI N) (nI fd) (nI ll) ymd ysa ytk (nI dp) (nI p) (nI b) (nI sp) (nI us) ynx yra (fw_r w) iK iA iB FK FA FB inp lst out vs yO yN yS yT := by
  refine nm_r (nI_1 sp) ?_
  rcases h with rfl | rfl | rfl | rfl | rfl | rfl
  · exact br_t (by decide) H
  · exact br_t (by decide) H
  · exact br_f (by decide) (br_t (by decide) H)
  · exact br_f (by decide) (br_f (by decide) (br_f (by decide) (br_f (by decide) H)))
  · exact br_f (by decide) (br_f (by decide) (br_f (by decide) (br_f (by decide) H)))
  · exact br_f (by decide) (br_f (by decide) (br_f (by decide) (br_f (by decide) H)))
theorem ry_70n {post : Int32 → SY → Prop} {c : Nat} (hc : c ≤ 11) (h : ¬ fw_clo c) (H : wY_item_113 post (nI i) (nI c) yic (nI N) (nI fd) (nI ll) ymd ysa ytk (nI dp) (nI p) (nI b) (nI (sp + 1)) (nI us) ynx yra (fw_r w) iK iA iB FK FA FB inp lst out vs yO yN yS yT) : wY_item_70 post (nI i) (nI c) yic (nI N) (nI fd) (nI ll) ymd ysa ytk (nI dp) (nI p) (nI b) (nI sp) (nI us) ynx yra (fw_r w) iK iA iB FK FA FB inp lst out vs yO yN yS yT := by
  refine nm_r (nI_1 sp) ?_
  have h' : c = 2 ∨ c = 4 ∨ c = 5 ∨ c = 9 ∨ c = 10 ∨ c = 11 := by unfold fw_clo at h; omega
  rcases h' with rfl | rfl | rfl | rfl | rfl | rfl
  · exact br_f (by decide) (br_f (by decide) (br_t (by decide) H))
  · exact br_f (by decide) (br_f (by decide) (br_t (by decide) H))
  · exact br_f (by decide) (br_f (by decide) (br_t (by decide) H))
  · exact br_f (by decide) (br_f (by decide) (br_f (by decide) (br_t (by decide) H)))
  · exact br_f (by decide) (br_f (by decide) (br_f (by decide) (br_t (by decide) H)))
  · exact br_f (by decide) (br_f (by decide) (br_f (by decide) (br_t (by decide) H)))
theorem ry_102 {post : Int32 → SY → Prop} {c : Nat} (hpad : ¬ fw_pad w inp p b) (hb : b ≤ 7) (hbp : 0 < b → 0 < p) (hp : p ≤ 64) (H : wY_item_113 post (nI i) (nI c) yic (nI N) (nI fd) (nI ll) ymd ysa ytk (nI dp) (nI p) (nI 0) (nI sp) (nI us) ynx yra (fw_r w) iK iA iB FK FA FB inp lst out vs yO yN yS yT) : wY_item_102 post (nI i) (nI c) yic (nI N) (nI fd) (nI ll) ymd ysa ytk (nI dp) (nI p) (nI b) (nI sp) (nI us) ynx yra (fw_r w) iK iA iB FK FA FB inp lst out vs yO yN yS yT := by
  unfold wY_item_102
  exact ry_cl1 hpad hb hbp hp (br_t rfl H)
theorem ry_102p {post : Int32 → SY → Prop} {c : Nat} (hpad : fw_pad w inp p b) (hb : b ≤ 7) (hbp : 0 < b → 0 < p) (hp : p ≤ 64) (H : post 6 (yic, nI N, nI fd, nI ll, ymd, ysa, ytk, nI dp, nI p, nI b, nI sp, nI us, ynx, yra, fw_r w, iK, iA, iB, FK, FA, FB, inp, lst, out, vs, yO, yN, yS, yT)) : wY_item_102 post (nI i) (nI c) yic (nI N) (nI fd) (nI ll) ymd ysa ytk (nI dp) (nI p) (nI b) (nI sp) (nI us) ynx yra (fw_r w) iK iA iB FK FA FB inp lst out vs yO yN yS yT := by
  unfold wY_item_102
  exact ry_cl0 hpad hb hbp hp (br_f (by decide) H)
theorem ry_item {post : Int32 → SY → Prop} {c : Nat} (hi : i < 40) (hk : FK i = nI c) (hc : c ≤ 11) (hsp : sp < 400) (hl : w = false → c < 3 → ll < 40) (H : wY_item_70 post (nI i) (nI c) yic (nI N) (nI fd) (nI ll) ymd ysa ytk (nI dp) (nI p) (nI b) (nI sp) (nI us) ynx yra (fw_r w) iK iA iB FK FA FB inp lst out vs yO yN yS yT) : wpY_item post (yic, nI N, nI fd, nI ll, ymd, ysa, ytk, nI dp, nI p, nI b, nI sp, nI us, ynx, yra, fw_r w, iK, iA, iB, FK, FA, FB, inp, lst, out, vs, yO, yN, yS, yT) (nI i) := by
  have ci : (nI i).toNatClampNeg = i := nI_clamp (by omega)
  have n400 : ¬ nI sp = (400 : Int32) := fun z => by
    have := (nI_eq (a := sp) (b := 400) (by omega) (by omega)).mp z
    omega
  refine ⟨vp_in_nI hi (by omega), nm_r (by rw [ci]; exact hk) (br_f (rx_nl (m := 13) (by omega) (by omega) (by omega)) (br_f (rx_nl (m := 12) (by omega) (by omega) (by omega)) (br_f n400 ?_)))⟩
  cases w with
  | true => exact br_t (by decide) H
  | false =>
    refine br_f (by decide) ?_
    by_cases hv : c < 3
    · have n40 : ¬ nI ll = (40 : Int32) := fun z => by
        have q := hl rfl hv
        have := (nI_eq (a := ll) (b := 40) (by omega) (by omega)).mp z
        omega
      exact br_f (nI_ge (b := 3) hv (by decide)) (br_f n40 H)
    · exact br_t (nI_le (a := 3) (by omega) (by omega)) H
theorem ry_m1 {post : Int32 → SY → Prop} {c : Nat} (hi : i < 40) (hk : FK i = nI c) (hc : c ≤ 11) (hsp : sp = 400) (H : post 8 (yic, nI N, nI fd, nI ll, ymd, ysa, ytk, nI dp, nI p, nI b, nI sp, nI us, ynx, yra, fw_r w, iK, iA, iB, FK, FA, FB, inp, lst, out, vs, yO, yN, yS, yT)) : wpY_item post (yic, nI N, nI fd, nI ll, ymd, ysa, ytk, nI dp, nI p, nI b, nI sp, nI us, ynx, yra, fw_r w, iK, iA, iB, FK, FA, FB, inp, lst, out, vs, yO, yN, yS, yT) (nI i) := by
  have ci : (nI i).toNatClampNeg = i := nI_clamp (by omega)
  subst hsp
  exact ⟨vp_in_nI hi (by omega), nm_r (by rw [ci]; exact hk) (br_f (rx_nl (m := 13) (by omega) (by omega) (by omega)) (br_f (rx_nl (m := 12) (by omega) (by omega) (by omega)) (br_t (by decide) H)))⟩
theorem ry_m2 {post : Int32 → SY → Prop} {c : Nat} (hi : i < 40) (hk : FK i = nI c) (hsp : sp < 400) (hw : w = false) (hv : c < 3) (hl : ll = 40) (H : post 8 (yic, nI N, nI fd, nI ll, ymd, ysa, ytk, nI dp, nI p, nI b, nI sp, nI us, ynx, yra, fw_r w, iK, iA, iB, FK, FA, FB, inp, lst, out, vs, yO, yN, yS, yT)) : wpY_item post (yic, nI N, nI fd, nI ll, ymd, ysa, ytk, nI dp, nI p, nI b, nI sp, nI us, ynx, yra, fw_r w, iK, iA, iB, FK, FA, FB, inp, lst, out, vs, yO, yN, yS, yT) (nI i) := by
  have ci : (nI i).toNatClampNeg = i := nI_clamp (by omega)
  have n400 : ¬ nI sp = (400 : Int32) := fun z => by
    have := (nI_eq (a := sp) (b := 400) (by omega) (by omega)).mp z
    omega
  subst hw
  subst hl
  exact ⟨vp_in_nI hi (by omega), nm_r (by rw [ci]; exact hk) (br_f (rx_nl (m := 13) (by omega) (by omega) (by omega)) (br_f (rx_nl (m := 12) (by omega) (by omega) (by omega)) (br_f n400 (br_f (by decide) (br_f (nI_ge (b := 3) hv (by decide)) (br_t (by decide) H))))))⟩
end
