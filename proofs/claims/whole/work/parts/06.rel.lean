/-! the relation -/
def fw_Pr (n fd ll md : Nat) (iK iA FK FA FM : Nat → Int32) (hf fc sz : Int32) : Prop := n ≤ 40 ∧ fd ≤ 64 ∧ ll ≤ 40 ∧ md ≤ 64 ∧ (∀ j, j < n → fw_It (iK j) (iA j)) ∧ ((hf = 0 ∧ sz = -1) ∨ (hf = 1 ∧ ∃ N, fc = nI N ∧ sz = nI N ∧ fw_Fmt FK FA FM N))
def i_Rel (_ : Nat) (u : SX) (v : SY) : Prop := match u, v with
  | (xic, xoc, xfc, xhf, xil, xll, xol, xea, xwr, xcu, xfo, xsp, xpo, xbl, xli, xvu, iK, iA, iB, xM, xO, xS, FK, FA, FB, FM, inp, lst, out, vs, xR, xL), (yic, ysz, yfd, yls, ymd, ysa, ytk, ydp, yps, ybi, ysp, yus, ynx, yra, yrd, yK, yA, yB, zK, zA, zB, yin, ylst, yout, yvs, yO, yN, yS, yT) => ∃ n fd ll md : Nat, xic = nI n ∧ yic = nI n ∧ xil = nI fd ∧ yfd = nI fd ∧ xll = nI ll ∧ yls = nI ll ∧ xol = nI md ∧ ymd = nI md ∧ xea = ysa ∧ xpo = ytk ∧ iK = yK ∧ iA = yA ∧ iB = yB ∧ FK = zK ∧ FA = zA ∧ FB = zB ∧ inp = yin ∧ lst = ylst ∧ out = yout ∧ vs = yvs ∧ fw_Pr n fd ll md iK iA FK FA FM xhf xfc ysz
theorem i_up {k : Nat} {u : SX} {v : SY} (h : i_Rel k u v) : i_Rel (k + 4) u v := h
theorem i_vc0 : wpX_init (fun u => wpY_init (fun v => i_Rel 0 u v)) :=
  ⟨0, 0, 0, 0, rfl, rfl, rfl, rfl, rfl, rfl, rfl, rfl, rfl, rfl, rfl, rfl, rfl, rfl, rfl, rfl, rfl, rfl, rfl, rfl, by omega, by omega, by omega, by omega, fun j h => absurd h (Nat.not_lt_zero j), Or.inl ⟨rfl, rfl⟩⟩
