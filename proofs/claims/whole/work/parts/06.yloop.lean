theorem ex_yo_rk' {o t' : Int32} (e : t' = ex_yo o) (h : ex_ok o) {post : Int32 → Prop} (hp : post (nI (ex_rk o))) : wpY_level post t' := by
  rw [e]; exact ex_yo_rk h hp
theorem ex_yo12 {o : Int32} (h : ex_ok o) : (ex_yo o = 12 ↔ o = 12) := by
  rcases h with rfl | rfl | hb
  · decide
  · decide
  · obtain ⟨_, b2, b3, _⟩ := ex_bin_no hb
    unfold ex_yo; rw [if_neg b2]
theorem ex_rk1 {o : Int32} (h : ex_ok o) : 1 ≤ ex_rk o ↔ o ≠ 12 := by
  rcases h with rfl | rfl | hb
  · decide
  · decide
  · obtain ⟨_, b2, b3, _, b5⟩ := ex_bin_no hb
    exact ⟨fun _ => b3, fun _ => b5⟩
theorem ex_okn {o : Int32} (h : ex_ok o) (h1 : 1 ≤ ex_rk o) : o = 14 ∨ ex_bin o = true := by
  rcases h with h | h
  · exact absurd h ((ex_rk1 (Or.inl h)).mp h1)
  · exact h
theorem ex_len_xs (x y k o : Int32) (st : List Int32) (b : Bool) (h1 : o = 14 ∨ ex_bin o = true) (h : ex_fit [o] st.length) : (ex_xs x y k o (st, b)).1.length ≤ st.length ∧ (ex_xs x y k o (st, b)).1.length = ex_hgt [o] st.length := by
  have e := ex_xs_len x y k o (st, b) h
  refine ⟨?_, e⟩
  rw [e]
  have : ex_opd o = false := by
    rcases h1 with rfl | hb
    · decide
    · exact (ex_bin_no hb).1
  simp only [ex_hgt, this, Bool.false_eq_true, if_false]
  split <;> omega
section
variable {lm pn wp sr sc se fl sp pt sg el rs sn wy ya vv vt ot ra br : Int32} {en oc : Int64} {it le pe op kd nu co cl ap rd si bg ct ls hd hk hc vl tk cn lf la pc yb yh yk ho vs os : Nat → Int32}
theorem yr_217 (x y k x1 x6 t : Int32) (ht : ex_bin t = true) : ∀ (ops st : List Int32) (b : Bool) (vs : Nat → Int32), (∀ o, o ∈ ops → ex_ok o) → ops.length ≤ 16 → st.length ≤ 16 → ex_stk os (ops.map ex_yo) → ex_stk vs st → ex_fit (ex_pop (ex_rk t) ops).1 st.length →
    ∃ vs' : Nat → Int32, ex_stk vs' (ex_fo x y k (ex_pop (ex_rk t) ops).1 (st, b)).1 ∧ ∀ (J : (Int32 → Int32 → Int32 → Int32 → Int32 → Int32 → Int32 → Int32 → Int32 → Int32 → Int32 → Int32 → Int32 → Int32 → Int32 → Int64 → (Nat → Int32) → (Nat → Int32) → (Nat → Int32) → (Nat → Int32) → (Nat → Int32) → (Nat → Int32) → (Nat → Int32) → (Nat → Int32) → (Nat → Int32) → (Nat → Int32) → (Nat → Int32) → (Nat → Int32) → (Nat → Int32) → (Nat → Int32) → (Nat → Int32) → (Nat → Int32) → (Nat → Int32) → (Nat → Int32) → Prop)) (post : Int32 → SY → Prop) (n : Nat), ops.length < n → wY_value_253 post J x1 x y k x6 t lm sr sc wy sp ya se fl vv (nI (ex_fo x y k (ex_pop (ex_rk t) ops).1 (st, b)).1.length) (nI (ex_pop (ex_rk t) ops).2.length) ra (ex_bi (ex_fo x y k (ex_pop (ex_rk t) ops).1 (st, b)).2) oc it le tk cn kd nu lf la pc yb yh yk ho ap rd si vs' os → wY_value_217 post J x1 x y k x6 t n lm sr sc wy sp ya se fl vv (nI st.length) (nI ops.length) ra (ex_bi b) oc it le tk cn kd nu lf la pc yb yh yk ho ap rd si vs os := by
  intro ops
  induction ops with
  | nil =>
    intro st b vs _ _ _ _ h5 _
    refine ⟨vs, h5, fun J post n hn h => ?_⟩
    obtain ⟨m, rfl⟩ : ∃ m, n = m + 1 := ⟨n - 1, by simp at hn; omega⟩
    exact br_t (show nI 0 ≤ 0 from by decide) h
  | cons o l IH =>
    intro st b vs h1 h2 h3 h4 h5 h6
    rw [List.length_cons] at h2
    have hok := h1 o (List.mem_cons_self ..)
    have hom : nI (l.length + 1) - 1 = nI l.length := nI_pred _
    have hov : vp_in (nI (l.length + 1) - 1) 20 := by rw [hom]; exact vp_in_nI (by omega) (by omega)
    have hos : os l.length = ex_yo o := by have := h4.1; rw [List.length_map] at this; exact this
    have hoe : os (nI (l.length + 1) - 1).toNatClampNeg = ex_yo o := by rw [hom, nI_clamp (by omega)]; exact hos
    have hne : ¬ nI (l.length + 1) ≤ 0 := nI_nle (by omega) (by omega)
    have hr1 := ex_rk_le o
    have hr2 := ex_rk_le t
    by_cases hq : ex_rk t ≤ ex_rk o
    · have e : ex_pop (ex_rk t) (o :: l) = (o :: (ex_pop (ex_rk t) l).1, (ex_pop (ex_rk t) l).2) := by simp only [ex_pop]; rw [if_pos hq]
      rw [e] at h6 ⊢
      dsimp only at h6 ⊢
      have hon := ex_okn hok (Nat.le_trans (ex_bin_no ht).2.2.2.2 hq)
      have hf1 : ex_fit [o] st.length := ex_fit_l [o] _ _ h6
      have hf2 := ex_fit_r [o] _ _ h6
      have hxl := ex_len_xs x y k o st b hon hf1
      obtain ⟨vs1, w1, w2⟩ := yr_work (lm := lm) (sr := sr) (sc := sc) (wy := wy) (sp := sp) (ya := ya) (se := se) (fl := fl) (vv := vv) (ra := ra) (oc := oc) (it := it) (le := le) (tk := tk) (cn := cn) (kd := kd) (nu := nu) (lf := lf) (la := la) (pc := pc) (yb := yb) (yh := yh) (yk := yk) (ho := ho) (ap := ap) (rd := rd) (si := si) (os := os) (vs := vs) x y k o l.length (by omega) st b (by omega) hon hos h5 hf1
      obtain ⟨vs', g1, g2⟩ := IH (ex_xs x y k o (st, b)).1 (ex_xs x y k o (st, b)).2 vs1 (fun p hp => h1 p (List.mem_cons_of_mem _ hp)) (by omega) (by omega) h4.2 w1 (by rw [hxl.2]; exact hf2)
      refine ⟨vs', g1, fun J post n hn h => ?_⟩
      obtain ⟨m, rfl⟩ : ∃ m, n = m + 1 := ⟨n - 1, by omega⟩
      refine br_f hne ⟨hov, ex_yo_rk' hoe hok (ex_lv ht (br_f ?_ (w2 _ (g2 J post m (by simp at hn; omega) h))))⟩
      rw [nI_ltI (by omega) (by omega)]; omega
    · have e : ex_pop (ex_rk t) (o :: l) = ([], o :: l) := by simp only [ex_pop]; rw [if_neg hq]
      rw [e]
      refine ⟨vs, h5, fun J post n hn h => ?_⟩
      obtain ⟨m, rfl⟩ : ∃ m, n = m + 1 := ⟨n - 1, by omega⟩
      refine br_f hne ⟨hov, ex_yo_rk' hoe hok (ex_lv ht (br_t ?_ h))⟩
      rw [nI_ltI (by omega) (by omega)]; omega
theorem yr_181 (x y k x1 x5 : Int32) (i : Nat) (q : List Int32) : ∀ (ops st : List Int32) (b : Bool) (vs : Nat → Int32), (ex_pop 1 ops).2 = 12 :: q → (∀ o, o ∈ ops → ex_ok o) → ops.length ≤ 16 → st.length ≤ 16 → ex_stk os (ops.map ex_yo) → ex_stk vs st → ex_fit (ex_pop 1 ops).1 st.length →
    ∃ vs' : Nat → Int32, ex_stk vs' (ex_fo x y k (ex_pop 1 ops).1 (st, b)).1 ∧ ∀ (J : (Int32 → Int32 → Int32 → Int32 → Int32 → Int32 → Int32 → Int32 → Int32 → Int32 → Int32 → Int32 → Int32 → Int32 → Int32 → Int64 → (Nat → Int32) → (Nat → Int32) → (Nat → Int32) → (Nat → Int32) → (Nat → Int32) → (Nat → Int32) → (Nat → Int32) → (Nat → Int32) → (Nat → Int32) → (Nat → Int32) → (Nat → Int32) → (Nat → Int32) → (Nat → Int32) → (Nat → Int32) → (Nat → Int32) → (Nat → Int32) → (Nat → Int32) → (Nat → Int32) → Prop)) (post : Int32 → SY → Prop) (n : Nat), ops.length < n → J x5 (nI (i + 1)) lm sr sc wy sp ya se fl vv (nI (ex_fo x y k (ex_pop 1 ops).1 (st, b)).1.length) (nI q.length) ra (ex_bi (ex_fo x y k (ex_pop 1 ops).1 (st, b)).2) oc it le tk cn kd nu lf la pc yb yh yk ho ap rd si vs' os → wY_value_181 post J x1 x y k x5 (nI i) n lm sr sc wy sp ya se fl vv (nI st.length) (nI ops.length) ra (ex_bi b) oc it le tk cn kd nu lf la pc yb yh yk ho ap rd si vs os := by
  intro ops
  induction ops with
  | nil =>
    intro st b vs h0
    exact absurd h0 (by simp [ex_pop])
  | cons o l IH =>
    intro st b vs h0 h1 h2 h3 h4 h5 h6
    rw [List.length_cons] at h2
    have hok := h1 o (List.mem_cons_self ..)
    have hom : nI (l.length + 1) - 1 = nI l.length := nI_pred _
    have hov : vp_in (nI (l.length + 1) - 1) 20 := by rw [hom]; exact vp_in_nI (by omega) (by omega)
    have hos : os l.length = ex_yo o := by have := h4.1; rw [List.length_map] at this; exact this
    have hoe : os (nI (l.length + 1) - 1).toNatClampNeg = ex_yo o := by rw [hom, nI_clamp (by omega)]; exact hos
    by_cases hq : 1 ≤ ex_rk o
    · have e : ex_pop 1 (o :: l) = (o :: (ex_pop 1 l).1, (ex_pop 1 l).2) := by simp only [ex_pop]; rw [if_pos hq]
      rw [e] at h0 h6 ⊢
      dsimp only at h0 h6 ⊢
      have hon := ex_okn hok hq
      have hf1 : ex_fit [o] st.length := ex_fit_l [o] _ _ h6
      have hf2 := ex_fit_r [o] _ _ h6
      have hxl := ex_len_xs x y k o st b hon hf1
      obtain ⟨vs1, w1, w2⟩ := yr_work (lm := lm) (sr := sr) (sc := sc) (wy := wy) (sp := sp) (ya := ya) (se := se) (fl := fl) (vv := vv) (ra := ra) (oc := oc) (it := it) (le := le) (tk := tk) (cn := cn) (kd := kd) (nu := nu) (lf := lf) (la := la) (pc := pc) (yb := yb) (yh := yh) (yk := yk) (ho := ho) (ap := ap) (rd := rd) (si := si) (os := os) (vs := vs) x y k o l.length (by omega) st b (by omega) hon hos h5 hf1
      obtain ⟨vs', g1, g2⟩ := IH (ex_xs x y k o (st, b)).1 (ex_xs x y k o (st, b)).2 vs1 h0 (fun p hp => h1 p (List.mem_cons_of_mem _ hp)) (by omega) (by omega) h4.2 w1 (by rw [hxl.2]; exact hf2)
      refine ⟨vs', g1, fun J post n hn h => ?_⟩
      obtain ⟨m, rfl⟩ : ∃ m, n = m + 1 := ⟨n - 1, by omega⟩
      refine ⟨hov, br_f ?_ (w2 _ (g2 J post m (by simp at hn; omega) h))⟩
      rw [List.length_cons, hoe, ex_yo12 hok]; exact (ex_rk1 hok).mp hq
    · have e : ex_pop 1 (o :: l) = ([], o :: l) := by simp only [ex_pop]; rw [if_neg hq]
      rw [e] at h0 ⊢
      have h12 : o = 12 := by
        apply Classical.byContradiction
        intro z
        exact hq ((ex_rk1 hok).mpr z)
      have hl : l = q := by injection h0
      refine ⟨vs, h5, fun J post n hn h => ?_⟩
      obtain ⟨m, rfl⟩ : ∃ m, n = m + 1 := ⟨n - 1, by omega⟩
      subst hl
      refine ⟨hov, br_t ?_ (nm_r hom (nm_r (nI_1 _) h))⟩
      rw [List.length_cons, hoe, ex_yo12 hok]; exact h12
theorem yr_280 (x y k : Int32) : ∀ (ops st : List Int32) (b : Bool) (vs : Nat → Int32), (ex_pop 1 ops).2 = [] → (∀ o, o ∈ ops → ex_ok o) → ops.length ≤ 16 → st.length ≤ 16 → ex_stk os (ops.map ex_yo) → ex_stk vs st → ex_fit (ex_pop 1 ops).1 st.length →
    ∃ vs' : Nat → Int32, ex_stk vs' (ex_fo x y k (ex_pop 1 ops).1 (st, b)).1 ∧ ∀ (post : Int32 → SY → Prop) (n : Nat), ops.length < n → post (vs' 0) (lm, sr, sc, wy, sp, ya, se, fl, vv, nI (ex_fo x y k (ex_pop 1 ops).1 (st, b)).1.length, 0, ra, ex_bi (ex_fo x y k (ex_pop 1 ops).1 (st, b)).2, oc, it, le, tk, cn, kd, nu, lf, la, pc, yb, yh, yk, ho, ap, rd, si, vs', os) → wY_value_280 post n lm sr sc wy sp ya se fl vv (nI st.length) (nI ops.length) ra (ex_bi b) oc it le tk cn kd nu lf la pc yb yh yk ho ap rd si vs os := by
  intro ops
  induction ops with
  | nil =>
    intro st b vs _ _ _ _ _ h5 _
    refine ⟨vs, h5, fun post n hn h => ?_⟩
    obtain ⟨m, rfl⟩ : ∃ m, n = m + 1 := ⟨n - 1, by simp at hn; omega⟩
    exact br_t (show nI 0 ≤ 0 from by decide) h
  | cons o l IH =>
    intro st b vs h0 h1 h2 h3 h4 h5 h6
    rw [List.length_cons] at h2
    have hok := h1 o (List.mem_cons_self ..)
    have hos : os l.length = ex_yo o := by have := h4.1; rw [List.length_map] at this; exact this
    have hne : ¬ nI (l.length + 1) ≤ 0 := nI_nle (by omega) (by omega)
    by_cases hq : 1 ≤ ex_rk o
    · have e : ex_pop 1 (o :: l) = (o :: (ex_pop 1 l).1, (ex_pop 1 l).2) := by simp only [ex_pop]; rw [if_pos hq]
      rw [e] at h0 h6 ⊢
      dsimp only at h0 h6 ⊢
      have hon := ex_okn hok hq
      have hf1 : ex_fit [o] st.length := ex_fit_l [o] _ _ h6
      have hf2 := ex_fit_r [o] _ _ h6
      have hxl := ex_len_xs x y k o st b hon hf1
      obtain ⟨vs1, w1, w2⟩ := yr_work (lm := lm) (sr := sr) (sc := sc) (wy := wy) (sp := sp) (ya := ya) (se := se) (fl := fl) (vv := vv) (ra := ra) (oc := oc) (it := it) (le := le) (tk := tk) (cn := cn) (kd := kd) (nu := nu) (lf := lf) (la := la) (pc := pc) (yb := yb) (yh := yh) (yk := yk) (ho := ho) (ap := ap) (rd := rd) (si := si) (os := os) (vs := vs) x y k o l.length (by omega) st b (by omega) hon hos h5 hf1
      obtain ⟨vs', g1, g2⟩ := IH (ex_xs x y k o (st, b)).1 (ex_xs x y k o (st, b)).2 vs1 h0 (fun p hp => h1 p (List.mem_cons_of_mem _ hp)) (by omega) (by omega) h4.2 w1 (by rw [hxl.2]; exact hf2)
      refine ⟨vs', g1, fun post n hn h => ?_⟩
      obtain ⟨m, rfl⟩ : ∃ m, n = m + 1 := ⟨n - 1, by omega⟩
      exact br_f hne (w2 _ (g2 post m (by simp at hn; omega) h))
    · have e : ex_pop 1 (o :: l) = ([], o :: l) := by simp only [ex_pop]; rw [if_neg hq]
      rw [e] at h0
      exact absurd h0 (by simp)
end
