/-! the component: translation and working out -/
def ex_stk (a : Nat → Int32) : List Int32 → Prop
  | [] => True
  | x :: l => a l.length = x ∧ ex_stk a l
theorem ex_stk_upd (a : Nat → Int32) (x : Int32) : ∀ (l : List Int32) (j : Nat), l.length ≤ j → ex_stk a l → ex_stk (upd a j x) l
  | [], _, _, _ => trivial
  | y :: l, j, hj, h => ⟨by rw [pk_un (by rw [List.length_cons] at hj; omega)]; exact h.1, ex_stk_upd a x l j (by rw [List.length_cons] at hj; omega) h.2⟩
theorem ex_stk_push (a : Nat → Int32) (x : Int32) (l : List Int32) (h : ex_stk a l) : ex_stk (upd a l.length x) (x :: l) :=
  ⟨pk_us, ex_stk_upd a x l _ (Nat.le_refl _) h⟩
theorem ex_stk_app (a : Nat → Int32) : ∀ (p l : List Int32), ex_stk a (p ++ l) → ex_stk a l
  | [], l, h => h
  | _ :: p, l, h => ex_stk_app a p l h.2
def ex_lay (a : Nat → Int32) (o : Nat) (l : List Int32) : Prop := ∀ i t, l[i]? = some t → a (o + i) = t
theorem ex_lay_app {a b : Nat → Int32} {o : Nat} {l : List Int32} {t : Int32} (h : ex_lay a o l) (hb : ∀ j, j < o + l.length → b j = a j) (ht : b (o + l.length) = t) : ex_lay b o (l ++ [t]) := by
  intro i u hu
  by_cases hi : i < l.length
  · rw [List.getElem?_append_left hi] at hu
    rw [hb _ (by omega)]
    exact h i u hu
  · rw [List.getElem?_append_right (by omega)] at hu
    have : i = l.length := by
      have := (List.getElem?_eq_some_iff.mp hu).1
      simp at this
      omega
    subst this
    simp at hu
    rw [ht, hu]
theorem ex_b01 (b : Bool) : ((if b = true then (1 : Int32) else 0) = 0) ↔ b = false := by cases b <;> decide
theorem xr_isOperand {post : Int32 → Prop} {t : Int32} (h : post (if ex_opd t = true then 1 else 0)) : wpX_isOperand post t := by
  have h10 : (¬ (1 ≤ t ∧ t ≤ 3)) → wX_isOperand_10 post t := by
    intro hn
    refine br_c (fun a => ?_) (fun a => ?_)
    · have : ex_opd t = false := by
        simp only [ex_opd, Bool.or_eq_false_iff, Bool.and_eq_false_iff, decide_eq_false_iff_not]
        refine ⟨?_, by rw [Int32.not_le]; exact a⟩
        by_cases h1 : 1 ≤ t
        · exact Or.inr (fun h2 => hn ⟨h1, h2⟩)
        · exact Or.inl h1
      rw [this] at h; exact h
    · have : ex_opd t = true := by
        simp only [ex_opd, Bool.or_eq_true, decide_eq_true_eq]
        exact Or.inr (Int32.not_lt.mp a)
      rw [this] at h; exact h
  refine br_c (fun a => h10 (fun z => absurd z.1 (Int32.not_le.mpr a))) (fun a => br_c (fun b => ?_) (fun b => h10 (fun z => b z.2)))
  have : ex_opd t = true := by
    simp only [ex_opd, Bool.or_eq_true, Bool.and_eq_true, decide_eq_true_eq]
    exact Or.inl ⟨Int32.not_lt.mp a, b⟩
  rw [this] at h; exact h
theorem ex_rk_out {t : Int32} (h : t < 4 ∨ 14 < t) : ex_rk t = 0 := by
  unfold ex_rk
  rcases h with h | h
  all_goals
    rw [if_neg (by rintro (rfl | rfl) <;> revert h <;> decide), if_neg (by rintro (rfl | rfl | rfl) <;> revert h <;> decide), if_neg (by rintro (rfl | rfl | rfl) <;> revert h <;> decide), if_neg (by rintro rfl; revert h; decide)]
theorem ex_rk_le (t : Int32) : ex_rk t ≤ 4 := by
  unfold ex_rk
  repeat' split
  all_goals omega
theorem xr_rank {post : Int32 → Prop} {t t' : Int32} (e : t' = t) (h : post (nI (ex_rk t))) : wpX_rank post t' := by
  subst e
  refine br_c (fun a => ?_) (fun a => br_c (fun b => ?_) (fun b => ?_))
  · rw [ex_rk_out (Or.inl a)] at h; exact h
  · rw [ex_rk_out (Or.inr b)] at h; exact h
  · refine br_c (fun c => ?_) (fun c => br_c (fun c => ?_) (fun c => br_c (fun c => ?_) (fun c => br_c (fun c => ?_) (fun c => br_c (fun c => ?_) (fun c => br_c (fun c => ?_) (fun c => br_c (fun c => ?_) (fun c => br_c (fun c => ?_) (fun c => br_c (fun c => ?_) (fun c => br_c (fun c => ?_) (fun c => br_c (fun c => ?_) (fun c => trivial)))))))))))
    all_goals (subst c; exact h)
section
variable {lm pn wp sr sc se fl sp pt sg el rs sn wy ya vv vt ot ra br : Int32} {en oc : Int64} {it le pe op kd nu co cl ap rd si bg ct ls hd hk hc vl tk cn lf la pc yb yh yk ho vs os : Nat → Int32}
theorem xr_addCode (s : Nat) (hs : s < 8) (m : Nat) (hm : m < 16) (hcl : cl s = nI m) (t : Int32) {post : SX → Prop} (h : post (lm, pn, wp, sr, sc, se, fl, sp, en, pt, sg, el, rs, sn, it, le, pe, op, kd, nu, upd co (16 * s + m) t, upd cl s (nI (m + 1)), ap, rd, si, bg, ct, ls, hd, hk, hc, vl)) : wpX_addCode post (lm, pn, wp, sr, sc, se, fl, sp, en, pt, sg, el, rs, sn, it, le, pe, op, kd, nu, co, cl, ap, rd, si, bg, ct, ls, hd, hk, hc, vl) (nI s) t := by
  have e1 : (nI s).toNatClampNeg = s := nI_clamp (by omega)
  have hi : vp_in (nI s) 8 := vp_in_nI hs (by omega)
  have e2 : nI s * 16 + cl (nI s).toNatClampNeg = nI (16 * s + m) := by
    rw [e1, hcl, show (16 : Int32) = nI 16 from rfl, pk_mul, nI_add]
    exact congrArg nI (by omega)
  refine ⟨hi, br_f ?_ ⟨hi, ?_, nm_r ?_ ⟨hi, hi, nm_r ?_ h⟩⟩⟩
  · rw [e1, hcl]; exact nI_ge (b := 16) hm (by decide)
  · rw [e2]; exact vp_in_nI (by omega) (by omega)
  · rw [e2, nI_clamp (by omega)]
  · rw [e1, hcl, nI_1]
theorem xr_addOps (s : Nat) (hs : s < 8) (r : Nat) (hr : r ≤ 4) (op : Nat → Int32) : ∀ (ops code : List Int32) (co cl : Nat → Int32), ex_stk op ops → ex_lay co (16 * s) code → cl s = nI code.length → code.length + ops.length ≤ 16 →
    ∃ co' cl' : Nat → Int32, ex_lay co' (16 * s) (code ++ (ex_pop r ops).1) ∧ cl' s = nI (code ++ (ex_pop r ops).1).length ∧ (∀ i, (i < 16 * s ∨ 16 * s + 16 ≤ i) → co' i = co i) ∧ (∀ t, t ≠ s → cl' t = cl t) ∧
      ∀ (post : Int32 → SX → Prop) (n : Nat), ops.length < n → post (nI (ex_pop r ops).2.length) (lm, pn, wp, sr, sc, se, fl, sp, en, pt, sg, el, rs, sn, it, le, pe, op, kd, nu, co', cl', ap, rd, si, bg, ct, ls, hd, hk, hc, vl) → wX_addOperators_3 post (nI s) (nI r) n (nI ops.length) lm pn wp sr sc se fl sp en pt sg el rs sn it le pe op kd nu co cl ap rd si bg ct ls hd hk hc vl := by
  intro ops
  induction ops with
  | nil =>
    intro code co cl h1 h2 h3 h4
    refine ⟨co, cl, by simpa [ex_pop] using h2, by simpa [ex_pop] using h3, fun _ _ => rfl, fun _ _ => rfl, fun post n hn h => ?_⟩
    obtain ⟨m, rfl⟩ : ∃ m, n = m + 1 := ⟨n - 1, by simp at hn; omega⟩
    exact br_t (show nI 0 ≤ 0 from by decide) h
  | cons o l IH =>
    intro code co cl h1 h2 h3 h4
    rw [List.length_cons] at h4
    have hin : vp_in (nI (l.length + 1) - 1) 16 := by rw [nI_pred]; exact vp_in_nI (by omega) (by omega)
    have ho : op (nI (l.length + 1) - 1).toNatClampNeg = o := by rw [nI_pred, nI_clamp (by omega)]; exact h1.1
    have hne : ¬ nI (l.length + 1) ≤ 0 := nI_nle (by omega) (by omega)
    have hrk := ex_rk_le o
    by_cases hk : r ≤ ex_rk o
    · obtain ⟨co', cl', g1, g2, g3, g4, g5⟩ := IH (code ++ [o]) (upd co (16 * s + code.length) o) (upd cl s (nI (code.length + 1))) h1.2
        (ex_lay_app h2 (fun j hj => pk_un (by omega)) pk_us) (by rw [pk_us, List.length_append]; rfl) (by rw [List.length_append]; simp; omega)
      have e : ex_pop r (o :: l) = (o :: (ex_pop r l).1, (ex_pop r l).2) := by simp only [ex_pop]; rw [if_pos hk]
      refine ⟨co', cl', ?_, ?_, ?_, ?_, fun post n hn h => ?_⟩
      · rw [e]; simpa using g1
      · rw [e, g2]; simp
      · intro i hi; rw [g3 i hi, pk_un (by omega)]
      · intro t ht; rw [g4 t ht, pk_un ht]
      · obtain ⟨m, rfl⟩ : ∃ m, n = m + 1 := ⟨n - 1, by simp at hn; omega⟩
        rw [e] at h
        refine br_f hne ⟨hin, xr_rank ho (br_f ?_ (nm_r (pk_m1 _) ⟨vp_in_nI (by omega) (by omega), ?_⟩))⟩
        · rw [nI_ltI (by omega) (by omega)]; omega
        · have e2 : op (nI l.length).toNatClampNeg = o := by rw [nI_clamp (by omega)]; exact h1.1
          rw [e2]
          exact xr_addCode s hs code.length (by omega) h3 o (g5 post m (by simp at hn; omega) h)
    · have e : ex_pop r (o :: l) = ([], o :: l) := by simp only [ex_pop]; rw [if_neg hk]
      refine ⟨co, cl, by rw [e]; simpa using h2, by rw [e]; simpa using h3, fun _ _ => rfl, fun _ _ => rfl, fun post n hn h => ?_⟩
      obtain ⟨m, rfl⟩ : ∃ m, n = m + 1 := ⟨n - 1, by simp at hn; omega⟩
      rw [e] at h
      refine br_f hne ⟨hin, xr_rank ho (br_t ?_ h)⟩
      rw [nI_ltI (by omega) (by omega)]; omega
theorem xr_tr148 (s N m i : Nat) (hm : m < 16) (t : Int32) {post : SX → Prop} {J : Int32 → Int32 → Int32 → Int32 → Int32 → Int32 → Int32 → Int32 → Int32 → Int32 → Int32 → Int64 → Int32 → Int32 → Int32 → Int32 → Int32 → (Nat → Int32) → (Nat → Int32) → (Nat → Int32) → (Nat → Int32) → (Nat → Int32) → (Nat → Int32) → (Nat → Int32) → (Nat → Int32) → (Nat → Int32) → (Nat → Int32) → (Nat → Int32) → (Nat → Int32) → (Nat → Int32) → (Nat → Int32) → (Nat → Int32) → (Nat → Int32) → (Nat → Int32) → (Nat → Int32) → Prop}
    (h : J 1 (nI (m + 1)) (nI (i + 1)) lm pn wp sr sc se fl sp en pt sg el rs sn it le pe (upd op m t) kd nu co cl ap rd si bg ct ls hd hk hc vl) : wX_translate_148 post J (nI s) (nI N) (nI m) (nI i) t lm pn wp sr sc se fl sp en pt sg el rs sn it le pe op kd nu co cl ap rd si bg ct ls hd hk hc vl :=
  ⟨vp_in_nI hm (by omega), nm_r (by rw [nI_clamp (by omega)]) (nm_r (nI_1 m) (nm_r (nI_1 i) h))⟩
theorem xr_trans (s : Nat) (hs : s < 8) (tk : Nat → Int32) (N : Nat) (hN : N ≤ 16) (hpe : ∀ i, i < N → pe i = tk i) (hl : ∀ i, i < N → ex_leg (tk i) (ex_cs tk i).1 (ex_cs tk i).2.1) :
    ∀ (k i : Nat), i + k = N → ∀ (op co cl : Nat → Int32), ex_stk op (ex_cs tk i).2.1 → ex_lay co (16 * s) (ex_cs tk i).2.2 → cl s = nI (ex_cs tk i).2.2.length →
    ∃ op' co' cl' : Nat → Int32, ex_lay co' (16 * s) (ex_code tk N) ∧ cl' s = nI (ex_code tk N).length ∧ (∀ i, (i < 16 * s ∨ 16 * s + 16 ≤ i) → co' i = co i) ∧ (∀ t, t ≠ s → cl' t = cl t) ∧
      ∀ (post : SX → Prop) (n : Nat), k < n → post (lm, pn, wp, sr, sc, se, fl, sp, en, pt, sg, el, rs, sn, it, le, pe, op', kd, nu, co', cl', ap, rd, si, bg, ct, ls, hd, hk, hc, vl) → wX_translate_15 post (nI s) (nI N) n (if (ex_cs tk i).1 = true then 1 else 0) (nI (ex_cs tk i).2.1.length) (nI i) lm pn wp sr sc se fl sp en pt sg el rs sn it le pe op kd nu co cl ap rd si bg ct ls hd hk hc vl := by
  intro k
  induction k with
  | zero =>
    intro i hi op co cl h1 h2 h3
    have : i = N := by omega
    subst this
    have hv := ex_inv_at hl i (Nat.le_refl _)
    obtain ⟨co', cl', g1, g2, g3, g4, g5⟩ := xr_addOps (lm := lm) (pn := pn) (wp := wp) (sr := sr) (sc := sc) (se := se) (fl := fl) (sp := sp) (pt := pt) (sg := sg) (el := el) (rs := rs) (sn := sn) (en := en) (it := it) (le := le) (pe := pe) (kd := kd) (nu := nu) (ap := ap) (rd := rd) (si := si) (bg := bg) (ct := ct) (ls := ls) (hd := hd) (hk := hk) (hc := hc) (vl := vl) s hs 1 (by omega) op _ _ co cl h1 h2 h3 (Nat.le_trans hv.2.2.2 hN)
    refine ⟨op, co', cl', g1, g2, g3, g4, fun post n hn h => ?_⟩
    obtain ⟨m, rfl⟩ : ∃ m, n = m + 1 := ⟨n - 1, by omega⟩
    exact br_t (Int32.le_refl _) ⟨_, g5 _ _ (Nat.lt_succ_self _) h⟩
  | succ k IH =>
    intro i hi op co cl h1 h2 h3
    have hiN : i < N := by omega
    have hv := ex_inv_at hl i (by omega)
    have hlg := hl i hiN
    have IH := IH (i + 1) (by omega)
    have hcs : ex_cs tk (i + 1) = ex_step (tk i) (ex_cs tk i).1 (ex_cs tk i).2.1 (ex_cs tk i).2.2 := rfl
    rw [hcs] at IH
    have hNi : ¬ nI N ≤ nI i := nI_ge hiN (by omega)
    have hin : vp_in (nI i) 16 := vp_in_nI (by omega) (by omega)
    have ht : pe (nI i).toNatClampNeg = tk i := by rw [nI_clamp (by omega)]; exact hpe i hiN
    generalize ex_cs tk i = c at *
    obtain ⟨d, ops, code⟩ := c
    dsimp only at *
    generalize tk i = t at *
    have hlen := hv.2.2.2
    by_cases ho : ex_opd t = true
    · -- an operand
      have e : ex_step t d ops code = (false, ops, code ++ [t]) := by unfold ex_step; rw [if_pos ho]
      rw [e] at IH
      obtain ⟨op', co', cl', g1, g2, g3, g4, g5⟩ := IH op (upd co (16 * s + code.length) t) (upd cl s (nI (code.length + 1))) h1
        (ex_lay_app h2 (fun j hj => pk_un (by omega)) pk_us) (by rw [pk_us, List.length_append]; rfl)
      refine ⟨op', co', cl', g1, g2, fun j hj => by rw [g3 j hj, pk_un (by omega)], fun u hu => by rw [g4 u hu, pk_un hu], fun post n hn h => ?_⟩
      obtain ⟨m, rfl⟩ : ∃ m, n = m + 1 := ⟨n - 1, by omega⟩
      refine br_f hNi ⟨hin, nm_r ht (xr_isOperand ?_)⟩
      rw [if_pos ho]
      exact br_f (by decide) (xr_addCode s hs code.length (by omega) h3 t (nm_r (nI_1 i) (g5 post m (by omega) h)))
    · have ho' : ex_opd t = false := by simpa using ho
      cases d with
      | true =>
        rcases hlg.1 rfl with rfl | rfl | hx
        · have e : ex_step 12 true ops code = (true, 12 :: ops, code) := by unfold ex_step; rw [if_neg ho, if_neg (by decide), if_pos rfl]
          rw [e] at IH
          obtain ⟨op', co', cl', g1, g2, g3, g4, g5⟩ := IH (upd op ops.length 12) co cl (ex_stk_push _ _ _ h1) h2 h3
          refine ⟨op', co', cl', g1, g2, g3, g4, fun post n hn h => ?_⟩
          obtain ⟨m, rfl⟩ : ∃ m, n = m + 1 := ⟨n - 1, by omega⟩
          refine br_f hNi ⟨hin, nm_r ht (xr_isOperand ?_)⟩
          rw [if_neg ho]
          exact br_t rfl (br_f (by decide) (br_f (by decide) (br_f (by decide) (br_t rfl (br_t rfl (xr_tr148 s N ops.length i (by omega) 12 (g5 post m (by omega) h)))))))
        · have e : ex_step 5 true ops code = (true, 14 :: ops, code) := by unfold ex_step; rw [if_neg ho, if_neg (by decide), if_neg (by decide), if_pos ⟨rfl, rfl⟩]
          rw [e] at IH
          obtain ⟨op', co', cl', g1, g2, g3, g4, g5⟩ := IH (upd op ops.length 14) co cl (ex_stk_push _ _ _ h1) h2 h3
          refine ⟨op', co', cl', g1, g2, g3, g4, fun post n hn h => ?_⟩
          obtain ⟨m, rfl⟩ : ∃ m, n = m + 1 := ⟨n - 1, by omega⟩
          refine br_f hNi ⟨hin, nm_r ht (xr_isOperand ?_)⟩
          rw [if_neg ho]
          exact br_t rfl (br_f (by decide) (br_t rfl (br_f (by simp) (br_t rfl (br_t rfl (xr_tr148 s N ops.length i (by omega) 14 (g5 post m (by omega) h)))))))
        · exact absurd hx ho
      | false =>
        rcases hlg.2 rfl with ⟨rfl, hm⟩ | hb
        · have e : ex_step 13 false ops code = (false, (ex_pop 1 ops).2.tail, code ++ (ex_pop 1 ops).1) := by
            unfold ex_step; rw [if_neg ho, if_pos rfl]
          rw [e] at IH
          obtain ⟨co1, cl1, f1, f2, f3, f4, f5⟩ := xr_addOps (lm := lm) (pn := pn) (wp := wp) (sr := sr) (sc := sc) (se := se) (fl := fl) (sp := sp) (pt := pt) (sg := sg) (el := el) (rs := rs) (sn := sn) (en := en) (it := it) (le := le) (pe := pe) (kd := kd) (nu := nu) (ap := ap) (rd := rd) (si := si) (bg := bg) (ct := ct) (ls := ls) (hd := hd) (hk := hk) (hc := hc) (vl := vl) s hs 1 (by omega) op ops code co cl h1 h2 h3 (by omega)
          have hst : ex_stk op (ex_pop 1 ops).2 := ex_stk_app op (ex_pop 1 ops).1 _ (by rw [ex_pop_eq]; exact h1)
          rcases ex_pop_head ops hv.1 with ⟨_, b⟩ | ⟨q, hq⟩
          · exact absurd hm b
          · rw [hq] at IH f5 hst
            obtain ⟨op', co', cl', g1, g2, g3, g4, g5⟩ := IH op co1 cl1 hst.2 f1 f2
            refine ⟨op', co', cl', g1, g2, fun j hj => by rw [g3 j hj, f3 j hj], fun u hu => by rw [g4 u hu, f4 u hu], fun post n hn h => ?_⟩
            obtain ⟨m, rfl⟩ : ∃ m, n = m + 1 := ⟨n - 1, by omega⟩
            refine br_f hNi ⟨hin, nm_r ht (xr_isOperand ?_)⟩
            rw [if_neg ho]
            refine br_t rfl (br_t rfl ⟨_, f5 _ _ (Nat.lt_succ_self _) (br_f (nI_nle (by simp) ?_) (nm_r (nI_pred _) (nm_r (nI_1 i) (g5 post m (by omega) h))))⟩)
            have := ex_pop_len 1 ops
            rw [hq] at this
            omega
        · obtain ⟨_, b2, b3, b4, b5⟩ := ex_bin_no hb
          have e : ex_step t false ops code = (true, t :: (ex_pop (ex_rk t) ops).2, code ++ (ex_pop (ex_rk t) ops).1) := by
            unfold ex_step; rw [if_neg ho, if_neg b4, if_neg b3, if_neg (by simp)]
          rw [e] at IH
          obtain ⟨co1, cl1, f1, f2, f3, f4, f5⟩ := xr_addOps (lm := lm) (pn := pn) (wp := wp) (sr := sr) (sc := sc) (se := se) (fl := fl) (sp := sp) (pt := pt) (sg := sg) (el := el) (rs := rs) (sn := sn) (en := en) (it := it) (le := le) (pe := pe) (kd := kd) (nu := nu) (ap := ap) (rd := rd) (si := si) (bg := bg) (ct := ct) (ls := ls) (hd := hd) (hk := hk) (hc := hc) (vl := vl) s hs (ex_rk t) (ex_rk_le t) op ops code co cl h1 h2 h3 (by omega)
          have hst : ex_stk op (ex_pop (ex_rk t) ops).2 := ex_stk_app op (ex_pop (ex_rk t) ops).1 _ (by rw [ex_pop_eq]; exact h1)
          have hpl := ex_pop_len (ex_rk t) ops
          obtain ⟨op', co', cl', g1, g2, g3, g4, g5⟩ := IH (upd op (ex_pop (ex_rk t) ops).2.length t) co1 cl1 (ex_stk_push _ _ _ hst) f1 f2
          refine ⟨op', co', cl', g1, g2, fun j hj => by rw [g3 j hj, f3 j hj], fun u hu => by rw [g4 u hu, f4 u hu], fun post n hn h => ?_⟩
          obtain ⟨m, rfl⟩ : ∃ m, n = m + 1 := ⟨n - 1, by omega⟩
          have hfin : wX_translate_100 post (wX_translate_15 post (nI s) (nI N) m) (nI s) (nI N) (nI ops.length) (nI i) t lm pn wp sr sc se fl sp en pt sg el rs sn it le pe op kd nu co cl ap rd si bg ct ls hd hk hc vl :=
            br_f b2 (br_f b3 (br_f (by decide) (xr_rank rfl ⟨_, f5 _ _ (Nat.lt_succ_self _) (xr_tr148 s N _ i (by omega) t (g5 post m (by omega) h))⟩)))
          refine br_f hNi ⟨hin, nm_r ht (xr_isOperand ?_)⟩
          rw [if_neg ho]
          exact br_t rfl (br_f b4 (br_c (fun _ => br_t rfl hfin) (fun _ => hfin)))
end
