/-! findWrongPlace against misfit -/
theorem mk_one : ∀ j, j < 32 → bt 1 j = decide (j = 0) := by decide +kernel
theorem mk_sh {d i : Nat} (hd : d < 32) (hi : i < 32) : bt ((1 : Int32) <<< (nI d &&& 31)) i = decide (i = d) := by
  rw [b_shl d hd 1 hi]
  by_cases h : d ≤ i
  · rw [mk_one _ (by omega)]
    by_cases e : i = d
    · subst e; simp
    · have : ¬ (i - d = 0) := by omega
      simp [e, this]
  · have : ¬ i = d := by omega
    simp [h, this]
theorem mk_bit {c : Int32} {d : Nat} (hd : d < 32) : (c &&& ((1 : Int32) <<< (nI d &&& 31)) = 0) ↔ bt c d = false := by
  constructor
  · intro h
    have := congrArg (fun z => bt z d) h
    simp only [b_and, mk_sh hd hd, b_0] at this
    simpa using this
  · intro h
    refine b_ext (fun i hi => ?_)
    rw [b_and, mk_sh hd hi, b_0]
    by_cases e : i = d
    · subst e; rw [h]; rfl
    · simp [e]
theorem mk_clr {c : Int32} {d i : Nat} (hd : d < 32) (hi : i < 32) : bt (c &&& (((1 : Int32) <<< (nI d &&& 31)) ^^^ (-1))) i = (bt c i && !decide (i = d)) := by
  rw [b_and, b_xor, mk_sh hd hi, b_m1 i hi]; simp
theorem mk_set {c : Int32} {d i : Nat} (hd : d < 32) (hi : i < 32) : bt (c ||| ((1 : Int32) <<< (nI d &&& 31))) i = (bt c i || decide (i = d)) := by
  rw [b_or, mk_sh hd hi]
def mk_R (c : Int32) (a : Nat → Int32) (D : Nat) : Prop := ∀ d, d ≤ D → (bt c d = false ↔ ¬ a d = 1)
def ex_ct (l : List Int32) : Nat := l.count 12
theorem ex_ct_pop (r : Nat) (hr : 1 ≤ r) : ∀ l : List Int32, ex_ct (ex_pop r l).2 = ex_ct l
  | [] => rfl
  | o :: l => by
    simp only [ex_pop]
    split
    · rename_i h
      have hn : ¬ (o = 12) := by rintro rfl; exact absurd (Nat.le_trans hr h) (by decide)
      rw [ex_ct_pop r hr l]
      unfold ex_ct
      rw [List.count_cons_of_ne]
      exact hn
    · rfl
theorem ex_tokC {t : Int32} (h1 : 1 ≤ t) (h2 : t ≤ 13) : t = 1 ∨ t = 2 ∨ t = 3 ∨ t = 4 ∨ t = 5 ∨ t = 6 ∨ t = 7 ∨ t = 8 ∨ t = 9 ∨ t = 10 ∨ t = 11 ∨ t = 12 ∨ t = 13 := by
  obtain ⟨j, hj, rfl⟩ := nI_of2 (M := 13) (n := 13) (by decide) (x := t) (by
    intro h; exact Int32.lt_irrefl (Int32.lt_of_lt_of_le h (Int32.le_trans (by decide : (0 : Int32) ≤ 1) h1))) h2
  have h1' : 1 ≤ j := by
    apply Classical.byContradiction
    intro z
    have : j = 0 := by omega
    subst this
    exact absurd h1 (by decide)
  have : j = 1 ∨ j = 2 ∨ j = 3 ∨ j = 4 ∨ j = 5 ∨ j = 6 ∨ j = 7 ∨ j = 8 ∨ j = 9 ∨ j = 10 ∨ j = 11 ∨ j = 12 ∨ j = 13 := by omega
  rcases this with rfl | rfl | rfl | rfl | rfl | rfl | rfl | rfl | rfl | rfl | rfl | rfl | rfl <;> decide
def ex_tok (t : Int32) : Prop := (1 ≤ t ∧ t ≤ 13) ∨ (1000 ≤ t ∧ t ≤ 100999)
theorem ex_tokK {t : Int32} (h : ex_tok t) : t = 1 ∨ t = 2 ∨ t = 3 ∨ 1000 ≤ t ∨ t = 5 ∨ t = 12 ∨ t = 13 ∨ (t = 9 ∨ t = 10) ∨ (t = 4 ∨ t = 6 ∨ t = 7 ∨ t = 8 ∨ t = 11) := by
  rcases h with ⟨h1, h2⟩ | ⟨h1, _⟩
  · rcases ex_tokC h1 h2 with h | h | h | h | h | h | h | h | h | h | h | h | h <;> simp [h]
  · simp [h1]
theorem ex_big {t : Int32} (h : 1000 ≤ t) : ex_opd t = true ∧ ¬ t = 12 ∧ ¬ t = 13 ∧ ¬ t = 2 ∧ ¬ t = 1 ∧ ¬ t = 3 ∧ ¬ t = 5 ∧ ¬ t < 4 ∧ 11 < t ∧ ¬ t = 9 ∧ ¬ t = 10 ∧ 14 < t := by
  refine ⟨by simp [ex_opd, h], ?_, ?_, ?_, ?_, ?_, ?_, ?_, ?_, ?_, ?_, ?_⟩
  all_goals first
    | (rintro rfl; exact absurd h (by decide))
    | exact Int32.lt_of_lt_of_le (by decide) h
    | exact fun z => Int32.lt_irrefl (Int32.lt_of_lt_of_le z (Int32.le_trans (by decide : (4 : Int32) ≤ 1000) h))
section
variable {lm pn wp sr sc se fl sp pt sg el rs sn wy ya vv vt ot ra br : Int32} {en oc : Int64} {it le pe op kd nu co cl ap rd si bg ct ls hd hk hc vl tk cn lf la pc yb yh yk ho vs os : Nat → Int32}
variable {py : Int32}
theorem fw_lock (N : Nat) (hN : N ≤ 16) (tq : Nat → Int32) (hval : ∀ i, i < N → ex_tok (tq i)) (hpe : ∀ i, i < N → pe i = tq i) (htk : ∀ i, i < N → tk i = tq i) (hcn : cn 0 = nI N) (jn : Int32) :
    ∀ (r i : Nat), i + r = N → (∀ j, j < i → ex_leg (tq j) (ex_cs tq j).1 (ex_cs tq j).2.1) → ∀ (c : Int32) (os : Nat → Int32), mk_R c os (ex_ct (ex_cs tq i).2.1) →
    ∃ (res : Int32) (os' : Nat → Int32), ((res = -1 ∧ ex_WF tq N) ∨ ¬ res < 0) ∧
      (∀ (post : Int32 → Prop) (n : Nat), r < n → post res → wX_findWrongPlace_47 post (nI N) jn lm pn wp sr sc se fl sp en pt sg el rs sn it le pe op kd nu co cl ap rd si bg ct ls hd hk hc vl n (ex_bi (ex_cs tq i).1) (nI (ex_ct (ex_cs tq i).2.1)) c (nI i)) ∧
      (∀ (post : Int32 → SY → Prop) (n : Nat), r < n → post res (lm, sr, sc, wy, py, ya, se, fl, vv, vt, ot, ra, br, oc, it, le, tk, cn, kd, nu, lf, la, pc, yb, yh, yk, ho, ap, rd, si, vs, os') → wY_misfit_7 post jn lm sr sc wy py ya se fl vv vt ot ra br oc n (ex_bi (ex_cs tq i).1) (nI (ex_ct (ex_cs tq i).2.1)) (nI i) it le tk cn kd nu lf la pc yb yh yk ho ap rd si vs os) := by
  intro r
  induction r with
  | zero =>
    intro i hi hlg c os hR
    have : i = N := by omega
    subst this
    have hv := ex_inv_at hlg i (Nat.le_refl _)
    have hcl : (ex_ct (ex_cs tq i).2.1) ≤ i := Nat.le_trans List.count_le_length (by have := hv.2.2.2; omega)
    have hXi : nI i ≤ nI i := Int32.le_refl _
    have hYi : cn 0 ≤ nI i := by rw [hcn]; exact Int32.le_refl _
    by_cases hd : (ex_cs tq i).1 = false
    · rw [hd]
      by_cases h0 : ex_ct (ex_cs tq i).2.1 = 0
      · rw [h0]
        refine ⟨-1, os, Or.inl ⟨rfl, hlg, hd, ?_⟩, fun post n hn h => ?_, fun post n hn h => ?_⟩
        · exact List.count_eq_zero.mp h0
        · obtain ⟨m, rfl⟩ : ∃ m, n = m + 1 := ⟨n - 1, by omega⟩
          exact br_t hXi (br_t rfl (br_t (show nI 0 ≤ 0 from by decide) h))
        · obtain ⟨m, rfl⟩ : ∃ m, n = m + 1 := ⟨n - 1, by omega⟩
          exact br_t hYi (br_t rfl (br_t (show nI 0 ≤ 0 from by decide) h))
      · have hne : ¬ nI (ex_ct (ex_cs tq i).2.1) ≤ 0 := nI_nle (by omega) (by omega)
        refine ⟨nI i, os, Or.inr (nI_pos (by omega)), fun post n hn h => ?_, fun post n hn h => ?_⟩
        · obtain ⟨m, rfl⟩ : ∃ m, n = m + 1 := ⟨n - 1, by omega⟩
          exact br_t hXi (br_t rfl (br_f hne h))
        · obtain ⟨m, rfl⟩ : ∃ m, n = m + 1 := ⟨n - 1, by omega⟩
          exact br_t hYi (br_t rfl (br_f hne (by rw [hcn]; exact h)))
    · have hd : (ex_cs tq i).1 = true := by simpa using hd
      rw [hd]
      refine ⟨nI i, os, Or.inr (nI_pos (by omega)), fun post n hn h => ?_, fun post n hn h => ?_⟩
      · obtain ⟨m, rfl⟩ : ∃ m, n = m + 1 := ⟨n - 1, by omega⟩
        exact br_t hXi (br_f (by decide) h)
      · obtain ⟨m, rfl⟩ : ∃ m, n = m + 1 := ⟨n - 1, by omega⟩
        exact br_t hYi (br_f (by decide) (by rw [hcn]; exact h))
  | succ r IH =>
    intro i hi hlg c os hR
    have hiN : i < N := by omega
    have hv := ex_inv_at hlg i (Nat.le_refl _)
    have hcl : (ex_ct (ex_cs tq i).2.1) ≤ i := Nat.le_trans List.count_le_length (by have := hv.2.2.2; omega)
    have hXi : ¬ nI N ≤ nI i := nI_ge hiN (by omega)
    have hYi : ¬ cn 0 ≤ nI i := by rw [hcn]; exact hXi
    have hXin : vp_in (nI i) 16 := vp_in_nI (by omega) (by omega)
    have hYin : vp_in (nI i) 144 := vp_in_nI (by omega) (by omega)
    have hXt : pe (nI i).toNatClampNeg = tq i := by rw [nI_clamp (by omega)]; exact hpe i hiN
    have hYt : tk (nI i).toNatClampNeg = tq i := by rw [nI_clamp (by omega)]; exact htk i hiN
    have hv1 := hval i hiN
    have IH := fun (h : ex_leg (tq i) (ex_cs tq i).1 (ex_cs tq i).2.1) => IH (i + 1) (by omega) (fun j hj => by
      rcases Nat.lt_succ_iff_lt_or_eq.mp hj with h1 | h1
      · exact hlg j h1
      · rw [h1]; exact h)
    have hcs : ex_cs tq (i + 1) = ex_step (tq i) (ex_cs tq i).1 (ex_cs tq i).2.1 (ex_cs tq i).2.2 := rfl
    rw [hcs] at IH
    generalize ex_cs tq i = q at *
    obtain ⟨d, ops, code⟩ := q
    dsimp only at *
    generalize tq i = t at *
    have hD : ex_ct ops < 17 := by omega
    -- the answer is i
    have stop : (∀ (post : Int32 → Prop) (m : Nat), post (nI i) → wX_findWrongPlace_47 post (nI N) jn lm pn wp sr sc se fl sp en pt sg el rs sn it le pe op kd nu co cl ap rd si bg ct ls hd hk hc vl (m + 1) (ex_bi d) (nI (ex_ct ops)) c (nI i)) →
        (∀ (post : Int32 → SY → Prop) (m : Nat), post (nI i) (lm, sr, sc, wy, py, ya, se, fl, vv, vt, ot, ra, br, oc, it, le, tk, cn, kd, nu, lf, la, pc, yb, yh, yk, ho, ap, rd, si, vs, os) → wY_misfit_7 post jn lm sr sc wy py ya se fl vv vt ot ra br oc (m + 1) (ex_bi d) (nI (ex_ct ops)) (nI i) it le tk cn kd nu lf la pc yb yh yk ho ap rd si vs os) →
        ∃ (res : Int32) (os' : Nat → Int32), ((res = -1 ∧ ex_WF tq N) ∨ ¬ res < 0) ∧
          (∀ (post : Int32 → Prop) (n : Nat), r + 1 < n → post res → wX_findWrongPlace_47 post (nI N) jn lm pn wp sr sc se fl sp en pt sg el rs sn it le pe op kd nu co cl ap rd si bg ct ls hd hk hc vl n (ex_bi d) (nI (ex_ct ops)) c (nI i)) ∧
          (∀ (post : Int32 → SY → Prop) (n : Nat), r + 1 < n → post res (lm, sr, sc, wy, py, ya, se, fl, vv, vt, ot, ra, br, oc, it, le, tk, cn, kd, nu, lf, la, pc, yb, yh, yk, ho, ap, rd, si, vs, os') → wY_misfit_7 post jn lm sr sc wy py ya se fl vv vt ot ra br oc n (ex_bi d) (nI (ex_ct ops)) (nI i) it le tk cn kd nu lf la pc yb yh yk ho ap rd si vs os) := by
      intro hx hy
      refine ⟨nI i, os, Or.inr (nI_pos (by omega)), fun post n hn h => ?_, fun post n hn h => ?_⟩
      · obtain ⟨m, rfl⟩ : ∃ m, n = m + 1 := ⟨n - 1, by omega⟩
        exact hx post m h
      · obtain ⟨m, rfl⟩ : ∃ m, n = m + 1 := ⟨n - 1, by omega⟩
        exact hy post m h
    -- it goes on
    have goon : ∀ (d' : Bool) (D' : Nat) (c' : Int32) (a' : Nat → Int32), (∃ (res : Int32) (os' : Nat → Int32), ((res = -1 ∧ ex_WF tq N) ∨ ¬ res < 0) ∧
          (∀ (post : Int32 → Prop) (n : Nat), r < n → post res → wX_findWrongPlace_47 post (nI N) jn lm pn wp sr sc se fl sp en pt sg el rs sn it le pe op kd nu co cl ap rd si bg ct ls hd hk hc vl n (ex_bi d') (nI D') c' (nI (i + 1))) ∧
          (∀ (post : Int32 → SY → Prop) (n : Nat), r < n → post res (lm, sr, sc, wy, py, ya, se, fl, vv, vt, ot, ra, br, oc, it, le, tk, cn, kd, nu, lf, la, pc, yb, yh, yk, ho, ap, rd, si, vs, os') → wY_misfit_7 post jn lm sr sc wy py ya se fl vv vt ot ra br oc n (ex_bi d') (nI D') (nI (i + 1)) it le tk cn kd nu lf la pc yb yh yk ho ap rd si vs a')) →
        (∀ (post : Int32 → Prop) (m : Nat), wX_findWrongPlace_47 post (nI N) jn lm pn wp sr sc se fl sp en pt sg el rs sn it le pe op kd nu co cl ap rd si bg ct ls hd hk hc vl m (ex_bi d') (nI D') c' (nI (i + 1)) → wX_findWrongPlace_47 post (nI N) jn lm pn wp sr sc se fl sp en pt sg el rs sn it le pe op kd nu co cl ap rd si bg ct ls hd hk hc vl (m + 1) (ex_bi d) (nI (ex_ct ops)) c (nI i)) →
        (∀ (post : Int32 → SY → Prop) (m : Nat), wY_misfit_7 post jn lm sr sc wy py ya se fl vv vt ot ra br oc m (ex_bi d') (nI D') (nI (i + 1)) it le tk cn kd nu lf la pc yb yh yk ho ap rd si vs a' → wY_misfit_7 post jn lm sr sc wy py ya se fl vv vt ot ra br oc (m + 1) (ex_bi d) (nI (ex_ct ops)) (nI i) it le tk cn kd nu lf la pc yb yh yk ho ap rd si vs os) →
        ∃ (res : Int32) (os' : Nat → Int32), ((res = -1 ∧ ex_WF tq N) ∨ ¬ res < 0) ∧
          (∀ (post : Int32 → Prop) (n : Nat), r + 1 < n → post res → wX_findWrongPlace_47 post (nI N) jn lm pn wp sr sc se fl sp en pt sg el rs sn it le pe op kd nu co cl ap rd si bg ct ls hd hk hc vl n (ex_bi d) (nI (ex_ct ops)) c (nI i)) ∧
          (∀ (post : Int32 → SY → Prop) (n : Nat), r + 1 < n → post res (lm, sr, sc, wy, py, ya, se, fl, vv, vt, ot, ra, br, oc, it, le, tk, cn, kd, nu, lf, la, pc, yb, yh, yk, ho, ap, rd, si, vs, os') → wY_misfit_7 post jn lm sr sc wy py ya se fl vv vt ot ra br oc n (ex_bi d) (nI (ex_ct ops)) (nI i) it le tk cn kd nu lf la pc yb yh yk ho ap rd si vs os) := by
      rintro d' D' c' a' ⟨res, os', g1, g2, g3⟩ hx hy
      refine ⟨res, os', g1, fun post n hn h => ?_, fun post n hn h => ?_⟩
      · obtain ⟨m, rfl⟩ : ∃ m, n = m + 1 := ⟨n - 1, by omega⟩
        exact hx post m (g2 post m (by omega) h)
      · obtain ⟨m, rfl⟩ : ∃ m, n = m + 1 := ⟨n - 1, by omega⟩
        exact hy post m (g3 post m (by omega) h)
    cases d with
    | true =>
      have hopd : ex_opd t = true → ∃ (res : Int32) (os' : Nat → Int32), ((res = -1 ∧ ex_WF tq N) ∨ ¬ res < 0) ∧
          (∀ (post : Int32 → Prop) (n : Nat), r < n → post res → wX_findWrongPlace_47 post (nI N) jn lm pn wp sr sc se fl sp en pt sg el rs sn it le pe op kd nu co cl ap rd si bg ct ls hd hk hc vl n (ex_bi false) (nI (ex_ct ops)) c (nI (i + 1))) ∧
          (∀ (post : Int32 → SY → Prop) (n : Nat), r < n → post res (lm, sr, sc, wy, py, ya, se, fl, vv, vt, ot, ra, br, oc, it, le, tk, cn, kd, nu, lf, la, pc, yb, yh, yk, ho, ap, rd, si, vs, os') → wY_misfit_7 post jn lm sr sc wy py ya se fl vv vt ot ra br oc n (ex_bi false) (nI (ex_ct ops)) (nI (i + 1)) it le tk cn kd nu lf la pc yb yh yk ho ap rd si vs os) := by
        intro ho
        have := IH ⟨fun _ => Or.inr (Or.inr ho), fun h => absurd h (by decide)⟩ c os
        have e : ex_step t true ops code = (false, ops, code ++ [t]) := by unfold ex_step; rw [if_pos ho]
        rw [e] at this
        exact this hR
      have yes : ∀ (post : Int32 → Prop) (m : Nat), ¬ t = 12 → ex_opd t = true → (t = 2 → ¬ jn = 0) → wX_findWrongPlace_47 post (nI N) jn lm pn wp sr sc se fl sp en pt sg el rs sn it le pe op kd nu co cl ap rd si bg ct ls hd hk hc vl m (ex_bi false) (nI (ex_ct ops)) c (nI (i + 1)) → wX_findWrongPlace_47 post (nI N) jn lm pn wp sr sc se fl sp en pt sg el rs sn it le pe op kd nu co cl ap rd si bg ct ls hd hk hc vl (m + 1) (ex_bi true) (nI (ex_ct ops)) c (nI i) := by
        intro post m h12 ho h2 h
        refine br_f hXi ⟨hXin, nm_r hXt (br_f (by decide) (br_f h12 (xr_isOperand ?_)))⟩
        rw [if_pos ho]
        exact br_f (by decide) (br_c (fun z => br_f (h2 z) (nm_r (nI_1 _) h)) (fun _ => nm_r (nI_1 _) h))
      have no : ∀ (post : Int32 → Prop) (m : Nat), ¬ t = 12 → ex_opd t = false → ¬ t = 5 → post (nI i) → wX_findWrongPlace_47 post (nI N) jn lm pn wp sr sc se fl sp en pt sg el rs sn it le pe op kd nu co cl ap rd si bg ct ls hd hk hc vl (m + 1) (ex_bi true) (nI (ex_ct ops)) c (nI i) := by
        intro post m h12 ho h5 h
        refine br_f hXi ⟨hXin, nm_r hXt (br_f (by decide) (br_f h12 (xr_isOperand ?_)))⟩
        rw [if_neg (by simp [ho])]
        exact br_t rfl (br_f h5 h)
      have yno : ∀ (post : Int32 → SY → Prop) (m : Nat), ¬ t = 12 → ¬ 1000 ≤ t → ¬ t = 1 → ¬ t = 3 → ¬ t = 2 → ¬ t = 5 → post (nI i) (lm, sr, sc, wy, py, ya, se, fl, vv, vt, ot, ra, br, oc, it, le, tk, cn, kd, nu, lf, la, pc, yb, yh, yk, ho, ap, rd, si, vs, os) → wY_misfit_7 post jn lm sr sc wy py ya se fl vv vt ot ra br oc (m + 1) (ex_bi true) (nI (ex_ct ops)) (nI i) it le tk cn kd nu lf la pc yb yh yk ho ap rd si vs os :=
        fun post m a1 a2 a3 a4 a5 a6 h => br_f hYi ⟨hYin, nm_r hYt (br_f (by decide) (br_f a1 (br_f a2 (br_f a3 (br_f a4 (br_f a5 (br_f a6 h)))))))⟩
      rcases ex_tokK hv1 with rfl | rfl | rfl | hbig | rfl | rfl | rfl | h910 | hoth
      · exact goon _ _ _ _ (hopd (by decide)) (fun post m h => yes post m (by decide) (by decide) (fun z => absurd z (by decide)) h)
          (fun post m h => br_f hYi ⟨hYin, nm_r hYt (br_f (by decide) (br_f (by decide) (br_f (by decide) (br_t rfl (nm_r (nI_1 _) h)))))⟩)
      · by_cases hj : jn = 0
        · refine stop (fun post m h => ?_) (fun post m h => br_f hYi ⟨hYin, nm_r hYt (br_f (by decide) (br_f (by decide) (br_f (by decide) (br_f (by decide) (br_f (by decide) (br_t rfl (br_t hj (br_f (by decide) h))))))))⟩)
          refine br_f hXi ⟨hXin, nm_r hXt (br_f (by decide) (br_f (by decide) (xr_isOperand ?_)))⟩
          exact br_f (by decide) (br_t rfl (br_t hj (br_f (by decide) h)))
        · exact goon _ _ _ _ (hopd (by decide)) (fun post m h => yes post m (by decide) (by decide) (fun _ => hj) h)
            (fun post m h => br_f hYi ⟨hYin, nm_r hYt (br_f (by decide) (br_f (by decide) (br_f (by decide) (br_f (by decide) (br_f (by decide) (br_t rfl (br_f hj (nm_r (nI_1 _) h))))))))⟩)
      · exact goon _ _ _ _ (hopd (by decide)) (fun post m h => yes post m (by decide) (by decide) (fun z => absurd z (by decide)) h)
          (fun post m h => br_f hYi ⟨hYin, nm_r hYt (br_f (by decide) (br_f (by decide) (br_f (by decide) (br_f (by decide) (br_t rfl (nm_r (nI_1 _) h))))))⟩)
      · obtain ⟨b1, b2, b3, b4, b5, b6, b7, _⟩ := ex_big hbig
        exact goon _ _ _ _ (hopd b1) (fun post m h => yes post m b2 b1 (fun z => absurd z b4) h)
          (fun post m h => br_f hYi ⟨hYin, nm_r hYt (br_f (by decide) (br_f b2 (br_t hbig (nm_r (nI_1 _) h))))⟩)
      · -- a minus before an operand
        have := IH ⟨fun _ => Or.inr (Or.inl rfl), fun h => absurd h (by decide)⟩ c os
        have e : ex_step 5 true ops code = (true, 14 :: ops, code) := by unfold ex_step; rw [if_neg (by decide), if_neg (by decide), if_neg (by decide), if_pos ⟨rfl, rfl⟩]
        rw [e] at this
        have ec : ex_ct (14 :: ops) = ex_ct ops := List.count_cons_of_ne (by decide)
        dsimp only at this
        rw [ec] at this
        refine goon _ _ _ _ (this hR) (fun post m h => ?_) (fun post m h => br_f hYi ⟨hYin, nm_r hYt (br_f (by decide) (br_f (by decide) (br_f (by decide) (br_f (by decide) (br_f (by decide) (br_f (by decide) (br_t rfl (nm_r (nI_1 _) h))))))))⟩)
        refine br_f hXi ⟨hXin, nm_r hXt (br_f (by decide) (br_f (by decide) (xr_isOperand ?_)))⟩
        exact br_t rfl (br_t rfl (nm_r (nI_1 _) h))
      · -- an opening bracket
        have := IH ⟨fun _ => Or.inl rfl, fun h => absurd h (by decide)⟩ (c &&& (((1 : Int32) <<< (nI (ex_ct ops + 1) &&& 31)) ^^^ (-1))) (upd os (ex_ct ops + 1) 0)
        have e : ex_step 12 true ops code = (true, 12 :: ops, code) := by unfold ex_step; rw [if_neg (by decide), if_neg (by decide), if_pos rfl]
        rw [e] at this
        have ec : ex_ct (12 :: ops) = ex_ct ops + 1 := List.count_cons_self
        dsimp only at this
        rw [ec] at this
        refine goon _ _ _ _ (this ?_) (fun post m h => br_f hXi ⟨hXin, nm_r hXt (br_f (by decide) (br_t rfl (nm_r (nI_1 _) (nm_r rfl (nm_r (nI_1 _) h)))))⟩)
          (fun post m h => br_f hYi ⟨hYin, nm_r hYt (br_f (by decide) (br_t rfl (nm_r (nI_1 _) ⟨vp_in_nI (by omega) (by omega), nm_r (by rw [nI_clamp (by omega)]) (nm_r (nI_1 _) h)⟩)))⟩)
        intro d hd
        rw [mk_clr (by omega) (by omega)]
        by_cases hdd : d = ex_ct ops + 1
        · subst hdd; rw [pk_us]; simp
        · rw [pk_un hdd, ← hR d (by omega)]; simp [hdd]
      · exact stop (fun post m h => no post m (by decide) (by decide) (by decide) h) (fun post m h => yno post m (by decide) (by decide) (by decide) (by decide) (by decide) (by decide) h)
      · rcases h910 with rfl | rfl
        all_goals exact stop (fun post m h => no post m (by decide) (by decide) (by decide) h) (fun post m h => yno post m (by decide) (by decide) (by decide) (by decide) (by decide) (by decide) h)
      · rcases hoth with rfl | rfl | rfl | rfl | rfl
        all_goals exact stop (fun post m h => no post m (by decide) (by decide) (by decide) h) (fun post m h => yno post m (by decide) (by decide) (by decide) (by decide) (by decide) (by decide) h)
    | false =>
      have x175 : ∀ (post : Int32 → Prop) (m : Nat), ex_rk t ≤ 1 → post (nI i) → wX_findWrongPlace_175 post (wX_findWrongPlace_47 post (nI N) jn lm pn wp sr sc se fl sp en pt sg el rs sn it le pe op kd nu co cl ap rd si bg ct ls hd hk hc vl m) (nI N) jn (nI (ex_ct ops)) c (nI i) t lm pn wp sr sc se fl sp en pt sg el rs sn it le pe op kd nu co cl ap rd si bg ct ls hd hk hc vl := by
        intro post m hr h
        refine xr_rank rfl (br_t ?_ h)
        rw [show (1 : Int32) = nI 1 from rfl, nI_leI (by omega) (by omega)]; exact hr
      have x142 : ∀ (post : Int32 → Prop) (m : Nat), ¬ t = 9 → ¬ t = 10 → ex_rk t ≤ 1 → post (nI i) → wX_findWrongPlace_142 post (wX_findWrongPlace_47 post (nI N) jn lm pn wp sr sc se fl sp en pt sg el rs sn it le pe op kd nu co cl ap rd si bg ct ls hd hk hc vl m) (nI N) jn (nI (ex_ct ops)) c (nI i) t lm pn wp sr sc se fl sp en pt sg el rs sn it le pe op kd nu co cl ap rd si bg ct ls hd hk hc vl :=
        fun post m h9 h10 hr h => br_f h9 (br_f h10 (br_t rfl (x175 post m hr h)))
      have xno : ∀ (post : Int32 → Prop) (m : Nat), ¬ t = 13 → ¬ t = 9 → ¬ t = 10 → ex_rk t ≤ 1 → post (nI i) → wX_findWrongPlace_47 post (nI N) jn lm pn wp sr sc se fl sp en pt sg el rs sn it le pe op kd nu co cl ap rd si bg ct ls hd hk hc vl (m + 1) (ex_bi false) (nI (ex_ct ops)) c (nI i) :=
        fun post m h13 h9 h10 hr h => br_f hXi ⟨hXin, nm_r hXt (br_t rfl (br_f h13 (x142 post m h9 h10 hr h)))⟩
      have yno1 : ∀ (post : Int32 → SY → Prop) (m : Nat), ¬ t = 13 → t < 4 → post (nI i) (lm, sr, sc, wy, py, ya, se, fl, vv, vt, ot, ra, br, oc, it, le, tk, cn, kd, nu, lf, la, pc, yb, yh, yk, ho, ap, rd, si, vs, os) → wY_misfit_7 post jn lm sr sc wy py ya se fl vv vt ot ra br oc (m + 1) (ex_bi false) (nI (ex_ct ops)) (nI i) it le tk cn kd nu lf la pc yb yh yk ho ap rd si vs os :=
        fun post m a1 a2 h => br_f hYi ⟨hYin, nm_r hYt (br_t rfl (br_f a1 (br_t a2 h)))⟩
      have yno2 : ∀ (post : Int32 → SY → Prop) (m : Nat), ¬ t = 13 → ¬ t < 4 → 11 < t → post (nI i) (lm, sr, sc, wy, py, ya, se, fl, vv, vt, ot, ra, br, oc, it, le, tk, cn, kd, nu, lf, la, pc, yb, yh, yk, ho, ap, rd, si, vs, os) → wY_misfit_7 post jn lm sr sc wy py ya se fl vv vt ot ra br oc (m + 1) (ex_bi false) (nI (ex_ct ops)) (nI i) it le tk cn kd nu lf la pc yb yh yk ho ap rd si vs os :=
        fun post m a1 a2 a3 h => br_f hYi ⟨hYin, nm_r hYt (br_t rfl (br_f a1 (br_f a2 (br_t a3 h))))⟩
      have hbinIH : ex_bin t = true → ∀ (c' : Int32) (a' : Nat → Int32), mk_R c' a' (ex_ct ops) → ∃ (res : Int32) (os' : Nat → Int32), ((res = -1 ∧ ex_WF tq N) ∨ ¬ res < 0) ∧
          (∀ (post : Int32 → Prop) (n : Nat), r < n → post res → wX_findWrongPlace_47 post (nI N) jn lm pn wp sr sc se fl sp en pt sg el rs sn it le pe op kd nu co cl ap rd si bg ct ls hd hk hc vl n (ex_bi true) (nI (ex_ct ops)) c' (nI (i + 1))) ∧
          (∀ (post : Int32 → SY → Prop) (n : Nat), r < n → post res (lm, sr, sc, wy, py, ya, se, fl, vv, vt, ot, ra, br, oc, it, le, tk, cn, kd, nu, lf, la, pc, yb, yh, yk, ho, ap, rd, si, vs, os') → wY_misfit_7 post jn lm sr sc wy py ya se fl vv vt ot ra br oc n (ex_bi true) (nI (ex_ct ops)) (nI (i + 1)) it le tk cn kd nu lf la pc yb yh yk ho ap rd si vs a') := by
        intro hb c' a' hR'
        obtain ⟨b1, b2, b3, b4, b5⟩ := ex_bin_no hb
        have := IH ⟨fun h => absurd h (by decide), fun _ => Or.inr hb⟩ c' a'
        have e : ex_step t false ops code = (true, t :: (ex_pop (ex_rk t) ops).2, code ++ (ex_pop (ex_rk t) ops).1) := by
          unfold ex_step; rw [if_neg (by simp [b1]), if_neg b4, if_neg b3, if_neg (by simp)]
        rw [e] at this
        have ec : ex_ct (t :: (ex_pop (ex_rk t) ops).2) = ex_ct ops := by
          rw [← ex_ct_pop (ex_rk t) b5 ops]; exact List.count_cons_of_ne b3
        dsimp only at this
        rw [ec] at this
        exact this hR'
      have xplain : ∀ (post : Int32 → Prop) (m : Nat), ¬ t = 13 → ¬ t = 9 → ¬ t = 10 → 1 < ex_rk t → wX_findWrongPlace_47 post (nI N) jn lm pn wp sr sc se fl sp en pt sg el rs sn it le pe op kd nu co cl ap rd si bg ct ls hd hk hc vl m (ex_bi true) (nI (ex_ct ops)) c (nI (i + 1)) → wX_findWrongPlace_47 post (nI N) jn lm pn wp sr sc se fl sp en pt sg el rs sn it le pe op kd nu co cl ap rd si bg ct ls hd hk hc vl (m + 1) (ex_bi false) (nI (ex_ct ops)) c (nI i) := by
        intro post m h13 h9 h10 hr h
        refine br_f hXi ⟨hXin, nm_r hXt (br_t rfl (br_f h13 (br_f h9 (br_f h10 (br_t rfl (xr_rank rfl (br_f ?_ (nm_r (nI_1 _) h))))))))⟩
        have := ex_rk_le t
        rw [show (1 : Int32) = nI 1 from rfl, nI_leI (by omega) (by omega)]; omega
      have yplain : ∀ (post : Int32 → SY → Prop) (m : Nat), ¬ t = 13 → ¬ t < 4 → ¬ 11 < t → ¬ t = 9 → ¬ t = 10 → wY_misfit_7 post jn lm sr sc wy py ya se fl vv vt ot ra br oc m (ex_bi true) (nI (ex_ct ops)) (nI (i + 1)) it le tk cn kd nu lf la pc yb yh yk ho ap rd si vs os → wY_misfit_7 post jn lm sr sc wy py ya se fl vv vt ot ra br oc (m + 1) (ex_bi false) (nI (ex_ct ops)) (nI i) it le tk cn kd nu lf la pc yb yh yk ho ap rd si vs os :=
        fun post m a1 a2 a3 a4 a5 h => br_f hYi ⟨hYin, nm_r hYt (br_t rfl (br_f a1 (br_f a2 (br_f a3 (br_f a4 (br_f a5 (br_t rfl (br_t rfl (nm_r (nI_1 _) h)))))))))⟩
      rcases ex_tokK hv1 with rfl | rfl | rfl | hbig | rfl | rfl | rfl | h910 | hoth
      · exact stop (fun post m h => xno post m (by decide) (by decide) (by decide) (by decide) h) (fun post m h => yno1 post m (by decide) (by decide) h)
      · exact stop (fun post m h => xno post m (by decide) (by decide) (by decide) (by decide) h) (fun post m h => yno1 post m (by decide) (by decide) h)
      · exact stop (fun post m h => xno post m (by decide) (by decide) (by decide) (by decide) h) (fun post m h => yno1 post m (by decide) (by decide) h)
      · obtain ⟨b1, b2, b3, b4, b5, b6, b7, b8, b9, b10, b11, b12⟩ := ex_big hbig
        exact stop (fun post m h => xno post m b3 b10 b11 (by rw [ex_rk_out (Or.inr b12)]; decide) h) (fun post m h => yno2 post m b3 b8 b9 h)
      · exact goon _ _ _ _ (hbinIH (by decide) c os hR) (fun post m h => xplain post m (by decide) (by decide) (by decide) (by decide) h) (fun post m h => yplain post m (by decide) (by decide) (by decide) (by decide) (by decide) h)
      · exact stop (fun post m h => xno post m (by decide) (by decide) (by decide) (by decide) h) (fun post m h => yno2 post m (by decide) (by decide) (by decide) h)
      · -- a closing bracket
        by_cases h0 : ex_ct ops = 0
        · rw [h0] at stop x142 ⊢
          exact stop (fun post m h => br_f hXi ⟨hXin, nm_r hXt (br_t rfl (br_t rfl (br_t (show nI 0 ≤ 0 from by decide) (x142 post m (by decide) (by decide) (by decide) h))))⟩)
            (fun post m h => br_f hYi ⟨hYin, nm_r hYt (br_t rfl (br_t rfl (br_t (show nI 0 = 0 from by decide) h)))⟩)
        · have hmem : (12 : Int32) ∈ ops := List.count_pos_iff.mp (Nat.pos_of_ne_zero h0)
          have := IH ⟨fun h => absurd h (by decide), fun _ => Or.inl ⟨rfl, hmem⟩⟩ c os
          have e : ex_step 13 false ops code = (false, (ex_pop 1 ops).2.tail, code ++ (ex_pop 1 ops).1) := by
            unfold ex_step; rw [if_neg (by decide), if_pos rfl]
          rw [e] at this
          have ep := ex_ct_pop 1 (Nat.le_refl _) ops
          rcases ex_pop_head ops hv.1 with ⟨_, b⟩ | ⟨q, hq⟩
          · exact absurd hmem b
          · rw [hq] at this ep
            have ec : ex_ct (12 :: q) = ex_ct q + 1 := List.count_cons_self
            rw [ec] at ep
            have hR2 : mk_R c os (ex_ct q) := fun d hd => hR d (by omega)
            refine goon false (ex_ct q) c os (this hR2) (fun post m h => ?_) (fun post m h => ?_)
            · rw [← ep]
              exact br_f hXi ⟨hXin, nm_r hXt (br_t rfl (br_t rfl (br_f (nI_nle (by omega) (by omega)) (nm_r (pk_m1 _) (nm_r (nI_1 _) h)))))⟩
            · rw [← ep]
              exact br_f hYi ⟨hYin, nm_r hYt (br_t rfl (br_t rfl (br_f (nI_ne0 (by omega) (by omega)) (nm_r (pk_m1 _) (nm_r (nI_1 _) h)))))⟩
      · -- < and =
        have hvD : vp_in (nI (ex_ct ops)) 20 := vp_in_nI (by omega) (by omega)
        have hcD : (nI (ex_ct ops)).toNatClampNeg = ex_ct ops := nI_clamp (by omega)
        have hbin : ex_bin t = true := by rcases h910 with rfl | rfl <;> decide
        have h13 : ¬ t = 13 := by rcases h910 with rfl | rfl <;> decide
        have hrk : ex_rk t ≤ 1 := by rcases h910 with rfl | rfl <;> decide
        have h4 : ¬ t < 4 := by rcases h910 with rfl | rfl <;> decide
        have h11 : ¬ 11 < t := by rcases h910 with rfl | rfl <;> decide
        have xcmp : ∀ {post : Int32 → Prop}, post 1 → wpX_isComparison post t := by
          intro post h
          rcases h910 with h9 | h10
          · exact br_t h9 h
          · exact br_c (fun _ => h) (fun _ => br_t h10 h)
        by_cases hb : bt c (ex_ct ops) = false
        · have ho1 := (hR (ex_ct ops) (Nat.le_refl _)).mp hb
          have hR2 : mk_R (c ||| ((1 : Int32) <<< (nI (ex_ct ops) &&& 31))) (upd os (ex_ct ops) 1) (ex_ct ops) := by
            intro d hd
            rw [mk_set (by omega) (by omega)]
            by_cases hdd : d = ex_ct ops
            · subst hdd; rw [pk_us]; simp
            · rw [pk_un hdd, ← hR d hd]; simp [hdd]
          refine goon _ _ _ _ (hbinIH hbin _ _ hR2) (fun post m h => ?_) (fun post m h => ?_)
          · exact br_f hXi ⟨hXin, nm_r hXt (br_t rfl (br_f h13 (xcmp (br_f (by decide) (br_t ((mk_bit (by omega)).mpr hb) (nm_r rfl (nm_r (nI_1 _) h)))))))⟩
          · have y142 : wY_misfit_142 post (wY_misfit_7 post jn lm sr sc wy py ya se fl vv vt ot ra br oc m) jn (nI (ex_ct ops)) (nI i) lm sr sc wy py ya se fl vv vt ot ra br oc it le tk cn kd nu lf la pc yb yh yk ho ap rd si vs os :=
              br_f (by decide) ⟨hvD, br_f (by rw [hcD]; exact ho1) (br_t rfl (br_f (by decide) ⟨hvD, nm_r (by rw [hcD]) (nm_r (nI_1 _) h)⟩))⟩
            refine br_f hYi ⟨hYin, nm_r hYt (br_t rfl (br_f h13 (br_f h4 (br_f h11 ?_))))⟩
            rcases h910 with h9 | h10
            · exact br_t h9 y142
            · exact br_c (fun _ => y142) (fun _ => br_t h10 y142)
        · have ho1 : os (ex_ct ops) = 1 := by
            apply Classical.byContradiction
            intro z
            exact hb ((hR (ex_ct ops) (Nat.le_refl _)).mpr z)
          refine stop (fun post m h => ?_) (fun post m h => ?_)
          · exact br_f hXi ⟨hXin, nm_r hXt (br_t rfl (br_f h13 (xcmp (br_f (by decide) (br_f (fun z => hb ((mk_bit (by omega)).mp z)) (x175 post m hrk h))))))⟩
          · have y142 : wY_misfit_142 post (wY_misfit_7 post jn lm sr sc wy py ya se fl vv vt ot ra br oc m) jn (nI (ex_ct ops)) (nI i) lm sr sc wy py ya se fl vv vt ot ra br oc it le tk cn kd nu lf la pc yb yh yk ho ap rd si vs os :=
              br_f (by decide) ⟨hvD, br_t (by rw [hcD]; exact ho1) (br_f (by decide) h)⟩
            refine br_f hYi ⟨hYin, nm_r hYt (br_t rfl (br_f h13 (br_f h4 (br_f h11 ?_))))⟩
            rcases h910 with h9 | h10
            · exact br_t h9 y142
            · exact br_c (fun _ => y142) (fun _ => br_t h10 y142)
      · rcases hoth with rfl | rfl | rfl | rfl | rfl
        all_goals exact goon _ _ _ _ (hbinIH (by decide) c os hR) (fun post m h => xplain post m (by decide) (by decide) (by decide) (by decide) h) (fun post m h => yplain post m (by decide) (by decide) (by decide) (by decide) (by decide) h)
end
