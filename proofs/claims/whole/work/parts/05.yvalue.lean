/-! the reference works an expression out along its tokens: the same steps -/
def ex_yo (o : Int32) : Int32 := if o = 14 then 20 else o
def ex_bi (b : Bool) : Int32 := if b = true then 1 else 0
def ex_fo (x y k : Int32) (p : List Int32) (st : List Int32 × Bool) : List Int32 × Bool := p.foldl (fun st t => ex_xs x y k t st) st
theorem ex_fo_cons (x y k o : Int32) (p : List Int32) (st : List Int32 × Bool) : ex_fo x y k (o :: p) st = ex_fo x y k p (ex_xs x y k o st) := rfl
theorem ex_yo_rk {o : Int32} (h : ex_ok o) {post : Int32 → Prop} (hp : post (nI (ex_rk o))) : wpY_level post (ex_yo o) := by
  rcases h with rfl | rfl | hb
  · exact br_f (by decide) (br_t (by decide) hp)
  · exact br_t (by decide) hp
  · rcases ex_binC hb with rfl | rfl | rfl | rfl | rfl | rfl | rfl | rfl
    · exact br_f (by decide) (br_f (by decide) (br_t (by decide) (br_f (by decide) (br_f (by decide) hp))))
    · exact br_f (by decide) (br_f (by decide) (br_t (by decide) (br_f (by decide) (br_f (by decide) hp))))
    · exact br_f (by decide) (br_f (by decide) (br_f (by decide) (br_f (by decide) hp)))
    · exact br_f (by decide) (br_f (by decide) (br_f (by decide) (br_f (by decide) hp)))
    · exact br_f (by decide) (br_f (by decide) (br_f (by decide) (br_f (by decide) hp)))
    · exact br_f (by decide) (br_f (by decide) (br_f (by decide) (br_t (by decide) (br_t (by decide) hp))))
    · exact br_f (by decide) (br_f (by decide) (br_f (by decide) (br_t (by decide) (br_f (by decide) (br_t (by decide) hp)))))
    · exact br_f (by decide) (br_f (by decide) (br_f (by decide) (br_t (by decide) (br_f (by decide) (br_f (by decide) hp)))))
theorem ex_lv {t : Int32} (h : ex_bin t = true) {post : Int32 → Prop} (hp : post (nI (ex_rk t))) : wpY_level post t := by
  have := ex_yo_rk (Or.inr (Or.inr h)) hp
  have e : ex_yo t = t := by unfold ex_yo; rw [if_neg (ex_bin_no h).2.1]
  rw [e] at this; exact this
section
variable {lm pn wp sr sc se fl sp pt sg el rs sn wy ya vv vt ot ra br : Int32} {en oc : Int64} {it le pe op kd nu co cl ap rd si bg ct ls hd hk hc vl tk cn lf la pc yb yh yk ho vs os : Nat → Int32}
theorem yr_w94 (q : Nat) (hq : q < 19) (t a b : Int32) (hb : ex_bin t = true) (hz : t = 7 ∨ t = 8 → ¬ b = 0) {post : SY → Prop} (h : post (lm, sr, sc, wy, sp, ya, se, fl, vv, nI (q + 1), ot, ra, br, oc, it, le, tk, cn, kd, nu, lf, la, pc, yb, yh, yk, ho, ap, rd, si, upd vs q (ex_cmb t a b), os)) : wY_work_94 post t b a lm sr sc wy sp ya se fl vv (nI (q + 1)) ot ra br oc it le tk cn kd nu lf la pc yb yh yk ho ap rd si vs os := by
  have hp : nI (q + 1) - 1 = nI q := nI_pred _
  have hvi : vp_in (nI (q + 1) - 1) 20 := by rw [hp]; exact vp_in_nI (by omega) (by omega)
  have hcq : (nI (q + 1) - 1).toNatClampNeg = q := by rw [hp, nI_clamp (by omega)]
  rcases ex_binC hb with rfl | rfl | rfl | rfl | rfl | rfl | rfl | rfl
  · exact br_t rfl ⟨hvi, nm_r (by rw [hcq]; rfl) h⟩
  · exact br_f (by decide) (br_t rfl ⟨hvi, nm_r (by rw [hcq]; rfl) h⟩)
  · exact br_f (by decide) (br_f (by decide) (br_t rfl ⟨hvi, nm_r (by rw [hcq]; rfl) h⟩))
  · exact br_f (by decide) (br_f (by decide) (br_f (by decide) (br_t rfl ⟨hz (Or.inl rfl), hvi, nm_r (by rw [hcq]; rfl) h⟩)))
  · exact br_f (by decide) (br_f (by decide) (br_f (by decide) (br_f (by decide) (br_t rfl ⟨hz (Or.inr rfl), hvi, nm_r (by rw [hcq]; rfl) h⟩))))
  · refine br_f (by decide) (br_f (by decide) (br_f (by decide) (br_f (by decide) (br_f (by decide) (br_t rfl (br_c (fun c => ⟨hvi, nm_r ?_ h⟩) (fun c => ⟨hvi, nm_r ?_ h⟩)))))))
    · rw [hcq, show ex_cmb 9 a b = (if b ≤ a then 0 else 1) from rfl, if_pos c]
    · rw [hcq, show ex_cmb 9 a b = (if b ≤ a then 0 else 1) from rfl, if_neg c]
  · refine br_f (by decide) (br_f (by decide) (br_f (by decide) (br_f (by decide) (br_f (by decide) (br_f (by decide) (br_t rfl (br_c (fun c => ⟨hvi, nm_r ?_ h⟩) (fun c => ⟨hvi, nm_r ?_ h⟩))))))))
    · rw [hcq, show ex_cmb 10 a b = (if a = b then 1 else 0) from rfl, if_pos c]
    · rw [hcq, show ex_cmb 10 a b = (if a = b then 1 else 0) from rfl, if_neg c]
  · exact br_f (by decide) (br_f (by decide) (br_f (by decide) (br_f (by decide) (br_f (by decide) (br_f (by decide) (br_f (by decide) ⟨hvi, nm_r (by rw [hcq]; rfl) h⟩))))))
theorem yr_work (x y k : Int32) (o : Int32) (m : Nat) (hm : m < 20) (st : List Int32) (b : Bool) (hst : st.length ≤ 20) (hok : o = 14 ∨ ex_bin o = true) (hos : os m = ex_yo o) (hvs : ex_stk vs st) (hfit : ex_fit [o] st.length) :
    ∃ vs' : Nat → Int32, ex_stk vs' (ex_xs x y k o (st, b)).1 ∧ ∀ post : SY → Prop, post (lm, sr, sc, wy, sp, ya, se, fl, vv, nI (ex_xs x y k o (st, b)).1.length, nI m, ra, ex_bi (ex_xs x y k o (st, b)).2, oc, it, le, tk, cn, kd, nu, lf, la, pc, yb, yh, yk, ho, ap, rd, si, vs', os) → wpY_work post (lm, sr, sc, wy, sp, ya, se, fl, vv, nI st.length, nI (m + 1), ra, ex_bi b, oc, it, le, tk, cn, kd, nu, lf, la, pc, yb, yh, yk, ho, ap, rd, si, vs, os) := by
  have hom : nI (m + 1) - 1 = nI m := nI_pred _
  have hov : vp_in (nI (m + 1) - 1) 20 := by rw [hom]; exact vp_in_nI hm (by omega)
  have hoe : os (nI (m + 1) - 1).toNatClampNeg = ex_yo o := by rw [hom, nI_clamp (by omega)]; exact hos
  rcases hok with rfl | hb
  · match st, hfit, hvs, hst with
    | [], hfit, _, _ => exact absurd hfit.1 (by decide)
    | a :: q, hfit, hvs, hst =>
      rw [List.length_cons] at hst
      refine ⟨upd vs q.length (-a), ex_stk_push _ _ _ hvs.2, fun post h => ?_⟩
      have hp : nI (q.length + 1) - 1 = nI q.length := nI_pred _
      have hvi : vp_in (nI (q.length + 1) - 1) 20 := by rw [hp]; exact vp_in_nI (by omega) (by omega)
      have hcq : (nI (q.length + 1) - 1).toNatClampNeg = q.length := by rw [hp, nI_clamp (by omega)]
      exact nm_r hom ⟨hov, nm_r hoe (nm_r hp ⟨hvi, nm_r (show vs (nI (q.length + 1) - 1).toNatClampNeg = a by rw [hcq]; exact hvs.1) (br_t (by decide) (nm_r (nI_1 _) ⟨vp_in_nI (by omega) (by omega), nm_r (by rw [nI_clamp (by omega)]) h⟩))⟩)⟩
  · obtain ⟨b1, b2, _⟩ := ex_bin_no hb
    simp only [ex_fit, b1, b2, Bool.false_eq_true, if_false] at hfit
    match st, hfit, hvs, hst with
    | [], hfit, _, _ => exact absurd hfit.1 (by decide)
    | [c], hfit, _, _ => exact absurd hfit.1 (by simp)
    | c :: a :: q, hfit, hvs, hst =>
      rw [List.length_cons, List.length_cons] at hst
      have eyo : ex_yo o = o := by unfold ex_yo; rw [if_neg b2]
      rw [eyo] at hoe
      have hp : nI (q.length + 1 + 1) - 1 = nI (q.length + 1) := nI_pred _
      have hp2 : nI (q.length + 1) - 1 = nI q.length := nI_pred _
      have hvi : vp_in (nI (q.length + 1 + 1) - 1) 20 := by rw [hp]; exact vp_in_nI (by omega) (by omega)
      have hvi2 : vp_in (nI (q.length + 1) - 1) 20 := by rw [hp2]; exact vp_in_nI (by omega) (by omega)
      have hvc : vs (nI (q.length + 1 + 1) - 1).toNatClampNeg = c := by rw [hp, nI_clamp (by omega)]; exact hvs.1
      have hva : vs (nI (q.length + 1) - 1).toNatClampNeg = a := by rw [hp2, nI_clamp (by omega)]; exact hvs.2.1
      have h20 : ¬ o = 20 := by intro e; rw [e] at hb; exact absurd hb (by decide)
      have hx : ex_xs x y k o (c :: a :: q, b) = if (o = 7 ∨ o = 8) ∧ c = 0 then (ex_cmb o a 1 :: q, true) else (ex_cmb o a c :: q, b) := by
        unfold ex_xs; rw [if_neg (by simp [b1]), if_neg b2]
      by_cases hz : (o = 7 ∨ o = 8) ∧ c = 0
      · rw [if_pos hz] at hx
        refine ⟨upd vs q.length (ex_cmb o a 1), by rw [hx]; exact ex_stk_push _ _ _ hvs.2.2, fun post h => ?_⟩
        rw [hx] at h
        have h83 : wY_work_83 post o c a lm sr sc wy sp ya se fl vv (nI (q.length + 1)) (nI m) ra (ex_bi b) oc it le tk cn kd nu lf la pc yb yh yk ho ap rd si vs os :=
          br_t hz.2 (yr_w94 q.length (by omega) o a 1 hb (fun _ => by decide) h)
        refine nm_r hom ⟨hov, nm_r hoe (nm_r hp ⟨hvi, nm_r hvc (br_f h20 ⟨hvi2, nm_r hva ?_⟩)⟩)⟩
        rcases hz.1 with h7 | h8
        · exact br_t h7 h83
        · exact br_c (fun _ => h83) (fun _ => br_t h8 h83)
      · rw [if_neg hz] at hx
        refine ⟨upd vs q.length (ex_cmb o a c), by rw [hx]; exact ex_stk_push _ _ _ hvs.2.2, fun post h => ?_⟩
        rw [hx] at h
        have h94 : wY_work_94 post o c a lm sr sc wy sp ya se fl vv (nI (q.length + 1)) (nI m) ra (ex_bi b) oc it le tk cn kd nu lf la pc yb yh yk ho ap rd si vs os :=
          yr_w94 q.length (by omega) o a c hb (fun h78 hc0 => hz ⟨h78, hc0⟩) h
        refine nm_r hom ⟨hov, nm_r hoe (nm_r hp ⟨hvi, nm_r hvc (br_f h20 ⟨hvi2, nm_r hva ?_⟩)⟩)⟩
        exact br_c (fun h7 => br_f (fun hc0 => hz ⟨Or.inl h7, hc0⟩) h94) (fun _ => br_c (fun h8 => br_f (fun hc0 => hz ⟨Or.inr h8, hc0⟩) h94) (fun _ => h94))
end
