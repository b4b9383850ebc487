/-! A STRETCH GOES OVER A FUNC -/
section FUNC
variable {b : Nat} {C C' C'' C1 : Cd} {E : Env} {VA : Nat → Nat} {up : Int} {s s' s'' s1 : ASt} {r ra f i e f2 ra2 i2 e2 R : Nat} {acc acc2 acc3 : List Int}
def sSame (s s' : ASt) : Prop := s'.1 = s.1 ∧ s'.2.1 = s.2.1 ∧ aPs s' = aPs s ∧ aRw s' = aRw s ∧ aCa s' = aCa s
theorem sSame.rf : sSame s s := ⟨rfl, rfl, rfl, rfl, rfl⟩
theorem sSame.se {l c d u q : Nat} : sSame s (uSe s l c d u q) := ⟨rfl, rfl, rfl, rfl, rfl⟩
theorem gv_same {pl : List Nat} {k : Int} {o : Nat × List Int × ASt} (h : gv E s f pl k acc = some o) : sSame s o.2.2 := by
  unfold gv at h
  by_cases k2 : k = 2
  · rw [if_pos k2] at h
    cases hg : gsm s f pl pl.length 1 0 with
    | none => rw [hg] at h; cases h
    | some z =>
      rw [hg] at h
      obtain ⟨j, a⟩ := z
      cases j with
      | zero => injection h with h; subst h; exact sSame.rf
      | succ j => injection h with h; subst h; exact sSame.rf
  · rw [if_neg k2] at h
    cases hp : prt s f pl 1 with
    | none => rw [hp] at h; cases h
    | some z =>
      rw [hp] at h
      cases z with
      | none => injection h with h; subst h; exact sSame.rf
      | some r1 =>
        dsimp only at h
        by_cases k0 : k = 0
        · rw [if_pos k0] at h
          cases hq : prt s f pl (if anyO r1 = true then 2 else 3) with
          | none => rw [hq] at h; cases h
          | some z =>
            rw [hq] at h
            cases z with
            | none => injection h with h; subst h; exact sSame.rf
            | some q => injection h with h; subst h; exact sSame.rf
        · rw [if_neg k0] at h
          by_cases k1 : k = 1
          · rw [if_pos k1] at h
            cases hq : prt s f pl 2 with
            | none => rw [hq] at h; cases h
            | some z =>
              rw [hq] at h
              cases z with
              | none => injection h with h; subst h; exact sSame.rf
              | some r2 =>
                dsimp only at h
                cases hu : prt s f pl (if r1 = r2 then 3 else 4) with
                | none => rw [hu] at h; cases h
                | some z =>
                  rw [hu] at h
                  cases z with
                  | none => injection h with h; subst h; exact sSame.rf
                  | some q => injection h with h; subst h; exact sSame.rf
          · rw [if_neg k1] at h
            by_cases k3 : k = 3
            · rw [if_pos k3] at h
              by_cases c : 0 ≤ numL r1 ∧ numL r1 < 24
              · rw [if_pos c] at h; injection h with h; subst h; exact sSame.se
              · rw [if_neg c] at h; injection h with h; subst h; exact sSame.rf
            · rw [if_neg k3] at h
              by_cases k4 : k = 4
              · rw [if_pos k4] at h
                by_cases c : 0 ≤ numL r1 ∧ numL r1 < 8
                · rw [if_pos c] at h; injection h with h; subst h; exact sSame.se
                · rw [if_neg c] at h; injection h with h; subst h; exact sSame.rf
              · rw [if_neg k4] at h
                by_cases k5 : k = 5
                · rw [if_pos k5] at h
                  by_cases c : 0 ≤ numL r1 ∧ numL r1 < 8
                  · rw [if_pos c] at h; injection h with h; subst h; exact sSame.se
                  · rw [if_neg c] at h; injection h with h; subst h; exact sSame.rf
                · rw [if_neg k5] at h
                  by_cases c : 0 ≤ numL r1 ∧ numL r1 < 4
                  · rw [if_pos c] at h
                    by_cases c2 : mex E (numL r1).toNat (argv s f pl) 50 0 [] = -99
                    · rw [if_pos c2] at h; cases h
                    · rw [if_neg c2] at h
                      by_cases c3 : mex E (numL r1).toNat (argv s f pl) 50 0 [] ≤ -100
                      · rw [if_pos c3] at h; injection h with h; subst h; exact sSame.se
                      · rw [if_neg c3] at h; injection h with h; subst h; exact sSame.se
                  · rw [if_neg c] at h; injection h with h; subst h; exact sSame.rf
theorem CurR.keep (hx : XS b C E VA up s R) (hs : sSame s s') (e : ∀ f, f < 41 → ∀ x, cP C' (b + 169 + 4 * f + 2) x = cP C (b + 169 + 4 * f + 2) x) {a : Nat} (h : CurR b C E s a) : CurR b C' E s' a := by
  obtain ⟨e1, e2, e3, e4, e5⟩ := hs
  have fgs : fg E s' = fg E s := by show (fun f => eTx E (s'.2.1 f).1) = _; rw [e2]
  have fns : fn E s' = fn E s := by show (fun f => eTl E (s'.2.1 f).1) = _; rw [e2]
  rcases h with z | ⟨cf, cp, c1, c2, c3, c4, c5⟩
  · exact Or.inl z
  · have hn := hx.2.2.2.2.2.2.1.2.1
    exact Or.inr ⟨cf, cp, by rw [show aNf s' = aNf s from e1]; exact c1, by rw [fns]; exact c2, by rw [fgs]; exact c3, by rw [e3]; exact c4, (e cf (by omega) cp).trans c5⟩
theorem Sub.pre (k : Keep b C C1 E s s1 r ra) (hc : ∀ a, CurR b C E s a → CurR b C1 E s1 a) (h : Sub b C1 C' E VA up s1 s' r f ra i e acc f2 ra2 i2 e2 acc2) : Sub b C C' E VA up s s' r f ra i e acc f2 ra2 i2 e2 acc2 :=
  ⟨h.1, h.2.1, h.2.2.1, h.2.2.2.1, h.2.2.2.2.1, k.tr h.2.2.2.2.2.1, fun a q1 q2 => h.2.2.2.2.2.2 a (hc a q1) q2⟩
/-- the parts are listed -/
theorem func_list (h : Pre b C E VA up s r f ra i e acc) (hf : f < aNf s) (hi : i < fn E s f) : ∃ C1, fX1_listParts (b + 1) (some (VA (aFr s f).1 + 1)) (i : Int) C = some ((), C1) ∧ PlC b C1 (prs_ (fg E s f) (fn E s f) 30 (i + 1)) ∧ PlS E s f (prs_ (fg E s f) (fn E s f) 30 (i + 1)) ∧ Post b C C1 E VA up s s r f ra i e acc ∧ (∀ a, CurR b C E s a → CurR b C1 E s a) := by
  have hL := h.1.1
  have W := hL.W
  have hz := hL.sz
  have n30 := h.1.n30 hf
  have hT := h.1.stl hf
  obtain ⟨tf, tf1, tf2, tf3⟩ := (h.1.2.2.2.1 f hf).1
  have nf0 := (h.1.2.2.2.1 f hf).2.1.1
  have ap := h.1.2.2.2.2.2.2.2.2.apart W tf1 tf2 (by rw [tf3]; exact nf0.1) (a := b + 9) (Or.inr (Or.inr (Or.inl ⟨rfl, Or.inr (Or.inl rfl)⟩)))
  rw [tf3] at ap
  obtain ⟨hr0, hf41, h900, h901, h902⟩ := h.2.2.2.2.1
  have c0 := h.1.cur0 h.2.2.1
  obtain ⟨C1, e1, f1, z1, z2, v1, v2⟩ := X1_listParts_ hL hT n30 ap.1 ap.2 hi
  refine ⟨C1, e1, ⟨v1, prs_len _ _, fun x hx => by have := (prs_mem hx).1; omega, v2⟩, fun x hx => prs_mem hx, ?_, fun a q => q.keep h.1 sSame.rf (fun f' hf' x => f1.fP (W _ (hL.fro hf').1) (by unfold sLp; omega) x)⟩
  exact post_plain h (f1.mono (fun q k a _ z => by
    rcases z with ⟨y1, y2, y3⟩ | ⟨y1, y2⟩
    · exact Or.inr (Or.inl ⟨y1, y3, by omega, by omega⟩)
    · exact Or.inr (Or.inr ⟨y1, Or.inr y2⟩))) ⟨rfl, rfl, rfl, rfl, rfl⟩ (h.1.2.2.2.2.2.1.of (fun k _ _ => f1.fI (by omega) (by unfold sLp; omega))) (h.2.2.2.1.fp W f1 (by unfold sLp; omega) (by unfold sLp; omega) (by unfold sLp; omega) (by unfold sLp; omega)) ((f1.fI (W _ (hL.uo hr0).1) (by unfold sLp; omega)).trans h902) ⟨z1, z2⟩
/-- what is given stands behind the row -/
theorem post_gvn (h : Pre b C E VA up s r f ra i e acc) (hs : sSame s s') (g : Gvn b C ra s' acc2 C') : Post b C C' E VA up s s' r f ra i e acc2 ∧ (∀ a, CurR b C E s a → CurR b C' E s' a) := by
  obtain ⟨g1, g2, g3, g4, g5⟩ := g
  have hL := h.1.1
  have W := hL.W
  have hz := hL.sz
  have c0 := h.1.cur0 h.2.2.1
  obtain ⟨hr0, hf41, h900, h901, h902⟩ := h.2.2.2.2.1
  refine ⟨post_plain h (g2.mono (fun q k a _ z => ?_)) hs g5 g1 ((g2.fI (W _ (hL.uo hr0).1) (by unfold sG sRow; omega)).trans h902) ⟨g3, g4⟩, fun a q => q.keep h.1 hs (fun f' hf' x => g2.fP (W _ (hL.fro hf').1) (by unfold sG sRow; omega) x)⟩
  exact z.s2
theorem RunAt.F (h : RunAt b C r f ra i) : RunF b C r f ra := ⟨h.1, h.2.1, h.2.2.1, h.2.2.2.1⟩
/-- a FUNC that gives -/
theorem seg_func_done (h : Pre b C E VA up s r f ra i e acc) (hEn : EnP E) (hf : f < aNf s) (hi : i < fn E s f) (ek : fg E s f i / 1000 = 4) (hg : gv E s f (prs_ (fg E s f) (fn E s f) 30 (i + 1)) (fg E s f i % 1000) acc = some (0, acc2, s')) : ∃ C', fX1_stepOn (b + 1) (some (b + 333 + r)) C = some ((), C') ∧ Post b C C' E VA up s s' r f ra (fE (fg E s f) (fn E s f) i + 1) e acc2 := by
  have hF := (h.1.2.2.1 f hf).1
  have hok := (h.1.2.2.2.1 f hf).2.2.1 i hi
  unfold okt at hok
  have hk6 := hok.2.2.2.2.2 ek
  obtain ⟨C1, e1, q1, q2, p1, _⟩ := func_list h hf hi
  have fo := X1_giveFunction_ p1.1 p1.2.2.1 hf q1 q2 p1.2.2.2.2.1.F p1.2.2.2.1 hEn.2.2 hEn.2.1 (by omega) hg
  obtain ⟨C2, e2, g2⟩ := fo.1 rfl
  have ss := gv_same hg
  obtain ⟨p2, _⟩ := post_gvn p1.pre ss g2
  have hfs : f < aNf s' := by rw [show aNf s' = aNf s from ss.1]; exact hf
  have hT2 := p2.1.stl hfs
  rw [show fg E s' f = fg E s f by show eTx E (s'.2.1 f).1 = _; rw [ss.2.1], show fn E s' f = fn E s f by show eTl E (s'.2.1 f).1 = _; rw [ss.2.1], show aFr s' f = aFr s f by show s'.2.1 f = _; rw [ss.2.1]] at hT2
  exact ⟨_, step_func1 h.1.1 h.2.2.2.2.1 hF.1 (h.1.stl hf) hi ek e1 p1.1.1 e2 p2.1.1 hT2, (p1.tr p2).tr (post_at p2.pre (fE (fg E s f) (fn E s f) i + 1))⟩
/-- a FUNC that wants a part -/
theorem seg_func_need (h : Pre b C E VA up s r f ra i e acc) (hEn : EnP E) (hf : f < aNf s) (hi : i < fn E s f) (ek : fg E s f i / 1000 = 4) {j : Nat} (hg : gv E s f (prs_ (fg E s f) (fn E s f) 30 (i + 1)) (fg E s f i % 1000) acc = some (j + 1, acc2, s')) (hr : r < 511) :
   ∃ C' a, fX1_stepOn (b + 1) (some (b + 333 + r)) C = some ((), C') ∧ a ≠ ra ∧ cP C' (b + 169 + 4 * f + 2) ((prs_ (fg E s f) (fn E s f) 30 (i + 1)).getD j 0) = some a ∧ (prs_ (fg E s f) (fn E s f) 30 (i + 1)).getD j 0 < fn E s f ∧ mkB (fg E s f ((prs_ (fg E s f) (fn E s f) 30 (i + 1)).getD j 0) / 1000) = true ∧
     Sub b C C' E VA up s (uPs s' f ((prs_ (fg E s f) (fn E s f) 30 (i + 1)).getD j 0) 1) r f ra i e acc f a ((prs_ (fg E s f) (fn E s f) 30 (i + 1)).getD j 0 + 1) (fE (fg E s f) (fn E s f) ((prs_ (fg E s f) (fn E s f) 30 (i + 1)).getD j 0)) [] := by
  have hF := (h.1.2.2.1 f hf).1
  have hok := (h.1.2.2.2.1 f hf).2.2.1 i hi
  unfold okt at hok
  have hk6 := hok.2.2.2.2.2 ek
  obtain ⟨C1, e1, q1, q2, p1, cc1⟩ := func_list h hf hi
  have fo := X1_giveFunction_ p1.1 p1.2.2.1 hf q1 q2 p1.2.2.2.2.1.F p1.2.2.2.1 hEn.2.2 hEn.2.1 (by omega) hg
  obtain ⟨C2, e2, g2, h414, hj, h0⟩ := fo.2 j rfl
  have ss := gv_same hg
  obtain ⟨p2, cc2⟩ := post_gvn p1.pre ss g2
  have hm := q2 _ (getDn_mem hj)
  have hfs : f < aNf s' := by rw [show aNf s' = aNf s from ss.1]; exact hf
  have fgs : fg E s' f = fg E s f := by show eTx E (s'.2.1 f).1 = _; rw [ss.2.1]
  have fns : fn E s' f = fn E s f := by show eTl E (s'.2.1 f).1 = _; rw [ss.2.1]
  obtain ⟨C3, a, e3, ne, cp, sb⟩ := part_new p2.pre hfs (p := (prs_ (fg E s f) (fn E s f) 30 (i + 1)).getD j 0) (by rw [fns]; exact hm.1) (by rw [fgs]; exact hm.2) (by rw [show aPs s' = aPs s from ss.2.2.1]; exact h0) hr
  rw [fgs, fns] at sb
  refine ⟨C3, a, step_func0 h.1.1 h.2.2.2.2.1 hF.1 (h.1.stl hf) hi ek e1 p1.1.1 e2 p2.1.1 ?_, ne, cp, hm.1, hm.2, Sub.pre (p1.tr p2).2.2.2.2.2.2 (fun a q => cc2 a (cc1 a q)) sb⟩
  rw [p2.2.2.2.2.1.2.2.1, h414]
  exact e3
end FUNC
