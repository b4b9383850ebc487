/-! THE REFERENCE COMES TO A PARAM, TO A FUNC -/
section MPA
variable {E : Env} {s s1 s' : ASt} {M M1 M' : Md} {rn fu D row f i F cf q k : Nat} {acc r : List Int} {pl : List Nat} {kd : Int}
theorem PI.uniq (hP : PI E s) (hE : EnP E) (hf : f < aNf s) {x0 : Nat} (hx0 : (aFr s f).2.2.2.2.2 x0 ≠ -1) {g x : Nat} (hg : g < aNf s) (h : Kpl s g x (aFr s f).2.2.2.1.toNat ((aFr s f).2.2.2.2.2 x0).toNat) : g = f ∧ x = x0 := by
  obtain ⟨h1, h2, h3⟩ := h
  obtain ⟨a1, a2, a3, a4, a5, a6, a7, a8, a9⟩ := hP.arg hE hf hx0
  obtain ⟨b1, b2, b3, b4, b5, b6, b7, b8, b9⟩ := hP.arg hE hg h1
  have ec : (aFr s g).2.2.2.1 = (aFr s f).2.2.2.1 := by omega
  have eq : (aFr s g).2.2.2.2.2 x = (aFr s f).2.2.2.2.2 x0 := by omega
  rcases (hP.1 f hf).2 with z | ⟨d1, d2, d3, d4, d5, d6, d7⟩
  · exact absurd (z.2 x0) hx0
  · rcases (hP.1 g hg).2 with z | ⟨e1, e2, e3, e4, e5, e6, e7⟩
    · exact absurd (z.2 x) h1
    · rw [ec] at b4 e3 e4
      rw [h3] at b4
      have hT := (hP.tx hE (f := (aFr s f).2.2.2.1.toNat) (by omega)).1
      have ea := prs_inj hT e3 (by rw [e4]; rfl) d3 (by rw [d4]; rfl) b4 a4
      have egf := d7 g hg ec ea
      subst egf
      refine ⟨rfl, ?_⟩
      rw [d5] at eq h1
      exact (agF_inj (prs_nodup _ _) eq).resolve_left h1
variable (h : MS M E s rn fu)
theorem param_start (h : MS M E s rn fu) (hP : PI E s) (hE : EnP E) (hf : f < aNf s) (hi : i < fn E s f) (ek : fg E s f i / 1000 = 3) :
   fX12_codeAt (f : Int) (i : Int) M = some (fg E s f i, M) ∧ (10 * (f : Int)) + remI (fg E s f i) 1000 = ((10 * f + (fg E s f i % 1000).toNat : Nat) : Int) ∧ (fg E s f i % 1000).toNat < 10 ∧ f < 41 := by
  have hF := h.fr hf
  have h41 := hP.n41
  obtain ⟨hT, hK⟩ := hP.tx hE hf
  have hok := hK i hi
  unfold okt at hok
  obtain ⟨k1, k2, k3, k4⟩ := hF.k hi
  refine ⟨X12_codeAt_ hF hi, ?_, by omega, by omega⟩
  rw [k2]; omega
/-- no argument: its content -/
theorem X12_param_free (h : MS M E s rn fu) (hP : PI E s) (hE : EnP E) (hf : f < aNf s) (hi : i < fn E s f) (ek : fg E s f i / 1000 = 3) (ha : (aFr s f).2.2.2.2.2 (fg E s f i % 1000).toNat = -1) (h59 : M.1 59 = (D : Int)) (hD : D < 4000) (c : Nat) :
   ∃ M2, fX12_expandParam (f : Int) (i : Int) (c : Int) (row : Int) M = some ((), M2) ∧ M2.1 59 = (D : Int) + 1 ∧ TkM M2 D 0 (f : Int) ((i + 1 : Nat) : Int) (c : Int) (row : Int) ∧ TkO D M M2 := by
  obtain ⟨p1, p2, p3, p4⟩ := param_start h hP hE hf hi ek
  have k := h.2.2.2.2.2.2 f _ hf p3
  have k45 : M.2 45 (10 * f + (fg E s f i % 1000).toNat) = -1 := by
    rcases k with k | k
    · exact k.2.1
    · have := k.1; omega
  obtain ⟨M2, t1, t2, t3, t4⟩ := X12_task_ h59 hD 0 (f : Int) ((i + 1 : Nat) : Int) (c : Int) (row : Int)
  unfold fX12_expandParam
  rw [cal_of p1, bnd_eq, p2, if_pos (in_410 (by omega) rfl), bnd_eq, ix_n (by omega), k45, if_neg (fun z => z rfl), show (i : Int) + 1 = ((i + 1 : Nat) : Int) by omega, cal_of t1]
  exact ⟨M2, rfl, t2, t3, t4⟩
/-- an argument whose row is there -/
theorem X12_param_done (h : MS M E s rn fu) (hP : PI E s) (hE : EnP E) (hc : CuM M s row rn) (hr : RowM M row acc) (hf : f < aNf s) (hi : i < fn E s f) (ek : fg E s f i / 1000 = 3) (ha : (aFr s f).2.2.2.2.2 (fg E s f i % 1000).toNat ≠ -1)
   (h2 : aPs s (aFr s f).2.2.2.1.toNat ((aFr s f).2.2.2.2.2 (fg E s f i % 1000).toNat).toNat = 2) (c : Int) :
   ∃ M2, fX12_expandParam (f : Int) (i : Int) c (row : Int) M = some ((), M2) ∧ RoO row M M2 ∧ RowM M2 row (aal acc (aRw s (aFr s f).2.2.2.1.toNat ((aFr s f).2.2.2.2.2 (fg E s f i % 1000).toNat).toNat)) := by
  obtain ⟨p1, p2, p3, p4⟩ := param_start h hP hE hf hi ek
  have k := h.2.2.2.2.2.2 f _ hf p3
  rcases k with k | ⟨k1, k2, k3, k4⟩
  · exact absurd k.1 ha
  · rcases k4 with k4 | ⟨k4, d, k5, k6, k7⟩
    · rw [h2] at k4; exact absurd k4.1 (by decide)
    · have hd := (k7 h2).1
      have hne := hc.ne hf p3 h2 k6
      have hA := (hP.arg hE hf ha).2.2.2.2.2.2.2.2
      have n30 := (h.fr (f := (aFr s f).2.2.2.1.toNat) (by have := (hP.arg hE hf ha); omega)).2.2.2.1
      obtain ⟨M2, e2, r2, o2⟩ := X12_appendRow_ (Ne.symm hne) hr (k7 h2)
      unfold fX12_expandParam
      rw [cal_of p1, bnd_eq, p2, if_pos (in_410 (by omega) rfl), bnd_eq, ix_n (by omega), k2, if_pos (by rw [w32_of (by omega) (by omega), show w32 (-1) = -1 from rfl]; omega), if_pos (in_410 (by omega) rfl), k6,
        if_neg (by rw [w32_n (by omega), show w32 (-1) = -1 from rfl]; omega), if_pos (in_410 (by omega) rfl), cal_of e2]
      exact ⟨M2, rfl, o2, r2⟩
/-- an argument's row is begun -/
theorem X12_param_begin (h : MS M E s rn fu) (hP : PI E s) (hE : EnP E) (hf : f < aNf s) (hi : i < fn E s f) (ek : fg E s f i / 1000 = 3) (ha : (aFr s f).2.2.2.2.2 (fg E s f i % 1000).toNat ≠ -1)
   (h0 : aPs s (aFr s f).2.2.2.1.toNat ((aFr s f).2.2.2.2.2 (fg E s f i % 1000).toNat).toNat = 0) (c : Int) (h59 : M.1 59 = (D : Int)) (hD : D + 1 < 4000) (hrn : rn < 1700) :
   ∃ M2, fX12_expandParam (f : Int) (i : Int) c (row : Int) M = some ((), M2) ∧ BgO rn D M M2 ∧ M2.1 48 = ((rn + 1 : Nat) : Int) ∧ M2.2 49 rn = 0 ∧ M2.2 58 = M.2 58 ∧ M2.2 47 (10 * f + (fg E s f i % 1000).toNat) = (rn : Int) ∧ (∀ j, j ≠ 10 * f + (fg E s f i % 1000).toNat → M2.2 47 j = M.2 47 j) ∧
    M2.1 59 = (D : Int) + 1 + 1 ∧ TkM M2 D 1 (rn : Int) 0 0 (row : Int) ∧ TkM M2 (D + 1) 0 (((aFr s f).2.2.2.1.toNat : Nat) : Int) ((((aFr s f).2.2.2.2.2 (fg E s f i % 1000).toNat).toNat + 1 : Nat) : Int)
      (fE (fg E s (aFr s f).2.2.2.1.toNat) (fn E s (aFr s f).2.2.2.1.toNat) ((aFr s f).2.2.2.2.2 (fg E s f i % 1000).toNat).toNat : Int) (rn : Int) := by
  obtain ⟨p1, p2, p3, p4⟩ := param_start h hP hE hf hi ek
  have k := h.2.2.2.2.2.2 f _ hf p3
  generalize (fg E s f i % 1000).toNat = x at *
  rcases k with k | ⟨k1, k2, k3, k4⟩
  · exact absurd k.1 ha
  · rcases k4 with k4 | ⟨k4, _⟩
    · obtain ⟨a1, a2, a3, a4, a5, a6, a7, a8, a9⟩ := hP.arg hE hf ha
      have n30 := (h.fr (f := (aFr s f).2.2.2.1.toNat) (by omega)).2.2.2.1
      obtain ⟨n1, n2⟩ := X12_newRow_ h.2.2.2.1.1 hrn
      have hM5 : ∀ M5, M5 = mPut (mSet (mPut M 49 rn 0) 48 ((rn : Int) + 1)) 47 (10 * f + x) (rn : Int) → M5.1 48 = (rn : Int) + 1 ∧ (∀ j, j ≠ 48 → M5.1 j = M.1 j) ∧ (∀ q, q ≠ 47 → q ≠ 49 → M5.2 q = M.2 q) ∧ (∀ i, i ≠ rn → M5.2 49 i = M.2 49 i) ∧ M5.2 49 rn = 0 ∧ M5.2 47 (10 * f + x) = (rn : Int) ∧ ∀ j, j ≠ 10 * f + x → M5.2 47 j = M.2 47 j := by
        intro M5 e
        subst e
        refine ⟨mS1 (mPut M 49 rn 0) 48 _, fun j hj => mS2 (mPut M 49 rn 0) _ hj, fun q a b => ?_, fun i hi => ?_, ?_, p2_1 _ _ _ _, fun j hj => ?_⟩
        · rw [mPut_ne _ _ _ a]; exact mPut_ne _ _ _ b
        · rw [p2_2 _ _ (Or.inl (by decide))]; exact p2_2 (k := 49) (k' := 49) M _ (Or.inr hi)
        · rw [p2_2 _ _ (Or.inl (by decide))]; exact p2_1 M 49 rn 0
        · rw [p2_2 _ _ (Or.inr hj)]; exact congrFun (mPut_ne (k := 49) (k' := 47) M rn 0 (by decide)) j
      unfold fX12_expandParam
      rw [cal_of p1, bnd_eq, p2, if_pos (in_410 (by omega) rfl), bnd_eq, ix_n (by omega), k2, if_pos (by rw [w32_of (by omega) (by omega), show w32 (-1) = -1 from rfl]; omega), if_pos (in_410 (by omega) rfl), k4.2, if_pos rfl, cal_of n1, if_pos (in_410 (by omega) rfl), bnd_eq]
      generalize mPut (mSet (mPut M 49 rn 0) 48 ((rn : Int) + 1)) 47 (10 * f + x) (rn : Int) = M5 at *
      obtain ⟨m1, m2, m3, m4, m5, m6, m7⟩ := hM5 M5 rfl
      obtain ⟨M6, t1, t2, t3, t4⟩ := X12_task_ (M := M5) (d := D) ((m2 59 (by decide)).trans h59) (by omega) 1 (rn : Int) 0 0 (row : Int)
      have b44 : M6.2 44 f = (((aFr s f).2.2.2.1.toNat : Nat) : Int) := by rw [t4.2.1 44 (by decide), m3 44 (by decide) (by decide), (h.2.2.2.2.2.1 f hf).2.2.2]; omega
      have b45 : M6.2 45 (10 * f + x) = ((((aFr s f).2.2.2.2.2 x).toNat + 1 : Nat) : Int) := by rw [t4.2.1 45 (by decide), m3 45 (by decide) (by decide), k2]; omega
      have b46 : M6.2 46 (10 * f + x) = (fE (fg E s (aFr s f).2.2.2.1.toNat) (fn E s (aFr s f).2.2.2.1.toNat) ((aFr s f).2.2.2.2.2 x).toNat : Int) := by rw [t4.2.1 46 (by decide), m3 46 (by decide) (by decide)]; exact k3
      have b47 : M6.2 47 (10 * f + x) = (rn : Int) := by rw [t4.2.1 47 (by decide)]; exact m6
      obtain ⟨M7, u1, u2, u3, u4⟩ := X12_task_ (M := M6) (d := D + 1) (t2.trans (by omega)) hD 0 (((aFr s f).2.2.2.1.toNat : Nat) : Int) ((((aFr s f).2.2.2.2.2 x).toNat + 1 : Nat) : Int) (fE (fg E s (aFr s f).2.2.2.1.toNat) (fn E s (aFr s f).2.2.2.1.toNat) ((aFr s f).2.2.2.2.2 x).toNat : Int) (rn : Int)
      rw [if_pos (in_410 (by omega) rfl), m6, cal_of t1, if_pos (in_41 p4 rfl), if_pos (in_410 (by omega) rfl), if_pos (in_410 (by omega) rfl), if_pos (in_410 (by omega) rfl), ix_n (by omega), b44, b45, b46, b47, cal_of u1]
      refine ⟨M7, rfl, ⟨fun j x1 x2 => ?_, fun q x1 => ?_, fun d hd => ?_, fun q j x1 x2 x3 => ?_⟩, ?_, ?_, ?_, ?_, fun j hj => ?_, ?_, ?_, u3⟩
      · rw [u4.1 j x2, t4.1 j x2]; exact m2 j x1
      · rw [u4.2.1 q (by omega), t4.2.1 q (by omega)]; exact m3 q (by omega) (by omega)
      · rw [u4.2.1 49 (by decide), t4.2.1 49 (by decide)]; exact m4 d hd
      · rw [u4.2.2 q j (by omega), t4.2.2 q j (by omega), m3 q (by omega) (by omega)]
      · rw [u4.1 48 (by decide), t4.1 48 (by decide), m1]; omega
      · rw [u4.2.1 49 (by decide), t4.2.1 49 (by decide)]; exact m5
      · rw [u4.2.1 58 (by decide), t4.2.1 58 (by decide)]; exact m3 58 (by decide) (by decide)
      · rw [u4.2.1 47 (by decide)]; exact b47
      · rw [u4.2.1 47 (by decide), t4.2.1 47 (by decide)]; exact m7 j hj
      · rw [u2]; omega
      · obtain ⟨y1, y2, y3, y4, y5⟩ := t3
        exact ⟨by rw [u4.2.2 _ _ (by omega)]; exact y1, by rw [u4.2.2 _ _ (by omega)]; exact y2, by rw [u4.2.2 _ _ (by omega)]; exact y3, by rw [u4.2.2 _ _ (by omega)]; exact y4, by rw [u4.2.2 _ _ (by omega)]; exact y5⟩
    · exact absurd h0 k4
/-- a function that waits -/
def FnK (M : Md) (E : Env) (k : Nat) (s : ASt) (f : Nat) (pl : List Nat) (row rn : Nat) (kd : Int) : Prop := FnS M k s f pl ∧ FnH M k f row kd ∧ (∀ j, j < pl.length → M.2 58 (32 * k + j) ≠ (row : Int) ∧ M.2 58 (32 * k + j) < (rn : Int)) ∧
  ∀ j, j < pl.length → M.2 56 (32 * k + j) = (pl.getD j 0 : Int) + 1 ∧ M.2 57 (32 * k + j) = (fE (fg E s f) (fn E s f) (pl.getD j 0) : Int)
/-- a FUNC is put aside -/
theorem mfunc_new (h : MS M E s rn fu) (hP : PI E s) (hE : EnP E) (hc : CuM M s row rn) (hr : RowM M row acc) (hf : f < aNf s) (hi : i < fn E s f) (ek : fg E s f i / 1000 = 4) (hun : ∀ p, i ≤ p → p < fE (fg E s f) (fn E s f) i → aPs s f p = 0) (hfu : fu < 700) (h59 : M.1 59 = (D : Int)) (hD : D < 4000) :
   ∃ M', fX12_expandFunction (f : Int) (i : Int) (fE (fg E s f) (fn E s f) i : Int) (row : Int) M = some ((), M') ∧ MS M' E (uPs s f i 2) rn (fu + 1) ∧ CuM M' (uPs s f i 2) row rn ∧ RowM M' row acc ∧ KeepM M M' s (uPs s f i 2) D row fu rn ∧
     FnK M' E fu (uPs s f i 2) f (prs_ (fg E s f) (fn E s f) 30 (i + 1)) row rn (fg E s f i % 1000) ∧ M'.1 59 = (D : Int) + 1 ∧ TkM M' D 2 (fu : Int) 0 0 (row : Int) := by
  have hF := h.fr hf
  have h41 := hP.n41
  obtain ⟨hT, hK⟩ := hP.tx hE hf
  have ho : opB (fg E s f i / 1000) = true := by rw [ek]; rfl
  have gt := fE_gt (fg E s f) (fn E s f) i
  obtain ⟨M1, M', x1, x2, x3, x4, x5, x6, x7, x8⟩ := X12_expandFunction_ (row := row) hF hT hi ek hfu h.2.2.2.1.2.2.2.1 h59 hD
  obtain ⟨a1, a2, a3, a4, a5, a6, a7⟩ := h
  have ex : ExO M M' := ⟨fun j a => by rw [x8.1 j (by omega)]; exact x2.1 j (by omega), fun q a => by rw [x8.2.1 q (by omega)]; exact x2.2.1 q (by omega)⟩
  have ri : ∀ j, j ≠ 51 → j ≠ 59 → M'.1 j = M.1 j := fun j a b => by rw [x8.1 j b]; exact x2.1 j a
  have rr : ∀ q, (q < 52 ∨ 64 < q) → M'.2 q = M.2 q := fun q a => by rw [x8.2.1 q (by omega)]; exact x2.2.1 q (by omega)
  have row_ : ∀ {d r}, RowM M d r → RowM M' d r := fun hr => ⟨hr.1, by rw [rr 49 (by decide)]; exact hr.2.1, hr.2.2.1, fun k hk => by rw [rr 50 (by decide)]; exact hr.2.2.2 k hk⟩
  have ks := KyS.touch (i := i) hP hE ho
  have n30 := hF.2.2.2.1
  have nk : ∀ d, NK M s d → NK M' (uPs s f i 2) d := fun d z => z.move a7 (rr 47 (by decide)) ks
  have frs : ∀ f, fg E (uPs s f i 2) f = fg E s f := fun _ => rfl
  refine ⟨M', x1, ⟨a1.step ex, ⟨by rw [ri 40 (by decide) (by decide)]; exact a2.1, by rw [ri 65 (by decide) (by decide)]; exact a2.2.1, by rw [ri 71 (by decide) (by decide)]; exact a2.2.2⟩, a3.keep (fun j b c => ri j (by omega) (by omega)), ⟨by rw [ri 48 (by decide) (by decide)]; exact a4.1, a4.2.1, Nat.le_trans a4.2.2.1 (Nat.add_le_add_left (Tc_up (by decide)) 2), by rw [x8.1 51 (by decide), x3]; omega, ?_⟩, row_ a5, fun g hg => ?_, fun g x hg hx => ?_⟩, ⟨hc.1, hc.2.1, nk _ hc.2.2⟩, row_ hr,
    ⟨ex, fun q j b c d => by rw [x8.2.2 q j (by omega), x2.2.1 q (by omega)], fun q k b c d => by rw [x8.2.1 q (by omega)]; exact x2.2.2.1 q k c (by omega), fun q j b c d => by rw [x8.2.1 q (by omega)]; exact x2.2.2.2 q j b (Or.inl d), fun d _ _ => ⟨by rw [rr 49 (by decide)], fun k _ => by rw [rr 50 (by decide)]⟩, fun g x _ _ _ => by rw [rr 47 (by decide)], fun d _ z => nk d z⟩, ⟨⟨hfu, ?_, prs_len _ _, row_ a5, by rw [ri 71 (by decide) (by decide)]; exact a2.2.2, fun j hj => ?_⟩, ⟨?_, ?_, ?_⟩, fun j hj => ?_, fun j hj => ?_⟩, x6, x7⟩
  · exact Nat.le_trans (Nat.succ_le_succ a4.2.2.2.2) (nFu_new (by omega) hf hi (by omega) ek (hun i (Nat.le_refl i) gt))
  · obtain ⟨⟨c1, c2, c3, c4, c5⟩, b2, b3, b4⟩ := a6 g hg
    exact ⟨⟨c1, c2, by rw [rr 41 (by decide)]; exact c3, c4, fun k hk => by rw [rr 9 (by decide)]; exact c5 k hk⟩, by rw [rr 42 (by decide)]; exact b2, by rw [rr 43 (by decide)]; exact b3, by rw [rr 44 (by decide)]; exact b4⟩
  · have k := a7 g x hg hx
    unfold KyM at k ⊢
    show ((aFr s g).2.2.2.2.2 x = -1 ∧ _ ∧ _) ∨ _
    rw [rr 45 (by decide), rr 46 (by decide), rr 47 (by decide)]
    rcases k with k | ⟨k1, k2, k3, k4⟩
    · exact Or.inl k
    · obtain ⟨y1, y2⟩ := ks.2.2 g x hg hx (by omega)
      refine Or.inr ⟨k1, k2, k3, ?_⟩
      show (aPs (uPs s f i 2) (aFr s g).2.2.2.1.toNat ((aFr s g).2.2.2.2.2 x).toNat = 0 ∧ _) ∨ (aPs (uPs s f i 2) (aFr s g).2.2.2.1.toNat ((aFr s g).2.2.2.2.2 x).toNat ≠ 0 ∧ ∃ d, _ ∧ _ ∧ (aPs (uPs s f i 2) (aFr s g).2.2.2.1.toNat ((aFr s g).2.2.2.2.2 x).toNat = 2 → _))
      rw [y1]
      exact k4.elim Or.inl (fun z => Or.inr ⟨z.1, by obtain ⟨d, z1, z2, z3⟩ := z.2; exact ⟨d, z1, z2, fun q => row_ (z3 q)⟩⟩)
  · rw [x8.2.1 55 (by decide)]; exact x5.1
  · obtain ⟨q1, q2, q3, q4, q5⟩ := prs_sub hT hi ho (getDn_mem hj)
    refine Or.inl ⟨?_, by rw [x8.2.1 58 (by decide)]; exact (x5.2 j hj).2.2⟩
    show (if f = f ∧ (prs_ (fg E s f) (fn E s f) 30 (i + 1)).getD j 0 = i then 2 else aPs s f ((prs_ (fg E s f) (fn E s f) 30 (i + 1)).getD j 0)) = 0
    rw [if_neg (by omega)]
    exact hun _ (by omega) q2
  · rw [x8.2.1 52 (by decide)]; exact x4.1
  · rw [x8.2.1 53 (by decide)]; exact x4.2.1
  · rw [x8.2.1 54 (by decide)]; exact x4.2.2
  · rw [x8.2.1 58 (by decide), (x5.2 j hj).2.2]
    exact ⟨by omega, by omega⟩
  · rw [x8.2.1 56 (by decide), x8.2.1 57 (by decide)]
    exact ⟨(x5.2 j hj).1, (x5.2 j hj).2.1⟩
end MPA
