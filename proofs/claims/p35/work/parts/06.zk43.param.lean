/-! A STRETCH COMES TO A PARAM; A PART IS OPENED -/
section PARM
variable {b : Nat} {C C' C'' C1 : Cd} {E : Env} {VA : Nat → Nat} {up : Int} {s s' s'' s1 : ASt} {r ra f i e : Nat} {acc acc2 acc3 : List Int}
theorem X2_argumentAt_ (hL : Lay b C) (hf : f < 41) {v : Nat} (hv : v < 10) : fX2_argumentAt (b + 169 + 4 * f) (v : Int) C = some (cE C (b + 169 + 4 * f + 1) v, C) := by
  have h1 := hL.fo hf
  have h2 := hL.fa hf
  have h3 := hL.fao hf
  have h4 := hL.fan hf
  unfold fX2_argumentAt
  rw [bnd_eq, bnd_eq, if_neg (by rw [w32_n (by omega)]; omega), if_pos h1, bnd_eq, drf_eq h2, if_pos h3, h4, if_neg (by rw [w32_n (by omega), w32_n (by omega)]; omega), if_pos h1, bnd_eq, drf_eq h2, if_pos ⟨h3, by rw [h4]; exact inR_n hv (by omega)⟩, ix_n (by omega)]
theorem X2_rowAt_ (hL : Lay b C) (hf : f < 41) {p : Nat} (hp : p < 30) : (cE C (b + 169 + 4 * f + 3) p = 0 → fX2_rowAt (b + 169 + 4 * f) (p : Int) C = some (none, C)) ∧ (cE C (b + 169 + 4 * f + 3) p = 1 → fX2_rowAt (b + 169 + 4 * f) (p : Int) C = some (cP C (b + 169 + 4 * f + 2) p, C)) := by
  have h1 := hL.fo hf
  have h2 := hL.fr hf
  have h3 := hL.fro hf
  have h4 := hL.frn hf
  have h5 := hL.fb hf
  have h6 := hL.fbo hf
  have h7 := hL.fbn hf
  refine ⟨fun z => ?_, fun z => ?_⟩
  · unfold fX2_rowAt
    rw [bnd_eq, bnd_eq, if_neg (by rw [w32_n (by omega)]; omega), if_pos h1, bnd_eq, drf_eq h2, if_pos h3, h4, if_neg (by rw [w32_n (by omega), w32_n (by omega)]; omega), if_pos h1, bnd_eq, drf_eq h5, if_pos ⟨h6, by rw [h7]; exact inR_n hp (by omega)⟩, ix_n (by omega), z, if_pos (by decide)]
  · unfold fX2_rowAt
    rw [bnd_eq, bnd_eq, if_neg (by rw [w32_n (by omega)]; omega), if_pos h1, bnd_eq, drf_eq h2, if_pos h3, h4, if_neg (by rw [w32_n (by omega), w32_n (by omega)]; omega), if_pos h1, bnd_eq, drf_eq h5, if_pos ⟨h6, by rw [h7]; exact inR_n hp (by omega)⟩, ix_n (by omega), z, if_neg (by decide), if_pos h1, bnd_eq, drf_eq h2, if_pos ⟨h3, by rw [h4]; exact inR_n hp (by omega)⟩, bnd_eq]
/-- a part's row is opened, a run on it begins -/
theorem part_new (h : Pre b C E VA up s r f ra i e acc) {g p : Nat} (hg : g < aNf s) (hp : p < fn E s g) (hm : mkB (fg E s g p / 1000) = true) (h0 : aPs s g p = 0) (hr : r < 511) :
   ∃ C' a, fX1_openPart (b + 1) (some (b + 169 + 4 * g)) (p : Int) C = some ((), C') ∧ a ≠ ra ∧ cP C' (b + 169 + 4 * g + 2) p = some a ∧ Sub b C C' E VA up s (uPs s g p 1) r f ra i e acc g a (p + 1) (fE (fg E s g) (fn E s g) p) [] := by
  have hh := h
  obtain ⟨h1, h2, h3, h4, ⟨hr0, hf41, h900, h901, h902⟩, h6⟩ := h
  have hL := h1.1
  have W := hL.W
  have hz := hL.sz
  have hI := h1.2.2.2.2.2.2.1
  have hn := hI.2.1
  have n30 := h1.n30 hg
  have hG := (h1.2.2.1 g hg).1
  obtain ⟨tf, tf1, tf2, tf3⟩ := (h1.2.2.2.1 g hg).1
  have nf0 := (h1.2.2.2.1 g hg).2.1.1
  have hT := h1.stl hg
  obtain ⟨C', a, e1, r1, cp1, ce1, v409, ⟨v1, v2, v3, v4⟩, f1, ho, hd⟩ := X1_openPart_ hL (f := g) (R := r + 1) (p := p) (by omega) (by omega) hp hI.2.2.1 (by omega) hG.1 hT (fun a ha => by
    have q := h1.2.1 g p a (by omega) (by omega) ha
    have ap := h1.2.2.2.2.2.2.2.2.apart W tf1 tf2 (by rw [tf3]; exact nf0.1) (a := a + 1) (Or.inr (Or.inr (Or.inl ⟨rfl, Or.inr (Or.inr (Or.inr (Or.inl ⟨a, ⟨g, p, by omega, by omega, ha⟩, rfl⟩)))⟩)))
    rw [tf3] at ap
    refine ⟨q.1, q.2.1, fun z => ?_, fun z => ap.1 z.symm, fun z => ap.2 z.symm, fun z => ?_⟩
    · have o1 := q.1.1
      have o2 := hT.1.1.1.2.2.2.1
      rw [z] at o1
      have := o1.2.symm.trans o2.2
      omega
    · have o1 := q.1.1
      have o2 := hT.1.isO_
      rw [z] at o1
      have := o1.2.symm.trans o2.2
      omega)
  have hdd : cP C (b + 169 + 4 * g + 2) p = some a ∨ (cP C (b + 169 + 4 * g + 2) p = none ∧ a = csz C) := hd.elim (fun z => Or.inl z.1) (fun z => Or.inr ⟨z.1, z.2.1⟩)
  obtain ⟨x1, x2, fX, dy⟩ := h1.part hg hp hm h0 (by omega) r1 cp1 ce1 v409 f1 ho hdd
  -- another row that is written is not this one
  have nea : ∀ a', CurR b C E s a' → a' ≠ a := fun a' ha' z => by
    subst z
    rcases ha' with e0 | ⟨cf, cp, c1, c2, c3, c4, c5⟩
    · rcases hdd with y | ⟨_, y⟩
      · have := (h1.2.1 g p a' (by omega) (by omega) y).2.1
        omega
      · omega
    · rcases hdd with y | ⟨_, y⟩
      · have q := (h1.2.1 g p a' (by omega) (by omega) y).2.2 cf cp (by omega) (by have := h1.n30 c1; omega) c5
        rw [q.1, q.2, h0] at c4
        exact absurd c4 (by decide)
      · have := W a' (h1.2.1 cf cp a' (by omega) (by have := h1.n30 c1; omega) c5).1.1.1
        omega
  have pk : ∀ f', f' < 41 → ∀ x, ¬ (f' = g ∧ x = p) → cP C' (b + 169 + 4 * f' + 2) x = cP C (b + 169 + 4 * f' + 2) x := fun f' hf' x hne => by
    by_cases e : f' = g
    · subst e
      exact (ho x (fun z => hne ⟨rfl, z⟩)).1
    · exact f1.fP (W _ (hL.fro hf').1) (by unfold sPt sRow sRun; omega) x
  have rows : ∀ a' q, CurR b C E s a' → RowV C a' q → RowV C' a' q ∧ CurR b C' E (uPs s g p 1) a' := fun a' q q1 q3 => by
    have c0 := h1.cur0 q1
    have ne := nea a' q1
    refine ⟨q3.fp W f1 (by unfold sPt sRow sRun; omega) (by unfold sPt sRow sRun; omega) (by unfold sPt sRow sRun; omega) (by unfold sPt sRow sRun; omega), ?_⟩
    rcases q1 with e0 | ⟨cf, cp, c1, c2, c3, c4, c5⟩
    · exact Or.inl e0
    · have hne : ¬ (cf = g ∧ cp = p) := fun z => by
        rw [z.1, z.2, h0] at c4
        exact absurd c4 (by decide)
      exact Or.inr ⟨cf, cp, c1, c2, c3, (if_neg hne).trans c4, (pk cf (by omega) cp hne).trans c5⟩
  have rm : Rm b C C' := by
    rcases hd with ⟨y1, y2, y3⟩ | ⟨y1, y2, y3, y4⟩
    · refine Rm.same ⟨y2, y3⟩ (fun f' hf' x => ?_)
      by_cases e : f' = g ∧ x = p
      · rw [e.1, e.2, cp1, y1]
      · exact pk f' hf' x e
    · exact Rm.new ⟨y3, y4⟩ (show g < 41 by omega) (show p < 30 by omega) y1 cp1 pk
  have k1 : Keep b C C' E s (uPs s g p 1) r ra := by
    refine ⟨fun r' hr' => ?_, fun a' q q1 _ q3 => rows a' q q1 q3, Nat.le_refl _, fun _ _ => rfl, fX, dy, rm⟩
    have zU := W _ (hL.uo (show r' < 512 by omega)).1
    exact ⟨f1.fR zU (by unfold sPt sRow sRun; omega), f1.fR zU (by unfold sPt sRow sRun; omega), f1.fI zU (by unfold sPt sRow sRun; omega), f1.fI zU (by unfold sPt sRow sRun; omega)⟩
  have hra := rows ra acc h3 h4
  have zU := W _ (hL.uo hr0).1
  refine ⟨C', a, e1, fun z => nea ra h3 z.symm, cp1, ⟨x1, h2.touch hg 1, x2, r1, ⟨by omega, by omega, v1, v2, v3.trans (by omega)⟩, v4⟩, ⟨hr0, hf41, (f1.fR zU (by unfold sPt sRow sRun; omega)).trans h900, (f1.fR zU (by unfold sPt sRow sRun; omega)).trans h901, (f1.fI zU (by unfold sPt sRow sRun; omega)).trans h902⟩, (f1.fI zU (by unfold sPt sRow sRun; omega)).trans h6, hra.2, hra.1, k1, fun a' q1 _ => nea a' q1⟩
/-- a PARAM of no argument -/
theorem seg_param_none (h : Pre b C E VA up s r f ra i e acc) (hf : f < aNf s) (hi : i < fn E s f) (ek : fg E s f i / 1000 = 3) (hx : (aFr s f).2.2.2.2.2 (fg E s f i % 1000).toNat = -1 ∨ (aFr s f).2.2.2.1 = -1) : ∃ C', fX1_stepOn (b + 1) (some (b + 333 + r)) C = some ((), C') ∧ Post b C C' E VA up s s r f ra (i + 1) e acc := by
  have hF := h.1.2.2.1 f hf
  have hFP := h.1.2.2.2.1 f hf
  have hok := hFP.2.2.1 i hi
  unfold okt at hok
  have hv9 := hok.2.2.2.2.1 (Or.inl ek)
  obtain ⟨v, hv⟩ : ∃ v : Nat, fg E s f i % 1000 = (v : Int) := ⟨(fg E s f i % 1000).toNat, by omega⟩
  rw [hv, Int.toNat_natCast] at hx
  have hL := h.1.1
  obtain ⟨hr0, hf41, h900, h901, h902⟩ := h.2.2.2.2.1
  have ha := X2_argumentAt_ hL hf41 (show v < 10 by omega)
  rw [hF.2.2 v (by omega)] at ha
  have hc : fX1_giveArgument (b + 1) (some (b + 333 + r)) (fg E s f i % 1000) C = some (1, C) := by
    rw [hv]
    unfold fX1_giveArgument
    rw [drf_some, if_pos (hL.uo hr0), bnd_eq, drf_eq h900, if_pos (hL.fo hf41), cal_of ha, bnd_eq]
    rcases hFP.2.2.2 v (by omega) with y | ⟨y1, y2, y3, y4, y5⟩
    · rw [y, if_pos rfl]
    · have hc1 := hx.resolve_left (by omega)
      omega
  have hs := step_param1 hL h.2.2.2.2.1 hF.1.1 (h.1.stl hf) hi ek hc (hL.uo hr0)
  rw [h902] at hs
  exact ⟨_, hs, post_at h (i + 1)⟩
end PARM
