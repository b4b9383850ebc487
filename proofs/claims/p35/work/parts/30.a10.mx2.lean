/-! runX over a text of macros -/
def FrK (En : Env) (s : ASt) (f n : Nat) (ts T : List Nat) : Prop := (aFr s f).2.2.1 + n = 6 ∧ ChF s ts f ∧ ts.length + n = 7 ∧ okT T ∧ T.length ≤ 5 ∧ fn En s f = (tks T).length ∧ ∀ p, p < (tks T).length → fg En s f p = (tks T).getD p 0
def EnT (En : Env) (tm : Nat → List Nat) : Prop := ∀ t, t < 8 → eSn En t ≠ -1 → okT (tm (eSn En t).toNat) ∧ (1 ≤ (tm (eSn En t).toNat).length ∧ (tm (eSn En t).toNat).length ≤ 5) ∧ eTl En (eSn En t).toNat = (tks (tm (eSn En t).toNat)).length ∧ ∀ p, p < (tks (tm (eSn En t).toNat)).length → eTx En (eSn En t).toNat p = (tks (tm (eSn En t).toNat)).getD p 0
def mOut (En : Env) (tm : Nat → List Nat) (n f P : Nat) (ts T : List Nat) (s : ASt) (A : MSt) (acc' : List Int) (s' : ASt) : Prop := mTu acc' s' = mX En tm n ts T A ∧ aNf s ≤ aNf s' ∧ (∀ g, g < aNf s → aFr s' g = aFr s g) ∧ (∀ g p, g < aNf s → (g ≠ f ∨ p < P) → aPs s' g p = aPs s g p) ∧ (∀ g p, aNf s' ≤ g → aPs s' g p = 0) ∧ aUs s' = aUs s
theorem tks_take {T : List Nat} {k : Nat} (hk : k < T.length) : tks (T.take (k + 1)) = tks (T.take k) ++ cdL (T.getD k 0) := by
  rw [take_snoc hk, tks_app]
  show _ ++ (cdL (T.getD k 0) ++ []) = _
  rw [List.append_nil]
theorem tks_take_le {T : List Nat} {k : Nat} : (tks (T.take k)).length ≤ (tks T).length := by
  have e : tks T = tks (T.take k) ++ tks (T.drop k) := by rw [← tks_app, List.take_append_drop]
  rw [e, List.length_append]
  omega
theorem tks_at {T : List Nat} {k j : Nat} (hk : k < T.length) (hj : j < (cdL (T.getD k 0)).length) : (tks T).getD ((tks (T.take k)).length + j) 0 = (cdL (T.getD k 0)).getD j 0 := by
  have e : tks T = tks (T.take (k + 1)) ++ tks (T.drop (k + 1)) := by rw [← tks_app, List.take_append_drop]
  rw [e, tks_take hk, List.append_assoc, List.getD_eq_getElem?_getD, List.getElem?_append_right (by omega), List.getElem?_append_left (by omega), ← List.getD_eq_getElem?_getD, show (tks (T.take k)).length + j - (tks (T.take k)).length = j by omega]
theorem drop_at {T : List Nat} {k : Nat} (hk : k < T.length) : T.drop k = T.getD k 0 :: T.drop (k + 1) := by
  rw [List.drop_eq_getElem_cons hk, List.getD_eq_getElem?_getD, List.getElem?_eq_getElem hk]
  rfl
theorem getD_mm {T : List Nat} {k : Nat} (hk : k < T.length) : T.getD k 0 ∈ T := by
  rw [List.getD_eq_getElem?_getD, List.getElem?_eq_getElem hk]
  exact List.getElem_mem hk
theorem wayF_rng {En : Env} {tm : Nat → List Nat} (hE : EnT En tm) : ∀ (n t S : Nat), t < 8 → (wayF En n t S).1 = -1 ∨ ∃ w : Nat, w < 8 ∧ (wayF En n t S).1 = (w : Int) ∧ eSn En w ≠ -1 := by
  intro n
  induction n with
  | zero => intro t S _; exact Or.inl rfl
  | succ n ih =>
    intro t S ht
    rw [wayF]
    by_cases c : eSn En t = -1
    · rw [if_pos c]; exact Or.inl rfl
    · rw [if_neg c]
      obtain ⟨h1, h2, h3, h4⟩ := hE t ht c
      have l := tks_len (tm (eSn En t).toNat)
      have e0 := h4 0 (by omega)
      rw [tks_0 h2.1] at e0
      have ok := h1.1 _ (getD_mm (k := 0) (T := tm (eSn En t).toNat) (by omega))
      obtain ⟨c1, c2⟩ := cd2_0 ok.1 ok.v60
      by_cases d : eTx En (eSn En t).toNat 0 / 1000 = 12
      · rw [if_pos d]
        have k10 := c1.mp (by rw [← e0.symm.trans rfl] at d; exact d)
        have e5 : eTx En (eSn En t).toNat 0 % 1000 = (((tm (eSn En t).toNat).getD 0 0 / 16 : Nat) : Int) := by rw [e0]; exact c2 k10
        have v8 := ok.2.2.2 (by omega) (by omega) (by omega)
        exact ih _ _ (by rw [e5]; exact v8)
      · rw [if_neg d]
        exact Or.inr ⟨t, ht, rfl, c⟩
theorem mTu_eq {acc : List Int} {s : ASt} {a b c d e : Nat} (h1 : aCa s = a) (h2 : aLk s = b) (h3 : aCt s = c) (h4 : aRd s = d) (h5 : aCd s = e) : mTu acc s = (acc, a, b, c, d, e) := by
  unfold mTu
  rw [h1, h2, h3, h4, h5]
section MX2
variable {En : Env} {tm : Nat → List Nat}
theorem FrK.keep {s s1 : ASt} {f n : Nat} {ts T : List Nat} (h : FrK En s f n ts T) (hf : f < aNf s) (e : ∀ g, g < aNf s → aFr s1 g = aFr s g) : FrK En s1 f n ts T := by
  obtain ⟨h1, h2, h3, h4, h5, h6, h7⟩ := h
  have ef := e f hf
  refine ⟨by rw [ef]; exact h1, h2.mono ts f (aNf s) hf e, h3, h4, h5, ?_, fun p hp => ?_⟩
  · show eTl En (aFr s1 f).1 = _
    rw [ef]; exact h6
  · show eTx En (aFr s1 f).1 p = _
    rw [ef]; exact h7 p hp
theorem runX_m (hE : EnT En tm) : ∀ (MM m : Nat), m < MM → ∀ (n f r t : Nat) (ts T : List Nat) (k : Nat) (acc : List Int) (s : ASt) (acc' : List Int) (s' : ASt), FrK En s f n ts T → k ≤ T.length → (∀ p, (tks (T.take k)).length ≤ p → aPs s f p = 0) → (∀ g p, aNf s ≤ g → aPs s g p = 0) → f < aNf s → runX En m false r t f (tks (T.take k)).length (tks T).length acc s = some (acc', s') → mOut En tm n f (tks (T.take k)).length ts (T.drop k) s (mTu acc s) acc' s' := by
  intro MM
  induction MM with
  | zero => intro m h; exact absurd h (Nat.not_lt_zero _)
  | succ MM ihM =>
    intro m hmm n f r t ts T k acc s acc' s' hF hk hu hnew hf h
    have ih : ∀ m1, m1 < m → ∀ (n f r t : Nat) (ts T : List Nat) (k : Nat) (acc : List Int) (s : ASt) (acc' : List Int) (s' : ASt), FrK En s f n ts T → k ≤ T.length → (∀ p, (tks (T.take k)).length ≤ p → aPs s f p = 0) → (∀ g p, aNf s ≤ g → aPs s g p = 0) → f < aNf s → runX En m1 false r t f (tks (T.take k)).length (tks T).length acc s = some (acc', s') → mOut En tm n f (tks (T.take k)).length ts (T.drop k) s (mTu acc s) acc' s' := fun m1 h1 => ihM m1 (by omega)
    rcases Nat.lt_or_ge k T.length with hlt | hge
    · have hF0 := hF
      obtain ⟨f1, f2, f3, f4, f5, f6, f7⟩ := hF
      have ok := f4.1 _ (getD_mm hlt)
      have hv60 := ok.v60
      have l2 : (tks (T.take (k + 1))).length = (tks (T.take k)).length + (cdL (T.getD k 0)).length := by rw [tks_take hlt, List.length_append]
      have l3 : (tks (T.take (k + 1))).length ≤ (tks T).length := tks_take_le
      have at_ : ∀ j, j < (cdL (T.getD k 0)).length → fg En s f ((tks (T.take k)).length + j) = (cdL (T.getD k 0)).getD j 0 := fun j hj => by
        rw [f7 _ (by omega)]
        exact tks_at hlt hj
      rw [drop_at hlt]
      have go : ∀ (m1 : Nat) (acc1 : List Int) (s1 : ASt), m1 < m → runX En m1 false r t f (tks (T.take (k + 1))).length (tks T).length acc1 s1 = some (acc', s') → aNf s ≤ aNf s1 → (∀ g, g < aNf s → aFr s1 g = aFr s g) → (∀ g p, g < aNf s → (g ≠ f ∨ p < (tks (T.take k)).length ∨ (tks (T.take (k + 1))).length ≤ p) → aPs s1 g p = aPs s g p) → (∀ g p, aNf s1 ≤ g → aPs s1 g p = 0) → mTu acc1 s1 = mSK En tm n (mXr En tm n) ts (mTu acc s) (T.getD k 0 % 16) (T.getD k 0 / 16) → aUs s1 = aUs s → mOut En tm n f (tks (T.take k)).length ts (T.getD k 0 :: T.drop (k + 1)) s (mTu acc s) acc' s' := by
        intro m1 acc1 s1 q0 q1 q2 q3 q4 q5 q6 q7
        obtain ⟨z1, z2, z3, z4, z5, z6⟩ := ih m1 q0 n f r t ts T (k + 1) acc1 s1 acc' s' (hF0.keep hf q3) hlt (fun p hp => by rw [q4 f p hf (Or.inr (Or.inr hp))]; exact hu p (by omega)) q5 (by omega) q1
        refine ⟨?_, by omega, fun g hg => (z3 g (by omega)).trans (q3 g hg), fun g p hg hp => (z4 g p (by omega) (by omega)).trans (q4 g p hg (by omega)), z5, z6.trans q7⟩
        rw [z1, q6, mX_cons]
      have p0 : fg En s f (tks (T.take k)).length = (cdL (T.getD k 0)).getD 0 0 := at_ 0 (by have := (cdL_len (T.getD k 0)).1; omega)
      have f6' : (tks (T.take (k + 1))).length ≤ fn En s f := by rw [f6]; exact l3
      unfold cdL at p0 l2 at_
      obtain ⟨ok1, ok2, ok3, ok4⟩ := ok
      generalize hkd : T.getD k 0 % 16 = kd at *
      generalize hvv : T.getD k 0 / 16 = v at *
      -- a plain token
      have pl : ∀ x : Int, cdM kd v = [x] → opB (x / 1000) = false → (∃ m', m = m' + 1 ∧ (if x / 1000 = 0 then runX En m' false r t f (tks (T.take (k + 1))).length (tks T).length (apl acc (x % 1000)) s
          else if x / 1000 = 1 ∨ x / 1000 = 12 then runX En m' false r t f (tks (T.take (k + 1))).length (tks T).length (apl acc (1000 + x % 1000)) (uSe s (2 ^ (x % 1000).toNat) 0 0 0 0)
          else if x / 1000 = 11 then runX En m' false r t f (tks (T.take (k + 1))).length (tks T).length acc (uSe s 0 (2 ^ (x % 1000).toNat) 0 0 0)
          else runX En m' false r t f (tks (T.take (k + 1))).length (tks T).length acc s) = some (acc', s')) := by
        intro x hx ho
        rw [hx] at p0 l2
        have p0' : fg En s f (tks (T.take k)).length = x := p0
        have l2' : (tks (T.take (k + 1))).length = (tks (T.take k)).length + 1 := l2
        obtain ⟨m', e1, e2⟩ := rX_pl h (by omega) (by rw [p0']; exact ho)
        rw [p0', ← l2'] at e2
        exact ⟨m', e1, e2⟩
      have rfs : ∀ g, g < aNf s → aFr s g = aFr s g := fun _ _ => rfl
      rcases (show kd = 0 ∨ kd = 1 ∨ kd = 2 ∨ kd = 3 ∨ kd = 4 ∨ kd = 5 ∨ kd = 6 ∨ kd = 7 ∨ kd = 8 ∨ kd = 9 ∨ kd = 10 by omega) with a | a | a | a | a | a | a | a | a | a | a <;> subst a
      · obtain ⟨m', e1, e2⟩ := pl (v : Int) rfl (by rw [show (v : Int) / 1000 = 0 by omega]; rfl)
        rw [if_pos (by omega), show (v : Int) % 1000 = (v : Int) by omega] at e2
        exact go m' _ s (by omega) e2 (Nat.le_refl _) rfs (fun _ _ _ _ => rfl) hnew rfl rfl
      · obtain ⟨m', e1, e2⟩ := pl (1000 + (v : Int)) rfl (by rw [show (1000 + (v : Int)) / 1000 = 1 by omega]; rfl)
        rw [if_neg (by omega), if_pos (by omega), show (1000 + (v : Int)) % 1000 = (v : Int) by omega, show ((v : Nat) : Int).toNat = v from rfl] at e2
        refine go m' _ _ (by omega) e2 (Nat.le_refl _) rfs (fun _ _ _ _ => rfl) hnew ?_ (Nat.or_zero _)
        exact mTu_eq rfl rfl (Nat.or_zero _) (Nat.or_zero _) (Nat.or_zero _)
      · -- CALL
        have v8 : v < 8 := ok4 (by decide) (by decide) (by decide)
        have g1 := at_ 1 (by show 1 < 2; decide)
        have p0' : fg En s f (tks (T.take k)).length = 2000 + (v : Int) := p0
        have g1' : fg En s f ((tks (T.take k)).length + 1) = 7000 := g1
        have l2' : (tks (T.take (k + 1))).length = (tks (T.take k)).length + 2 := l2
        have e : fE (fg En s f) (fn En s f) (tks (T.take k)).length = (tks (T.take k)).length + 1 := fE2 (g := fg En s f) (by rw [g1']; decide) (by omega)
        obtain ⟨m, rfl⟩ := rX0 h
        rw [runX] at h
        obtain ⟨-, h⟩ := itS h
        rw [if_neg (by omega), p0', show (2000 + (v : Int)) / 1000 = 2 by omega, if_pos (by rfl)] at h
        obtain ⟨-, h⟩ := itS h
        obtain ⟨-, h⟩ := itS h
        obtain ⟨-, h⟩ := itS h
        rw [if_neg (by omega), if_pos rfl, e, show (2000 + (v : Int)) % 1000 = (v : Int) by omega, show ((v : Nat) : Int).toNat = v from rfl, show (tks (T.take k)).length + 1 + 1 = (tks (T.take (k + 1))).length by omega] at h
        have pp : ∀ g p, g < aNf s → (g ≠ f ∨ p < (tks (T.take k)).length ∨ (tks (T.take (k + 1))).length ≤ p) → aPs (uPs s f (tks (T.take k)).length 2) g p = aPs s g p := fun g p _ hp => by
          show (if g = f ∧ p = (tks (T.take k)).length then 2 else aPs s g p) = _
          rw [if_neg (by omega)]
        have pn : ∀ g p, aNf s ≤ g → aPs (uPs s f (tks (T.take k)).length 2) g p = 0 := fun g p hg => by
          show (if g = f ∧ p = (tks (T.take k)).length then 2 else aPs s g p) = _
          rw [if_neg (by omega)]
          exact hnew g p hg
        by_cases c1 : 40 ≤ aCa s
        · rw [if_pos c1] at h
          refine go m _ _ (Nat.lt_succ_self m) h (Nat.le_refl _) rfs pp pn ?_ rfl
          unfold mSK
          rw [if_pos rfl, if_pos (show 40 ≤ (mTu acc s).2.1 from c1)]
          rfl
        · rw [if_neg c1] at h
          rcases wayF_rng hE 5 v 0 v8 with w | ⟨w, w1, w2, w3⟩
          · rw [if_pos w] at h
            refine go m _ _ (Nat.lt_succ_self m) h (Nat.le_refl _) rfs pp pn ?_ (Nat.or_zero _)
            unfold mSK
            rw [if_pos rfl, if_neg (show ¬ 40 ≤ (mTu acc s).2.1 from c1), if_pos w]
            exact mTu_eq rfl rfl (Nat.or_zero _) rfl (Nat.or_zero _)
          · rw [w2, if_neg (by omega), show ((w : Nat) : Int).toNat = w from rfl] at h
            have cm := f2.cm (x := w) ts f 41 (by omega)
            by_cases c2 : w ∈ ts
            · rw [if_pos (cm.mpr c2)] at h
              refine go m _ _ (Nat.lt_succ_self m) h (Nat.le_refl _) rfs pp pn ?_ (Nat.or_zero _)
              unfold mSK
              rw [if_pos rfl, if_neg (show ¬ 40 ≤ (mTu acc s).2.1 from c1), w2, if_neg (by omega), show ((w : Nat) : Int).toNat = w from rfl, if_pos c2]
              exact mTu_eq rfl (Nat.or_zero _) (Nat.or_zero _) rfl (Nat.or_zero _)
            · rw [if_neg (fun z => c2 (cm.mp z))] at h
              by_cases c3 : n = 0
              · rw [if_pos (by omega)] at h
                refine go m _ _ (Nat.lt_succ_self m) h (Nat.le_refl _) rfs pp pn ?_ (Nat.or_zero _)
                unfold mSK
                rw [if_pos rfl, if_neg (show ¬ 40 ≤ (mTu acc s).2.1 from c1), w2, if_neg (by omega), show ((w : Nat) : Int).toNat = w from rfl, if_neg c2, if_pos c3]
                exact mTu_eq rfl (Nat.or_zero _) (Nat.or_zero _) rfl (Nat.or_zero _)
              · rw [if_neg (by omega)] at h
                obtain ⟨n, rfl⟩ : ∃ n', n = n' + 1 := ⟨n - 1, by omega⟩
                obtain ⟨q, h1, h2⟩ := Option.bind_eq_some_iff.mp h
                obtain ⟨x1, x2, x3, x4⟩ := hE w w1 w3
                generalize hTw : tm (eSn En w).toNat = T1 at *
                have fr : ∀ g, g < aNf s → aFr (uFr (uSe (uCa (uPs s f (tks (T.take k)).length 2)) 0 0 (wayF En 5 v 0).2 0 0) ((eSn En w).toNat, w, (aFr s f).2.2.1 + 1, (f : Int), (tks (T.take k)).length, agF (fg En s f) (prs_ (fg En s f) (fn En s f) 30 ((tks (T.take k)).length + 1)) 0 (fun _ => -1))) g = aFr s g := fun g hg => by
                  show (if g = aNf s then _ else aFr s g) = _
                  rw [if_neg (by omega)]
                have fr2 : aFr (uFr (uSe (uCa (uPs s f (tks (T.take k)).length 2)) 0 0 (wayF En 5 v 0).2 0 0) ((eSn En w).toNat, w, (aFr s f).2.2.1 + 1, (f : Int), (tks (T.take k)).length, agF (fg En s f) (prs_ (fg En s f) (fn En s f) 30 ((tks (T.take k)).length + 1)) 0 (fun _ => -1))) (aNf s) = ((eSn En w).toNat, w, (aFr s f).2.2.1 + 1, (f : Int), (tks (T.take k)).length, agF (fg En s f) (prs_ (fg En s f) (fn En s f) 30 ((tks (T.take k)).length + 1)) 0 (fun _ => -1)) := by
                  show (if aNf s = aNf s then _ else aFr s (aNf s)) = _
                  rw [if_pos rfl]
                have mt : mTu acc (uFr (uSe (uCa (uPs s f (tks (T.take k)).length 2)) 0 0 (wayF En 5 v 0).2 0 0) ((eSn En w).toNat, w, (aFr s f).2.2.1 + 1, (f : Int), (tks (T.take k)).length, agF (fg En s f) (prs_ (fg En s f) (fn En s f) 30 ((tks (T.take k)).length + 1)) 0 (fun _ => -1))) = (acc, aCa s + 1, aLk s, aCt s, aRd s ||| (wayF En 5 v 0).2, aCd s) := mTu_eq rfl (Nat.or_zero _) (Nat.or_zero _) rfl (Nat.or_zero _)
                have us : aUs (uFr (uSe (uCa (uPs s f (tks (T.take k)).length 2)) 0 0 (wayF En 5 v 0).2 0 0) ((eSn En w).toNat, w, (aFr s f).2.2.1 + 1, (f : Int), (tks (T.take k)).length, agF (fg En s f) (prs_ (fg En s f) (fn En s f) 30 ((tks (T.take k)).length + 1)) 0 (fun _ => -1))) = aUs s := Nat.or_zero _
                have nf : aNf (uFr (uSe (uCa (uPs s f (tks (T.take k)).length 2)) 0 0 (wayF En 5 v 0).2 0 0) ((eSn En w).toNat, w, (aFr s f).2.2.1 + 1, (f : Int), (tks (T.take k)).length, agF (fg En s f) (prs_ (fg En s f) (fn En s f) 30 ((tks (T.take k)).length + 1)) 0 (fun _ => -1))) = aNf s + 1 := rfl
                have ps : aPs (uFr (uSe (uCa (uPs s f (tks (T.take k)).length 2)) 0 0 (wayF En 5 v 0).2 0 0) ((eSn En w).toNat, w, (aFr s f).2.2.1 + 1, (f : Int), (tks (T.take k)).length, agF (fg En s f) (prs_ (fg En s f) (fn En s f) 30 ((tks (T.take k)).length + 1)) 0 (fun _ => -1))) = aPs (uPs s f (tks (T.take k)).length 2) := rfl
                generalize uFr (uSe (uCa (uPs s f (tks (T.take k)).length 2)) 0 0 (wayF En 5 v 0).2 0 0) ((eSn En w).toNat, w, (aFr s f).2.2.1 + 1, (f : Int), (tks (T.take k)).length, agF (fg En s f) (prs_ (fg En s f) (fn En s f) 30 ((tks (T.take k)).length + 1)) 0 (fun _ => -1)) = S1 at *
                have cc : ChF S1 (w :: ts) (aNf s) := by
                  cases ts with
                  | nil => exact absurd f2 (fun z => z)
                  | cons y l => exact ⟨by rw [fr2], f, by rw [fr2], hf, f2.mono _ f (aNf s) hf fr⟩
                have K1 : FrK En S1 (aNf s) n (w :: ts) T1 := by
                  refine ⟨by rw [fr2]; show (aFr s f).2.2.1 + 1 + n = 6; omega, cc, by rw [List.length_cons]; omega, x1, x2.2, ?_, fun p hp => ?_⟩
                  · show eTl En (aFr S1 (aNf s)).1 = _
                    rw [fr2]; exact x3
                  · show eTx En (aFr S1 (aNf s)).1 p = _
                    rw [fr2]; exact x4 p hp
                rw [x3] at h1
                obtain ⟨y1, y2, y3, y4, y5, y6⟩ := ih m (Nat.lt_succ_self m) n (aNf s) (r + 1) (t + 1) (w :: ts) T1 0 acc S1 q.1 q.2 K1 (Nat.zero_le _) (fun p _ => by rw [ps]; exact pn _ p (Nat.le_refl _)) (fun g p hg => by rw [ps]; exact pn g p (by omega)) (by omega) h1
                refine go m q.1 q.2 (Nat.lt_succ_self m) h2 (by omega) (fun g hg => (y3 g (by omega)).trans (fr g hg)) (fun g p hg hp => ?_) y5 ?_ (y6.trans us)
                · rw [y4 g p (by omega) (Or.inl (by omega)), ps]
                  exact pp g p hg hp
                · rw [y1, mt, List.drop_zero]
                  unfold mSK
                  rw [if_pos rfl, if_neg (show ¬ 40 ≤ (mTu acc s).2.1 from c1), w2, if_neg (by omega), show ((w : Nat) : Int).toNat = w from rfl, if_neg c2, if_neg c3, hTw]
                  rfl
      · obtain ⟨m', e1, e2⟩ := pl (11000 + (v : Int)) rfl (by rw [show (11000 + (v : Int)) / 1000 = 11 by omega]; rfl)
        rw [if_neg (by omega), if_neg (by omega), if_pos (by omega), show (11000 + (v : Int)) % 1000 = (v : Int) by omega, show ((v : Nat) : Int).toNat = v from rfl] at e2
        refine go m' _ _ (by omega) e2 (Nat.le_refl _) rfs (fun _ _ _ _ => rfl) hnew ?_ (Nat.or_zero _)
        exact mTu_eq rfl (Nat.or_zero _) rfl (Nat.or_zero _) (Nat.or_zero _)
      · obtain ⟨m', e1, e2⟩ := pl 13000 rfl (by decide)
        rw [if_neg (by decide), if_neg (by decide), if_neg (by decide)] at e2
        exact go m' _ _ (by omega) e2 (Nat.le_refl _) rfs (fun _ _ _ _ => rfl) hnew rfl rfl
      · have v8 : v < 8 := ok4 (by decide) (by decide) (by decide)
        have l2' : (tks (T.take (k + 1))).length = (tks (T.take k)).length + 4 := l2
        obtain ⟨m', s1, s2, e0, e1, rfl, e3, e4, e5, e6⟩ := rX_fn (k := 4) h (by decide) v8 p0 (at_ 1 (by show 1 < 4; decide)) (at_ 2 (by show 2 < 4; decide)) (at_ 3 (by show 3 < 4; decide)) (by omega) (by omega) (hu _ (by omega))
        rw [← l2'] at e1
        refine go m' _ _ e0 e1 (by show aNf s ≤ aNf s2; omega) (fun g _ => by show aFr s2 g = _; rw [e4]) (fun g p _ hp => e6 g p (by omega)) (fun g p hg => ?_) ?_ ((Nat.or_zero _).trans (congrArg (fun x => x.2.2.2.2.2) e5))
        · have hg2 : aNf s ≤ g := by have : aNf s2 ≤ g := hg; omega
          exact (e6 g p (by omega)).trans (hnew g p hg2)
        · obtain ⟨_, _, _, _, s25⟩ := s2
          have e5' : s25 = s.2.2.2.2 := e5
          subst e5'
          exact mTu_eq rfl (Nat.or_zero _) (Nat.or_zero _) (Nat.or_zero _) rfl
      · have v8 : v < 8 := ok4 (by decide) (by decide) (by decide)
        have l2' : (tks (T.take (k + 1))).length = (tks (T.take k)).length + 4 := l2
        obtain ⟨m', s1, s2, e0, e1, rfl, e3, e4, e5, e6⟩ := rX_fn (k := 5) h (by decide) v8 p0 (at_ 1 (by show 1 < 4; decide)) (at_ 2 (by show 2 < 4; decide)) (at_ 3 (by show 3 < 4; decide)) (by omega) (by omega) (hu _ (by omega))
        rw [← l2'] at e1
        refine go m' _ _ e0 e1 (by show aNf s ≤ aNf s2; omega) (fun g _ => by show aFr s2 g = _; rw [e4]) (fun g p _ hp => e6 g p (by omega)) (fun g p hg => ?_) ?_ ((Nat.or_zero _).trans (congrArg (fun x => x.2.2.2.2.2) e5))
        · have hg2 : aNf s ≤ g := by have : aNf s2 ≤ g := hg; omega
          exact (e6 g p (by omega)).trans (hnew g p hg2)
        · obtain ⟨_, _, _, _, s25⟩ := s2
          have e5' : s25 = s.2.2.2.2 := e5
          subst e5'
          exact mTu_eq rfl rfl (Nat.or_zero _) (Nat.or_zero _) rfl
      · have v8 : v < 8 := ok4 (by decide) (by decide) (by decide)
        have l2' : (tks (T.take (k + 1))).length = (tks (T.take k)).length + 4 := l2
        obtain ⟨m', s1, s2, e0, e1, rfl, e3, e4, e5, e6⟩ := rX_fn (k := 3) h (by decide) v8 p0 (at_ 1 (by show 1 < 4; decide)) (at_ 2 (by show 2 < 4; decide)) (at_ 3 (by show 3 < 4; decide)) (by omega) (by omega) (hu _ (by omega))
        rw [← l2'] at e1
        refine go m' _ _ e0 e1 (by show aNf s ≤ aNf s2; omega) (fun g _ => by show aFr s2 g = _; rw [e4]) (fun g p _ hp => e6 g p (by omega)) (fun g p hg => ?_) ?_ ((Nat.or_zero _).trans (congrArg (fun x => x.2.2.2.2.2) e5))
        · have hg2 : aNf s ≤ g := by have : aNf s2 ≤ g := hg; omega
          exact (e6 g p (by omega)).trans (hnew g p hg2)
        · obtain ⟨_, _, _, _, s25⟩ := s2
          have e5' : s25 = s.2.2.2.2 := e5
          subst e5'
          exact mTu_eq rfl (Nat.or_zero _) (Nat.or_zero _) rfl (Nat.or_zero _)
      · have l2' : (tks (T.take (k + 1))).length = (tks (T.take k)).length + 3 := l2
        obtain ⟨m', s1, e0, e1, rfl⟩ := rX_89 (k := 8) h (by decide) (by omega) p0 (at_ 1 (by show 1 < 3; decide)) (at_ 2 (by show 2 < 3; decide)) (by omega) (by omega)
        rw [← l2'] at e1
        refine go m' _ _ e0 e1 (Nat.le_refl _) rfs (fun g p _ hp => ?_) (fun g p hg => ?_) ?_ rfl
        · show (if g = f ∧ p = (tks (T.take k)).length then 2 else aPs s g p) = _
          rw [if_neg (by omega)]
        · show (if g = f ∧ p = (tks (T.take k)).length then 2 else aPs s g p) = _
          have hg2 : aNf s ≤ g := hg
          rw [if_neg (by omega)]
          exact hnew g p hg2
        · show _ = (if n < 6 then (apl acc (v : Int), (mTu acc s).2) else mTu acc s)
          by_cases c : n < 6
          · rw [if_pos c, if_pos (show (8 = 8 ∧ 0 < (aFr s f).2.2.1) ∨ (8 = 9 ∧ (aFr s f).2.2.1 = 0) from Or.inl ⟨rfl, by omega⟩)]; rfl
          · rw [if_neg c, if_neg (show ¬ ((8 = 8 ∧ 0 < (aFr s f).2.2.1) ∨ (8 = 9 ∧ (aFr s f).2.2.1 = 0)) by omega)]; rfl
      · have l2' : (tks (T.take (k + 1))).length = (tks (T.take k)).length + 3 := l2
        obtain ⟨m', s1, e0, e1, rfl⟩ := rX_89 (k := 9) h (by decide) (by omega) p0 (at_ 1 (by show 1 < 3; decide)) (at_ 2 (by show 2 < 3; decide)) (by omega) (by omega)
        rw [← l2'] at e1
        refine go m' _ _ e0 e1 (Nat.le_refl _) rfs (fun g p _ hp => ?_) (fun g p hg => ?_) ?_ rfl
        · show (if g = f ∧ p = (tks (T.take k)).length then 2 else aPs s g p) = _
          rw [if_neg (by omega)]
        · show (if g = f ∧ p = (tks (T.take k)).length then 2 else aPs s g p) = _
          have hg2 : aNf s ≤ g := hg
          rw [if_neg (by omega)]
          exact hnew g p hg2
        · show _ = (if n < 6 then mTu acc s else (apl acc (v : Int), (mTu acc s).2))
          by_cases c : n < 6
          · rw [if_pos c, if_neg (show ¬ ((9 = 8 ∧ 0 < (aFr s f).2.2.1) ∨ (9 = 9 ∧ (aFr s f).2.2.1 = 0)) by omega)]; rfl
          · rw [if_neg c, if_pos (show (9 = 8 ∧ 0 < (aFr s f).2.2.1) ∨ (9 = 9 ∧ (aFr s f).2.2.1 = 0) from Or.inr ⟨rfl, by omega⟩)]; rfl
      · obtain ⟨m', e1, e2⟩ := pl (12000 + (v : Int)) rfl (by rw [show (12000 + (v : Int)) / 1000 = 12 by omega]; rfl)
        rw [if_neg (by omega), if_pos (by omega), show (12000 + (v : Int)) % 1000 = (v : Int) by omega, show ((v : Nat) : Int).toNat = v from rfl] at e2
        refine go m' _ _ (by omega) e2 (Nat.le_refl _) rfs (fun _ _ _ _ => rfl) hnew ?_ (Nat.or_zero _)
        exact mTu_eq rfl rfl (Nat.or_zero _) (Nat.or_zero _) (Nat.or_zero _)
    · have e : k = T.length := by omega
      subst e
      rw [List.take_length] at h
      have q := rX_end h (Nat.le_refl _)
      cases q
      rw [List.drop_length]
      exact ⟨(mX_nil _ _ _ _ _).symm, Nat.le_refl _, fun _ _ => rfl, fun _ _ _ _ => rfl, hnew, rfl⟩
/-- a title's whole text -/
theorem runX_mtop (hE : EnT En tm) {t : Nat} (ht : t < 8) (hne : eSn En t ≠ -1) {acc' : List Int} {s' : ASt} (h : runX En 80000 false 0 0 0 0 (eTl En (eSn En t).toNat) [] (uFr aS0 (topF En t)) = some (acc', s')) : mTu acc' s' = mX En tm 6 [t] (tm (eSn En t).toNat) ([], 0, 0, 0, 0, 0) ∧ aUs s' = 0 := by
  obtain ⟨x1, x2, x3, x4⟩ := hE t ht hne
  rw [x3] at h
  have K : FrK En (uFr aS0 (topF En t)) 0 6 [t] (tm (eSn En t).toNat) := ⟨rfl, ⟨rfl, rfl⟩, rfl, x1, x2.2, x3, x4⟩
  have z := (runX_m hE 80001 80000 (by decide) 6 0 0 0 [t] (tm (eSn En t).toNat) 0 [] (uFr aS0 (topF En t)) acc' s' K (Nat.zero_le _) (fun _ _ => rfl) (fun _ _ _ => rfl) (Nat.lt_succ_self 0) h)
  exact ⟨z.1, z.2.2.2.2.2⟩
end MX2
