/-! tests and sums, read as they are told: a fault, or where the reading stands and the steps -/
abbrev PRS : Type := Sum (Int × Int) ((Int × Int) × List Int)
def sbd (r : PRS) (f : (Int × Int) → List Int → PRS) : PRS := match r with
  | .inl e => .inl e
  | .inr p => f p.1 p.2
def obd (o : Option Int) (d : PRS) (f : Int → PRS) : PRS := match o with
  | none => d
  | some t => f t
def nbd (r : Sum (Int × Int) Int) (f : Int → PRS) : PRS := match r with
  | .inl e => .inl e
  | .inr v => f v
def opo (B : Int → Int) (n o : Int) (s : Int × Int) (f : (Int × Int) → PRS) : PRS := if o < 6 then f (nx B n s) else .inl (4, tq B n s)
def ndG (B : Int → Int) (n c : Int) (s : Int × Int) (f : (Int × Int) → PRS) : PRS := if isG B n c s = true then f (nx B n s) else .inl (1, tq B n s)
def tkW (B : Int → Int) (n : Int) (w : List Nat) (t : Int) (s : Int × Int) : Option Int := if isW B n w s = true then some t else none
def tkG (B : Int → Int) (n c1 t1 c2 t2 : Int) (s : Int × Int) : Option Int := if isG B n c1 s = true then some t1 else if isG B n c2 s = true then some t2 else none
def lp (B : Int → Int) (n : Int) (tk : (Int × Int) → Option Int) (sub : (Int × Int) → PRS) : Nat → (Int × Int) → List Int → PRS
  | 0, _, _ => .inl (0, 0)
  | g + 1, s, C => obd (tk s) (.inr (s, C)) (fun t => sbd (sub (nx B n s)) (fun s2 C2 => lp B n tk sub g s2 (C ++ (C2 ++ [t]))))
def cmpt (B : Int → Int) (n : Int) (s : Int × Int) : Option Int := if isG B n 60 s = true then some 10022 else if isG B n 62 s = true then some 10023 else if isG B n 61 s = true then some 10024 else none
def lea (B : Int → Int) (n : Int) (q : Bool) (s : Int × Int) : Option Int :=
  if isW B n (lit 15) s = true then some 10001 else if q = false then none else if isW B n (lit 16) s = true then some 10002 else if isW B n (lit 17) s = true then some 10003 else if isW B n (lit 18) s = true then some 10004 else if isW B n (lit 19) s = true then some 10005 else none
def sp (B : Int → Int) (n : Int) (q : Bool) : Nat → Nat → Int → Int → (Int × Int) → PRS
  | 0, _, _, _, _ => .inl (0, 0)
  | f + 1, 0, o, _, s => sbd (sp B n q f 1 o 0 s) (fun s C => lp B n (tkW B n (lit 21) 10020) (sp B n q f 1 o 0) 1700 s C)
  | f + 1, 1, o, _, s => sbd (sp B n q f 2 o 0 s) (fun s C => lp B n (tkW B n (lit 20) 10021) (sp B n q f 2 o 0) 1700 s C)
  | f + 1, 2, o, _, s =>
    if isW B n (lit 9) s = true then opo B n o s (fun s => sbd (sp B n q f 2 (o + 1) 0 s) (fun s C => .inr (s, C ++ [10010])))
    else if isG B n 91 s = true then opo B n o s (fun s => sbd (sp B n q f 0 (o + 1) 0 s) (fun s C => ndG B n 93 s (fun s => .inr (s, C))))
    else if isW B n (lit 10) s = true then .inr (nx B n s, [10000])
    else sbd (sp B n q f 3 o 0 s) (fun s C => obd (cmpt B n s) (.inl (1, tq B n s)) (fun t => sbd (sp B n q f 3 o 0 (nx B n s)) (fun s2 C2 => .inr (s2, C ++ (C2 ++ [t])))))
  | f + 1, 3, o, _, s => sbd (sp B n q f 4 o 0 s) (fun s C => lp B n (tkG B n 43 10030 45 10031) (sp B n q f 4 o 0) 1700 s C)
  | f + 1, 4, o, _, s => sbd (sp B n q f 5 o 0 s) (fun s C => lp B n (tkG B n 42 10032 47 10033) (sp B n q f 5 o 0) 1700 s C)
  | f + 1, 5, o, _, s =>
    if tkd B n s = 2 then nbd (sNum B n 0 9999 s) (fun v => .inr (nx B n s, [v]))
    else if isG B n 40 s = true then opo B n o s (fun s => sbd (sp B n q f 3 (o + 1) 0 s) (fun s C => ndG B n 41 s (fun s => .inr (s, C))))
    else if isW B n (lit 11) s = true then sp B n q f 6 o 10034 (nx B n s)
    else if isW B n (lit 12) s = true then sp B n q f 6 o 10035 (nx B n s)
    else if isW B n (lit 13) s = true then sp B n q f 7 o 10011 s
    else if q = true ∧ isW B n (lit 14) s = true then sp B n q f 7 o 10012 s
    else obd (lea B n q s) (.inl (1, tq B n s)) (fun t => .inr (nx B n s, [t]))
  | f + 1, 6, o, t, s => if isG B n 40 s = true then opo B n o s (fun s => sbd (sp B n q f 3 (o + 1) 0 s) (fun s C => ndG B n 44 s (fun s => sbd (sp B n q f 3 (o + 1) 0 s) (fun s2 C2 => ndG B n 41 s2 (fun s => .inr (s, C ++ (C2 ++ [t]))))))) else .inl (1, tq B n s)
  | f + 1, 7, o, t, s => opo B n o s (fun s => sbd (sp B n q f 5 (o + 1) 0 s) (fun s C => .inr (s, C ++ [t])))
  | _ + 1, _ + 8, _, _, _ => .inl (0, 0)
/-! what such a reading gives: it goes on, a step a byte at most, steps that fit -/
def pgd (n : Int) (q b : Bool) (D : Int) (s : Int × Int) (r : PRS) : Prop := ∀ s' C, r = .inr (s', C) → okT n s' ∧ s.1 < s'.1 ∧ s.1 + (C.length : Int) ≤ s'.1 ∧ ∀ k : List Bool, (k.length : Int) + D ≤ 64 → tyl q C k = some (b :: k)
theorem sbd_inr {r : PRS} {f : (Int × Int) → List Int → PRS} {x : (Int × Int) × List Int} (h : sbd r f = .inr x) : ∃ s C, r = .inr (s, C) ∧ f s C = .inr x := by
  unfold sbd at h
  cases r with
  | inl e => cases h
  | inr p => exact ⟨p.1, p.2, rfl, h⟩
theorem obd_inr {o : Option Int} {d : PRS} {f : Int → PRS} {x : (Int × Int) × List Int} (h : obd o d f = .inr x) : o = none ∧ d = .inr x ∨ ∃ t, o = some t ∧ f t = .inr x := by
  unfold obd at h
  cases o with
  | none => exact Or.inl ⟨rfl, h⟩
  | some t => exact Or.inr ⟨t, rfl, h⟩
theorem ndG_inr {B : Int → Int} {n c : Int} {s : Int × Int} {f : (Int × Int) → PRS} {x : (Int × Int) × List Int} (h : ndG B n c s f = .inr x) : isG B n c s = true ∧ f (nx B n s) = .inr x := by
  unfold ndG at h
  split at h
  · next c => exact ⟨c, h⟩
  · cases h
theorem opo_inr {B : Int → Int} {n o : Int} {s : Int × Int} {f : (Int × Int) → PRS} {x : (Int × Int) × List Int} (h : opo B n o s f = .inr x) : o < 6 ∧ f (nx B n s) = .inr x := by
  unfold opo at h
  split at h
  · next c => exact ⟨c, h⟩
  · cases h
theorem ty1 {q : Bool} {t : Int} {k k' : List Bool} (h : tyk q t k = some k') (hl : k'.length ≤ 64) : tyl q [t] k = some k' := by
  unfold tyl
  rw [h]
  dsimp only
  rw [if_pos hl]
  rfl
section SPG
variable {B : Int → Int} {n : Int} {q : Bool}
theorem isG_gt {c : Int} {s : Int × Int} (ok : okT n s) (h : isG B n c s = true) : s.1 < (nx B n s).1 := nx_gt ok (by rw [(isG_kd h).1]; decide)
theorem isW_gt {w : List Nat} {s : Int × Int} (ok : okT n s) (h : isW B n w s = true) : s.1 < (nx B n s).1 := nx_gt ok (by rw [isW_kd h]; decide)
/-- a step of two parts -/
theorem ty2 {C C2 : List Int} {t D : Int} {b b' : Bool} {k : List Bool} (h1 : ∀ k : List Bool, (k.length : Int) + D ≤ 64 → tyl q C k = some (b :: k)) (h2 : ∀ k : List Bool, (k.length : Int) + D ≤ 64 → tyl q C2 k = some (b :: k)) (ht : ∀ k, tyk q t (b :: b :: k) = some (b' :: k)) (hk : (k.length : Int) + D + 1 ≤ 64) (hD : 1 ≤ D) : tyl q (C ++ (C2 ++ [t])) k = some (b' :: k) := by
  rw [tyl_app, h1 k (by omega), Option.bind_some, tyl_app, h2 (b :: k) (by rw [List.length_cons]; omega), Option.bind_some]
  exact ty1 (ht k) (by rw [List.length_cons]; omega)
theorem lp_gd {tk : (Int × Int) → Option Int} {sub : (Int × Int) → PRS} {b : Bool} {D : Int} (hD : 1 ≤ D) (htk : ∀ s t, tk s = some t → tkd B n s ≠ 0 ∧ ∀ k, tyk q t (b :: b :: k) = some (b :: k)) (hsub : ∀ s, okT n s → pgd n q b D s (sub s)) : ∀ (g : Nat) {s0 s : Int × Int} {C : List Int}, okT n s → s0.1 < s.1 → s0.1 + (C.length : Int) ≤ s.1 → (∀ k : List Bool, (k.length : Int) + (D + 1) ≤ 64 → tyl q C k = some (b :: k)) → pgd n q b (D + 1) s0 (lp B n tk sub g s C)
  | 0, _, _, _, _, _, _, _ => by intro s' C' h; unfold lp at h; cases h
  | g + 1, s0, s, C, ok, h1, h2, h3 => by
    intro s' C' h
    unfold lp at h
    rcases obd_inr h with ⟨-, e⟩ | ⟨t, e1, e2⟩
    · cases e
      exact ⟨ok, h1, h2, h3⟩
    · obtain ⟨s2, C2, e3, e4⟩ := sbd_inr e2
      obtain ⟨k1, k2⟩ := htk s t e1
      have gt := nx_gt ok k1
      obtain ⟨o2, g1, g2, g3⟩ := hsub _ (okT_nx ok) s2 C2 e3
      refine lp_gd hD htk hsub g o2 (by omega) ?_ ?_ s' C' e4
      · rw [List.length_append, List.length_append, List.length_cons, List.length_nil]
        omega
      · intro k hk
        rw [tyl_app, h3 k hk, Option.bind_some, tyl_app, g3 (b :: k) (by rw [List.length_cons]; omega), Option.bind_some]
        exact ty1 (k2 k) (by rw [List.length_cons]; omega)
/-- how deep the values lie -/
def dpt (g : Nat) (o : Int) : Int := (if g = 0 then 6 else if g = 1 then 5 else if g = 2 then 4 else if g = 3 then 3 else if g = 4 then 2 else 1) + 3 * (6 - o)
def tagT (g : Nat) : Bool := decide (g < 3)
def tagA (B : Int → Int) (n : Int) (q : Bool) (g : Nat) (t : Int) (s : Int × Int) : Prop := g ≤ 7 ∧ (g = 6 → t = 10034 ∨ t = 10035) ∧ (g = 7 → (t = 10011 ∨ t = 10012 ∧ q = true) ∧ tkd B n s ≠ 0)
theorem tA {g : Nat} {t : Int} {s : Int × Int} (h6 : g ≠ 6) (h7 : g ≠ 7) (h8 : g ≤ 7 := by decide) : tagA B n q g t s := ⟨h8, fun z => absurd z h6, fun z => absurd z h7⟩
theorem dpt0 (o : Int) : dpt 0 o = 6 + 3 * (6 - o) := rfl
theorem dpt1 (o : Int) : dpt 1 o = 5 + 3 * (6 - o) := rfl
theorem dpt2 (o : Int) : dpt 2 o = 4 + 3 * (6 - o) := rfl
theorem dpt3 (o : Int) : dpt 3 o = 3 + 3 * (6 - o) := rfl
theorem dpt4 (o : Int) : dpt 4 o = 2 + 3 * (6 - o) := rfl
theorem dpt5 (o : Int) : dpt 5 o = 1 + 3 * (6 - o) := rfl
theorem dpt6 (o : Int) : dpt 6 o = 1 + 3 * (6 - o) := rfl
theorem dpt7 (o : Int) : dpt 7 o = 1 + 3 * (6 - o) := rfl
theorem cmpt_t {s : Int × Int} {t : Int} (h : cmpt B n s = some t) : tkd B n s = 3 ∧ (t = 10022 ∨ t = 10023 ∨ t = 10024) := by
  unfold cmpt at h
  split at h
  · next c => cases h; exact ⟨(isG_kd c).1, by decide⟩
  · split at h
    · next c => cases h; exact ⟨(isG_kd c).1, by decide⟩
    · split at h
      · next c => cases h; exact ⟨(isG_kd c).1, by decide⟩
      · cases h
theorem lea_t {s : Int × Int} {t : Int} (h : lea B n q s = some t) : tkd B n s = 1 ∧ (t = 10001 ∨ q = true ∧ 10002 ≤ t ∧ t ≤ 10005) := by
  unfold lea at h
  split at h
  · next c => cases h; exact ⟨isW_kd c, Or.inl rfl⟩
  split at h
  · cases h
  next cq =>
  have cq : q = true := by simpa using cq
  split at h
  · next c => cases h; exact ⟨isW_kd c, Or.inr ⟨cq, by decide, by decide⟩⟩
  split at h
  · next c => cases h; exact ⟨isW_kd c, Or.inr ⟨cq, by decide, by decide⟩⟩
  split at h
  · next c => cases h; exact ⟨isW_kd c, Or.inr ⟨cq, by decide, by decide⟩⟩
  split at h
  · next c => cases h; exact ⟨isW_kd c, Or.inr ⟨cq, by decide, by decide⟩⟩
  · cases h
theorem tkW_t {w : List Nat} {t t' : Int} {s : Int × Int} (h : tkW B n w t s = some t') : tkd B n s ≠ 0 ∧ t' = t := by
  unfold tkW at h
  split at h
  · next c => cases h; exact ⟨by rw [isW_kd c]; decide, rfl⟩
  · cases h
theorem tkG_t {c1 t1 c2 t2 t' : Int} {s : Int × Int} (h : tkG B n c1 t1 c2 t2 s = some t') : tkd B n s ≠ 0 ∧ (t' = t1 ∨ t' = t2) := by
  unfold tkG at h
  split at h
  · next c => cases h; exact ⟨by rw [(isG_kd c).1]; decide, Or.inl rfl⟩
  · split at h
    · next c => cases h; exact ⟨by rw [(isG_kd c).1]; decide, Or.inr rfl⟩
    · cases h
theorem sp_gd : ∀ (f g : Nat) {o t : Int} {s : Int × Int}, okT n s → 0 ≤ o → o ≤ 6 → tagA B n q g t s → pgd n q (tagT g) (dpt g o) s (sp B n q f g o t s)
  | 0, _, _, _, _, _, _, _, _ => by intro s' C h; unfold sp at h; cases h
  | f + 1, 0, o, t, s, ok, ho, ho2, _ => by
    intro s' C h
    unfold sp at h
    obtain ⟨s1, C1, e1, e2⟩ := sbd_inr h
    obtain ⟨g1, g2, g3, g4⟩ := sp_gd f 1 ok ho ho2 (tA (by decide) (by decide)) s1 C1 e1
    have := lp_gd (D := dpt 1 o) (b := true) (B := B) (n := n) (q := q) (tk := tkW B n (lit 21) 10020) (sub := sp B n q f 1 o 0) (by simp only [dpt0, dpt1, dpt2, dpt3, dpt4, dpt5, dpt6, dpt7]; omega) (fun s t z => ⟨(tkW_t z).1, fun k => by rw [(tkW_t z).2]; rfl⟩) (fun s z => sp_gd f 1 z ho ho2 (tA (by decide) (by decide))) 1700 (s0 := s) g1 g2 g3 (fun k hk => g4 k (by omega)) s' C e2
    exact ⟨this.1, this.2.1, this.2.2.1, fun k hk => this.2.2.2 k (by simp only [dpt0, dpt1, dpt2, dpt3, dpt4, dpt5, dpt6, dpt7] at hk ⊢; omega)⟩
  | f + 1, 1, o, t, s, ok, ho, ho2, _ => by
    intro s' C h
    unfold sp at h
    obtain ⟨s1, C1, e1, e2⟩ := sbd_inr h
    obtain ⟨g1, g2, g3, g4⟩ := sp_gd f 2 ok ho ho2 (tA (by decide) (by decide)) s1 C1 e1
    have := lp_gd (D := dpt 2 o) (b := true) (B := B) (n := n) (q := q) (tk := tkW B n (lit 20) 10021) (sub := sp B n q f 2 o 0) (by simp only [dpt0, dpt1, dpt2, dpt3, dpt4, dpt5, dpt6, dpt7]; omega) (fun s t z => ⟨(tkW_t z).1, fun k => by rw [(tkW_t z).2]; rfl⟩) (fun s z => sp_gd f 2 z ho ho2 (tA (by decide) (by decide))) 1700 (s0 := s) g1 g2 g3 (fun k hk => g4 k (by omega)) s' C e2
    exact ⟨this.1, this.2.1, this.2.2.1, fun k hk => this.2.2.2 k (by simp only [dpt0, dpt1, dpt2, dpt3, dpt4, dpt5, dpt6, dpt7] at hk ⊢; omega)⟩
  | f + 1, 2, o, t, s, ok, ho, ho2, _ => by
    intro s' C h
    unfold sp at h
    split at h
    · next c =>
      obtain ⟨o6, e0⟩ := opo_inr h
      obtain ⟨s1, C1, e1, e2⟩ := sbd_inr e0
      obtain ⟨g1, g2, g3, g4⟩ := sp_gd f 2 (okT_nx ok) (show 0 ≤ o + 1 by omega) (by omega) (tA (by decide) (by decide)) s1 C1 e1
      have gt := isW_gt ok c
      cases e2
      refine ⟨g1, by omega, by rw [List.length_append, List.length_cons, List.length_nil]; omega, fun k hk => ?_⟩
      simp only [dpt0, dpt1, dpt2, dpt3, dpt4, dpt5, dpt6, dpt7] at hk
      rw [tyl_app, g4 k (by simp only [dpt0, dpt1, dpt2, dpt3, dpt4, dpt5, dpt6, dpt7]; omega), Option.bind_some]
      exact ty1 rfl (by rw [List.length_cons]; omega)
    split at h
    · next c =>
      obtain ⟨o6, e0⟩ := opo_inr h
      obtain ⟨s1, C1, e1, e2⟩ := sbd_inr e0
      obtain ⟨g1, g2, g3, g4⟩ := sp_gd f 0 (okT_nx ok) (show 0 ≤ o + 1 by omega) (by omega) (tA (by decide) (by decide)) s1 C1 e1
      obtain ⟨d1, d2⟩ := ndG_inr e2
      have gt := isG_gt ok c
      have gt2 := isG_gt g1 d1
      cases d2
      refine ⟨okT_nx g1, by omega, by omega, fun k hk => ?_⟩
      simp only [dpt0, dpt1, dpt2, dpt3, dpt4, dpt5, dpt6, dpt7] at hk
      exact g4 k (by simp only [dpt0, dpt1, dpt2, dpt3, dpt4, dpt5, dpt6, dpt7]; omega)
    split at h
    · next c =>
      have gt := isW_gt ok c
      cases h
      refine ⟨okT_nx ok, by omega, by rw [List.length_cons, List.length_nil]; omega, fun k hk => ?_⟩
      simp only [dpt0, dpt1, dpt2, dpt3, dpt4, dpt5, dpt6, dpt7] at hk
      exact ty1 rfl (by rw [List.length_cons]; omega)
    · obtain ⟨s1, C1, e1, e2⟩ := sbd_inr h
      obtain ⟨g1, g2, g3, g4⟩ := sp_gd f 3 ok ho ho2 (tA (by decide) (by decide)) s1 C1 e1
      rcases obd_inr e2 with ⟨-, e⟩ | ⟨t, e3, e4⟩
      · cases e
      · obtain ⟨s2, C2, e5, e6⟩ := sbd_inr e4
        obtain ⟨t1, t2⟩ := cmpt_t e3
        have gt := nx_gt g1 (show tkd B n s1 ≠ 0 by rw [t1]; decide)
        obtain ⟨k1, k2, k3, k4⟩ := sp_gd f 3 (okT_nx g1) ho ho2 (tA (by decide) (by decide)) s2 C2 e5
        cases e6
        refine ⟨k1, by omega, by rw [List.length_append, List.length_append, List.length_cons, List.length_nil]; omega, fun k hk => ?_⟩
        refine ty2 (D := dpt 3 o) g4 k4 (fun k => by rcases t2 with rfl | rfl | rfl <;> rfl) ?_ (by simp only [dpt0, dpt1, dpt2, dpt3, dpt4, dpt5, dpt6, dpt7]; omega)
        simp only [dpt0, dpt1, dpt2, dpt3, dpt4, dpt5, dpt6, dpt7] at hk ⊢
        omega
  | f + 1, 3, o, t, s, ok, ho, ho2, _ => by
    intro s' C h
    unfold sp at h
    obtain ⟨s1, C1, e1, e2⟩ := sbd_inr h
    obtain ⟨g1, g2, g3, g4⟩ := sp_gd f 4 ok ho ho2 (tA (by decide) (by decide)) s1 C1 e1
    have := lp_gd (D := dpt 4 o) (b := false) (B := B) (n := n) (q := q) (tk := tkG B n 43 10030 45 10031) (sub := sp B n q f 4 o 0) (by simp only [dpt0, dpt1, dpt2, dpt3, dpt4, dpt5, dpt6, dpt7]; omega) (fun s t z => ⟨(tkG_t z).1, fun k => by rcases (tkG_t z).2 with e | e <;> rw [e] <;> rfl⟩) (fun s z => sp_gd f 4 z ho ho2 (tA (by decide) (by decide))) 1700 (s0 := s) g1 g2 g3 (fun k hk => g4 k (by omega)) s' C e2
    exact ⟨this.1, this.2.1, this.2.2.1, fun k hk => this.2.2.2 k (by simp only [dpt0, dpt1, dpt2, dpt3, dpt4, dpt5, dpt6, dpt7] at hk ⊢; omega)⟩
  | f + 1, 4, o, t, s, ok, ho, ho2, _ => by
    intro s' C h
    unfold sp at h
    obtain ⟨s1, C1, e1, e2⟩ := sbd_inr h
    obtain ⟨g1, g2, g3, g4⟩ := sp_gd f 5 ok ho ho2 (tA (by decide) (by decide)) s1 C1 e1
    have := lp_gd (D := dpt 5 o) (b := false) (B := B) (n := n) (q := q) (tk := tkG B n 42 10032 47 10033) (sub := sp B n q f 5 o 0) (by simp only [dpt0, dpt1, dpt2, dpt3, dpt4, dpt5, dpt6, dpt7]; omega) (fun s t z => ⟨(tkG_t z).1, fun k => by rcases (tkG_t z).2 with e | e <;> rw [e] <;> rfl⟩) (fun s z => sp_gd f 5 z ho ho2 (tA (by decide) (by decide))) 1700 (s0 := s) g1 g2 g3 (fun k hk => g4 k (by omega)) s' C e2
    exact ⟨this.1, this.2.1, this.2.2.1, fun k hk => this.2.2.2 k (by simp only [dpt0, dpt1, dpt2, dpt3, dpt4, dpt5, dpt6, dpt7] at hk ⊢; omega)⟩
  | f + 1, 5, o, t, s, ok, ho, ho2, _ => by
    intro s' C h
    unfold sp at h
    split at h
    · next c =>
      unfold nbd at h
      cases e : sNum B n 0 9999 s with
      | inl x => rw [e] at h; cases h
      | inr v =>
        rw [e] at h
        cases h
        have r := sNum_rng e
        have gt := nx_gt ok (show tkd B n s ≠ 0 by rw [c]; decide)
        refine ⟨okT_nx ok, by omega, by rw [List.length_cons, List.length_nil]; omega, fun k hk => ?_⟩
        simp only [dpt0, dpt1, dpt2, dpt3, dpt4, dpt5, dpt6, dpt7] at hk
        exact ty1 (by unfold tyk; rw [if_pos (by omega)]; rfl) (by rw [List.length_cons]; omega)
    split at h
    · next c =>
      obtain ⟨o6, e0⟩ := opo_inr h
      obtain ⟨s1, C1, e1, e2⟩ := sbd_inr e0
      obtain ⟨g1, g2, g3, g4⟩ := sp_gd f 3 (okT_nx ok) (show 0 ≤ o + 1 by omega) (by omega) (tA (by decide) (by decide)) s1 C1 e1
      obtain ⟨d1, d2⟩ := ndG_inr e2
      have gt := isG_gt ok c
      have gt2 := isG_gt g1 d1
      cases d2
      refine ⟨okT_nx g1, by omega, by omega, fun k hk => ?_⟩
      simp only [dpt0, dpt1, dpt2, dpt3, dpt4, dpt5, dpt6, dpt7] at hk
      exact g4 k (by simp only [dpt0, dpt1, dpt2, dpt3, dpt4, dpt5, dpt6, dpt7]; omega)
    split at h
    · next c =>
      have gt := isW_gt ok c
      obtain ⟨g1, g2, g3, g4⟩ := sp_gd f 6 (okT_nx ok) ho ho2 ⟨by decide, fun _ => Or.inl rfl, fun z => by cases z⟩ s' C h
      exact ⟨g1, by omega, by omega, g4⟩
    split at h
    · next c =>
      have gt := isW_gt ok c
      obtain ⟨g1, g2, g3, g4⟩ := sp_gd f 6 (okT_nx ok) ho ho2 ⟨by decide, fun _ => Or.inr rfl, fun z => by cases z⟩ s' C h
      exact ⟨g1, by omega, by omega, g4⟩
    split at h
    · next c => exact sp_gd f 7 ok ho ho2 ⟨by decide, (fun z => by cases z), fun _ => ⟨Or.inl rfl, by rw [isW_kd c]; decide⟩⟩ s' C h
    split at h
    · next c => exact sp_gd f 7 ok ho ho2 ⟨by decide, (fun z => by cases z), fun _ => ⟨Or.inr ⟨rfl, c.1⟩, by rw [isW_kd c.2]; decide⟩⟩ s' C h
    · rcases obd_inr h with ⟨-, e⟩ | ⟨t, e3, e4⟩
      · cases e
      · obtain ⟨t1, t2⟩ := lea_t e3
        have gt := nx_gt ok (show tkd B n s ≠ 0 by rw [t1]; decide)
        cases e4
        refine ⟨okT_nx ok, by omega, by rw [List.length_cons, List.length_nil]; omega, fun k hk => ?_⟩
        simp only [dpt0, dpt1, dpt2, dpt3, dpt4, dpt5, dpt6, dpt7] at hk
        refine ty1 ?_ (show (false :: k).length ≤ 64 by rw [List.length_cons]; omega)
        rcases t2 with rfl | ⟨rfl, t2, t3⟩
        · rfl
        · unfold tyk
          rw [if_neg (by omega), if_neg (by omega), if_neg (by omega), if_pos (by omega), if_pos rfl]
          rfl
  | f + 1, 6, o, t, s, ok, ho, ho2, ha => by
    intro s' C h
    unfold sp at h
    split at h
    · next c =>
      obtain ⟨o6, e0⟩ := opo_inr h
      obtain ⟨s1, C1, e1, e2⟩ := sbd_inr e0
      obtain ⟨g1, g2, g3, g4⟩ := sp_gd f 3 (okT_nx ok) (show 0 ≤ o + 1 by omega) (by omega) (tA (by decide) (by decide)) s1 C1 e1
      obtain ⟨d1, d2⟩ := ndG_inr e2
      obtain ⟨s2, C2, e3, e4⟩ := sbd_inr d2
      obtain ⟨k1, k2, k3, k4⟩ := sp_gd f 3 (okT_nx g1) (show 0 ≤ o + 1 by omega) (by omega) (tA (by decide) (by decide)) s2 C2 e3
      obtain ⟨d3, d4⟩ := ndG_inr e4
      have gt := isG_gt ok c
      have gt2 := isG_gt g1 d1
      have gt3 := isG_gt k1 d3
      cases d4
      refine ⟨okT_nx k1, by omega, by rw [List.length_append, List.length_append, List.length_cons, List.length_nil]; omega, fun k hk => ?_⟩
      refine ty2 (D := dpt 3 (o + 1)) g4 k4 (fun k => by rcases ha.2.1 rfl with rfl | rfl <;> rfl) ?_ (by simp only [dpt0, dpt1, dpt2, dpt3, dpt4, dpt5, dpt6, dpt7]; omega)
      simp only [dpt0, dpt1, dpt2, dpt3, dpt4, dpt5, dpt6, dpt7] at hk ⊢
      omega
    · cases h
  | f + 1, 7, o, t, s, ok, ho, ho2, ha => by
    intro s' C h
    unfold sp at h
    obtain ⟨o6, e0⟩ := opo_inr h
    obtain ⟨s1, C1, e1, e2⟩ := sbd_inr e0
    obtain ⟨g1, g2, g3, g4⟩ := sp_gd f 5 (okT_nx ok) (show 0 ≤ o + 1 by omega) (by omega) (tA (by decide) (by decide)) s1 C1 e1
    have gt := nx_gt ok (ha.2.2 rfl).2
    cases e2
    refine ⟨g1, by omega, ?_, fun k hk => ?_⟩
    · rw [List.length_append, List.length_cons, List.length_nil]
      omega
    simp only [dpt0, dpt1, dpt2, dpt3, dpt4, dpt5, dpt6, dpt7] at hk
    rw [tyl_app, g4 k (by simp only [dpt0, dpt1, dpt2, dpt3, dpt4, dpt5, dpt6, dpt7]; omega), Option.bind_some]
    refine ty1 ?_ (show (false :: k).length ≤ 64 by rw [List.length_cons]; omega)
    rcases (ha.2.2 rfl).1 with rfl | ⟨rfl, rfl⟩ <;> rfl
  | _ + 1, _ + 8, _, _, _, _, _, _, _ => by intro s' C h; unfold sp at h; cases h
end SPG
