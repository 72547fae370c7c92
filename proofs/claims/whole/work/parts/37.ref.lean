/-! the reference's cells: the hall, where all stands now -/
def rtk (t : Int) : Int := if t < 10000 then 1000 + t else if t = 10000 then 13 else if t ≤ 10005 then t - 10001 + 40 else if t = 10010 then 12 else if t ≤ 10012 then t - 10011 + 60 else
  if t = 10020 then 11 else if t = 10021 then 10 else if t ≤ 10024 then t - 10022 + 7 else t - 10030 + 1
def RH (m : xm) (G : hv) : Prop :=
  (∀ t, 0 ≤ t → t < 4 → ld m 101 (4 + t) = G 0 t) ∧ ld m 106 1 = ru G ∧
  (∀ l, 0 ≤ l → l < nL G → ld m 103 (12 + 3 * l) = G 1 l ∧ ld m 103 (13 + 3 * l) = G 2 l ∧ ld m 103 (14 + 3 * l) = G 3 l) ∧
  (∀ n l, 0 ≤ n → n < nN G → 0 ≤ l → l < 4 → ld m 104 (24 + 4 * n + l) = tT G n l) ∧
  (∀ p, 0 ≤ p → p < nP G → ld m 105 (5 + p) = G 5 p) ∧
  (∀ d, 0 ≤ d → d < nD G → ld m 107 (6 + d) = G 6 d ∧ ld m 108 (6 + d) = G 7 d) ∧
  (∀ d k, 0 ≤ d → d < nD G → G 6 d ≤ k → k < G 7 d → ld m 109 (1600 + k) = rtk (G 8 k))
def NR (m : xm) (G : hv) (s : Int) : Prop := (∀ l, 0 ≤ l → l < nL G → ld m 110 (1 + l) = wd G s l) ∧ ld m 110 5 = jm G s
theorem RH_cg {m m' : xm} {G : hv} (H : RH m G) (e : ∀ a k, 101 ≤ a → a ≤ 109 → a ≠ 102 → ld m' a k = ld m a k) : RH m' G := by
  obtain ⟨c1, c2, c3, c4, c5, c6, c7⟩ := H
  refine ⟨fun t g1 g2 => ?_, ?_, fun l g1 g2 => ?_, fun n l g1 g2 g3 g4 => ?_, fun p g1 g2 => ?_, fun d g1 g2 => ?_, fun d k g1 g2 g3 g4 => ?_⟩
  · rw [e _ _ (by decide) (by decide) (by decide)]; exact c1 t g1 g2
  · rw [e _ _ (by decide) (by decide) (by decide)]; exact c2
  · rw [e _ _ (by decide) (by decide) (by decide), e _ _ (by decide) (by decide) (by decide), e _ _ (by decide) (by decide) (by decide)]; exact c3 l g1 g2
  · rw [e _ _ (by decide) (by decide) (by decide)]; exact c4 n l g1 g2 g3 g4
  · rw [e _ _ (by decide) (by decide) (by decide)]; exact c5 p g1 g2
  · rw [e _ _ (by decide) (by decide) (by decide), e _ _ (by decide) (by decide) (by decide)]; exact c6 d g1 g2
  · rw [e _ _ (by decide) (by decide) (by decide)]; exact c7 d k g1 g2 g3 g4
theorem NR_cg {m m' : xm} {G : hv} {s : Int} (H : NR m G s) (e : ∀ k, ld m' 110 k = ld m 110 k) : NR m' G s := ⟨fun l g1 g2 => by rw [e]; exact H.1 l g1 g2, by rw [e]; exact H.2⟩
theorem al101 : aln 101 = 8 := rfl
theorem al103 : aln 103 = 24 := rfl
theorem al104 : aln 104 = 48 := rfl
theorem al105 : aln 105 = 10 := rfl
theorem al106 : aln 106 = 2 := rfl
theorem al107 : aln 107 = 12 := rfl
theorem al108 : aln 108 = 12 := rfl
theorem al109 : aln 109 = 3200 := rfl
theorem al110 : aln 110 = 127 := rfl
theorem al138 : aln 138 = 1700 := rfl
theorem al139 : aln 139 = 1700 := rfl
theorem al140 : aln 140 = 1700 := rfl
section RQ
variable {m : xm} {G : hv}
theorem r_lockMany_ok (H : RH m G) : r_lockMany m = some (nL G, m) := by
  unfold r_lockMany
  rw [ial_in (by decide) (by rw [al101]; decide), show (4 : Int) = 4 + 0 by rfl, H.1 0 (by decide) (by decide)]
  rfl
theorem r_noteMany_ok (H : RH m G) : r_noteMany m = some (nN G, m) := by
  unfold r_noteMany
  rw [ial_in (by decide) (by rw [al101]; decide), show (5 : Int) = 4 + 1 by rfl, H.1 1 (by decide) (by decide)]
  rfl
theorem r_doorMany_ok (H : RH m G) : r_doorMany m = some (nD G, m) := by
  unfold r_doorMany
  rw [ial_in (by decide) (by rw [al101]; decide), show (6 : Int) = 4 + 2 by rfl, H.1 2 (by decide) (by decide)]
  rfl
theorem r_playerMany_ok (H : RH m G) : r_playerMany m = some (nP G, m) := by
  unfold r_playerMany
  rw [ial_in (by decide) (by rw [al101]; decide), show (7 : Int) = 4 + 3 by rfl, H.1 3 (by decide) (by decide)]
  rfl
theorem r_wardsOf_ok (w : wfS G) (H : RH m G) {l : Int} (h1 : 0 ≤ l) (h2 : l < nL G) : r_wardsOf l m = some (wx G l, m) := by
  have := w.2.1
  unfold r_wardsOf
  rw [ial_in (by omega) (by rw [al103]; omega), (H.2.2.1 l h1 h2).1, wx_in h1 h2]
theorem r_wardNow_ok (w : wfS G) {s : Int} (N : NR m G s) {l : Int} (h1 : 0 ≤ l) (h2 : l < nL G) : r_wardNow l m = some (wd G s l, m) := by
  have := w.2.1
  unfold r_wardNow
  rw [ial_in (by omega) (by rw [al110]; omega), N.1 l h1 h2]
theorem r_jammedNow_ok {s : Int} (N : NR m G s) : r_jammedNow m = some (jm G s, m) := by
  unfold r_jammedNow
  rw [ial_in (by decide) (by rw [al110]; decide), N.2]
theorem r_isJammed_ok (w : wfS G) {s : Int} (hv : vs G s) (N : NR m G s) {l : Int} (h1 : 0 ≤ l) (h2 : l < 8) : r_isJammed l m = some (bt (jm G s) l, m) := by
  have g2 := vs_j w hv
  unfold r_isJammed
  rw [r_jammedNow_ok N, bnd_some, bt_shr (by omega) (by omega) h1 h2]
  rcases bt_01 (jm G s) l with e | e
  · rw [e, if_neg (by decide)]
  · rw [e, if_pos rfl]
theorem r_turnOf_ok (w : wfG G) (H : RH m G) {n l : Int} (h1 : 0 ≤ n) (h2 : n < nN G) (h3 : 0 ≤ l) (h4 : l < 4) : r_turnOf n l m = some (tT G n l, m) := by
  have := w.2.1
  unfold r_turnOf
  rw [ial_in (by omega) (by rw [al104]; omega), H.2.2.2.1 n l h1 h2 h3 h4]
theorem r_isIn_ok {x a b : Int} (h1 : -9223372036854775808 ≤ x) (h2 : x ≤ 9223372036854775807) (h3 : -9223372036854775808 ≤ a) (h4 : a ≤ 9223372036854775807) (h5 : -9223372036854775808 ≤ b) (h6 : b ≤ 9223372036854775807) : r_isIn x a b m = some (if a ≤ x ∧ x ≤ b then 1 else 0, m) := by
  unfold r_isIn
  rw [w64_id h1 h2, w64_id h3 h4, w64_id h5 h6]
  by_cases c1 : x < a
  · rw [if_pos c1, if_neg (by omega)]
  · rw [if_neg c1]
    by_cases c2 : b < x
    · rw [if_pos c2, if_neg (by omega)]
    · rw [if_neg c2, if_pos (by omega)]
theorem r_isNote_ok (w : wfG G) (H : RH m G) {n : Int} : r_isNote n m = some (if 0 ≤ w32 n ∧ w32 n < nN G then 1 else 0, m) := by
  have g := w.2.1
  have g1 := w32_ge n
  have g2 := w32_le n
  unfold r_isNote
  rw [r_noteMany_ok H, bnd_some, w32_id (x := nN G - 1) (by omega) (by omega), r_isIn_ok (by omega) (by omega) (by omega) (by omega) (by omega) (by omega), bnd_some]
  by_cases c : 0 ≤ w32 n ∧ w32 n < nN G
  · rw [if_pos (by omega), if_pos c]
    rfl
  · rw [if_neg (by omega), if_neg c]
    rfl
theorem r_isLockThere_ok (w : wfS G) (H : RH m G) {n : Int} : r_isLockThere n m = some (if 0 ≤ w32 n ∧ w32 n < nL G then 1 else 0, m) := by
  have g := w.1
  have g0 := w.2.1
  have g1 := w32_ge n
  have g2 := w32_le n
  unfold r_isLockThere
  rw [r_lockMany_ok H, bnd_some, w32_id (x := nL G - 1) (by omega) (by omega), r_isIn_ok (by omega) (by omega) (by omega) (by omega) (by omega) (by omega), bnd_some]
  by_cases c : 0 ≤ w32 n ∧ w32 n < nL G
  · rw [if_pos (by omega), if_pos c]
    rfl
  · rw [if_neg (by omega), if_neg c]
    rfl
def bd (n : Int) : Int := 2 ^ n.toNat - 1
theorem bd_rng {n : Int} (h1 : 0 ≤ n) (h2 : n ≤ 6) : 0 ≤ bd n ∧ bd n < 64 := by
  obtain ⟨k, hk, rfl⟩ := nat2 (n := 7) h1 (by omega)
  have : ∀ k : Nat, k < 7 → 0 ≤ bd k ∧ bd k < 64 := by decide
  exact this k hk
theorem r_areDoors_ok (w : wfG G) (H : RH m G) {n : Int} : r_areDoors n m = some (if 0 ≤ w32 n ∧ w32 n ≤ bd (nD G) then 1 else 0, m) := by
  have g := w.2.2.1
  have g0 := bd_rng g.1 g.2
  have g1 := w32_ge n
  have g2 := w32_le n
  unfold r_areDoors
  rw [r_doorMany_ok H, bnd_some, shl1 (by omega) (by omega), show (2 : Int) ^ (nD G).toNat - 1 = bd (nD G) from rfl, w32_id (x := bd (nD G)) (by omega) (by omega), r_isIn_ok (by omega) (by omega) (by omega) (by omega) (by omega) (by omega), bnd_some]
  by_cases c : 0 ≤ w32 n ∧ w32 n ≤ bd (nD G)
  · rw [if_pos c]
    rfl
  · rw [if_neg c]
    rfl
/-- can be played, lock by lock -/
theorem nk_bt (G : hv) (n : Int) {l : Int} (h1 : 0 ≤ l) (h2 : l < 4) : bt (nk G n) l = if 0 < tT G n l then 1 else 0 := by
  have key : ∀ a b c d : Nat, a < 2 → b < 2 → c < 2 → d < 2 → bt ((a : Int) + 2 * b + 4 * c + 8 * d) 0 = a ∧ bt ((a : Int) + 2 * b + 4 * c + 8 * d) 1 = b ∧ bt ((a : Int) + 2 * b + 4 * c + 8 * d) 2 = c ∧ bt ((a : Int) + 2 * b + 4 * c + 8 * d) 3 = d := by
    have : ∀ a : Nat, a < 2 → ∀ b : Nat, b < 2 → ∀ c : Nat, c < 2 → ∀ d : Nat, d < 2 → bt ((a : Int) + 2 * b + 4 * c + 8 * d) 0 = a ∧ bt ((a : Int) + 2 * b + 4 * c + 8 * d) 1 = b ∧ bt ((a : Int) + 2 * b + 4 * c + 8 * d) 2 = c ∧ bt ((a : Int) + 2 * b + 4 * c + 8 * d) 3 = d := by decide
    intro a b c d ha hb hc hd
    exact this a ha b hb c hc d hd
  obtain ⟨a, ha, ea⟩ : ∃ a : Nat, a < 2 ∧ (if 0 < tT G n 0 then (1 : Int) else 0) = a := by split; exact ⟨1, by decide, rfl⟩; exact ⟨0, by decide, rfl⟩
  obtain ⟨b, hb, eb⟩ : ∃ a : Nat, a < 2 ∧ (if 0 < tT G n 1 then (1 : Int) else 0) = a := by split; exact ⟨1, by decide, rfl⟩; exact ⟨0, by decide, rfl⟩
  obtain ⟨c, hc, ec⟩ : ∃ a : Nat, a < 2 ∧ (if 0 < tT G n 2 then (1 : Int) else 0) = a := by split; exact ⟨1, by decide, rfl⟩; exact ⟨0, by decide, rfl⟩
  obtain ⟨d, hd, ed⟩ : ∃ a : Nat, a < 2 ∧ (if 0 < tT G n 3 then (1 : Int) else 0) = a := by split; exact ⟨1, by decide, rfl⟩; exact ⟨0, by decide, rfl⟩
  have e : nk G n = (a : Int) + 2 * b + 4 * c + 8 * d := by
    rw [← ea, ← eb, ← ec, ← ed]
    unfold nk
    (repeat' split) <;> rfl
  rw [e]
  obtain ⟨k0, k1, k2, k3⟩ := key a b c d ha hb hc hd
  rcases in4 h1 h2 with rfl | rfl | rfl | rfl
  · rw [k0, ea]
  · rw [k1, eb]
  · rw [k2, ec]
  · rw [k3, ed]
theorem ban_bt0 : ∀ a : Nat, a < 16 → ∀ b : Nat, b < 16 → (ban (a : Int) (b : Int) = 0 ↔ ∀ l : Nat, l < 4 → bt a l = 1 → bt b l = 0) := by decide +kernel
theorem cp_iff (w : wfG G) {s n : Int} (hv : vs G s) : ban (nk G n) (jm G s) = 0 ↔ ∀ l, 0 ≤ l → l < 4 → 0 < tT G n l → bt (jm G s) l = 0 := by
  have g := nk_rng (G := G) n
  have g2 := vs_j w.1 hv
  have hb : ∀ l, 0 ≤ l → l < 4 → (bt (nk G n) l = 1 ↔ 0 < tT G n l) := by
    intro l h1 h2
    rw [nk_bt G n h1 h2]
    split <;> simp_all
  obtain ⟨a, ha, ea⟩ := nat2 (n := 16) g.1 g.2
  obtain ⟨b, hb2, eb⟩ := nat2 (n := 16) g2.1 g2.2
  rw [ea] at hb
  rw [ea, eb, ban_bt0 a ha b hb2]
  constructor
  · intro z l h1 h2 h3
    have := z l.toNat (by omega) (by rw [show ((l.toNat : Nat) : Int) = l by omega]; exact (hb l h1 h2).mpr h3)
    rwa [show ((l.toNat : Nat) : Int) = l by omega] at this
  · intro z l h1 h2
    exact z l (by omega) (by omega) ((hb l (by omega) (by omega)).mp h2)
theorem r_canPlay_ok (w : wfG G) (H : RH m G) {s : Int} (hv : vs G s) (N : NR m G s) {n : Int} (hn : n = 6 ∨ (0 ≤ n ∧ n < nN G)) : (cp G s n → r_canPlay n m = some (1, m)) ∧ (¬ cp G s n → r_canPlay n m = some (0, m)) := by
  have g := w.2.1
  have hL := w.1.1
  have hL2 := w.1.2.1
  unfold r_canPlay
  by_cases h6 : n = 6
  · subst h6
    refine ⟨fun _ => by rw [if_pos (by decide)], fun z => absurd (Or.inl rfl) z⟩
  have hn2 : 0 ≤ n ∧ n < nN G := by omega
  rw [w32_id (x := n) (by omega) (by omega), if_neg h6]
  have loop : ∀ (f k : Nat), (k : Int) ≤ nL G → (nL G).toNat - k < f → ((∀ l, (k : Int) ≤ l → l < nL G → 0 < tT G n l → bt (jm G s) l = 0) → r_canPlay_10 f n (k : Int) m = some (1, m)) ∧ (¬ (∀ l, (k : Int) ≤ l → l < nL G → 0 < tT G n l → bt (jm G s) l = 0) → r_canPlay_10 f n (k : Int) m = some (0, m)) := by
    intro f
    induction f with
    | zero => intro k _ hf; omega
    | succ f ih =>
      intro k hk hf
      rw [r_canPlay_10, r_lockMany_ok H, bnd_some, w32_id (x := nL G) (by omega) (by omega), w32_id (x := (k : Int)) (by omega) (by omega)]
      by_cases he : nL G ≤ (k : Int)
      · rw [if_pos he]
        exact ⟨fun _ => rfl, fun z => absurd (fun l g1 g2 => by omega) z⟩
      · have hT := w.2.2.2.2.2.2.1 n (k : Int) (by omega) (by omega) (by omega) (by omega)
        rw [if_neg he, r_turnOf_ok w H hn2.1 hn2.2 (by omega) (by omega), bnd_some, w32_id (x := tT G n k) (by omega) (by omega)]
        have ih2 := ih (k + 1) (by omega) (by omega)
        have e37 : ∀ m, r_canPlay_37 (fun v1 v2 m => r_canPlay_10 f v1 v2 m) n (k : Int) m = r_canPlay_10 f n ((k + 1 : Nat) : Int) m := fun _ => rfl
        by_cases ht : tT G n k ≤ 0
        · rw [if_pos ht, e37]
          constructor
          · intro z
            exact ih2.1 (fun l g1 g2 => z l (by omega) g2)
          · intro z
            refine ih2.2 (fun y => z (fun l g1 g2 g3 => ?_))
            by_cases hlk : l = (k : Int)
            · subst hlk; omega
            · exact y l (by omega) g2 g3
        · rw [if_neg ht, r_isJammed_ok w.1 hv N (by omega) (by omega), bnd_some]
          rcases bt_01 (jm G s) (k : Int) with hb | hb
          · rw [hb, if_pos (by decide), e37]
            constructor
            · intro z
              exact ih2.1 (fun l g1 g2 => z l (by omega) g2)
            · intro z
              refine ih2.2 (fun y => z (fun l g1 g2 g3 => ?_))
              by_cases hlk : l = (k : Int)
              · subst hlk; exact hb
              · exact y l (by omega) g2 g3
          · rw [hb, if_neg (by decide)]
            refine ⟨fun z => ?_, fun _ => rfl⟩
            have := z (k : Int) (by omega) (by omega) (by omega)
            omega
  have l0 := loop xLF 0 (by omega) (by rw [xLF_eq]; omega)
  have hiff : cp G s n ↔ ∀ l, ((0 : Nat) : Int) ≤ l → l < nL G → 0 < tT G n l → bt (jm G s) l = 0 := by
    unfold cp
    rw [cp_iff w hv]
    constructor
    · intro z l g1 g2 g3
      rcases z with z | z
      · exact absurd z h6
      · exact z.2.2 l (by omega) (by omega) g3
    · intro z
      refine Or.inr ⟨hn2.1, hn2.2, fun l g1 g2 g3 => ?_⟩
      by_cases hl : l < nL G
      · exact z l (by omega) hl g3
      · have := (w.2.2.2.2.2.2.1 n l hn2.1 (by omega) g1 g2).2.2 (Or.inr (by omega))
        omega
  exact ⟨fun z => l0.1 (hiff.mp z), fun z => l0.2 (fun y => z (hiff.mpr y))⟩
/-- only where all stands now was changed -/
def fn (m m' : xm) : Prop := ∀ a k, ¬ (a = 110 ∧ 1 ≤ k ∧ k ≤ 5) → m' a k = m a k
theorem fn_refl {m : xm} : fn m m := fun _ _ _ => rfl
theorem fn_trans {m1 m2 m3 : xm} (h1 : fn m1 m2) (h2 : fn m2 m3) : fn m1 m3 := fun a k g => by rw [h2 a k g, h1 a k g]
theorem fn_st {m : xm} {k v : Int} (h1 : 1 ≤ k) (h2 : k ≤ 5) : fn m (st m 110 k v) := fun a j g => by
  unfold st
  rw [if_neg (fun z => g ⟨z.1, by omega, by omega⟩)]
theorem fn_ld {m m' : xm} (f : fn m m') {a : Nat} {k : Int} (g : ¬ (a = 110 ∧ 1 ≤ k ∧ k ≤ 5)) : ld m' a k = ld m a k := by
  unfold ld
  rw [f a k g]
theorem fn_RH {m m' : xm} {G : hv} (f : fn m m') (H : RH m G) : RH m' G := RH_cg H (fun a k g1 g2 _ => fn_ld f (by omega))
theorem r_turns_loop (w : wfG G) {s0 n : Int} (hv0 : vs G s0) (hn1 : 0 ≤ n) (hn2 : n < nN G) : ∀ (f k : Nat) {m : xm}, RH m G → NR m G (afl G n k s0) → (k : Int) ≤ nL G → (nL G).toNat - k < f → ∃ m', r_turns_9 f n (k : Int) m = some (0, m') ∧ NR m' G (af G n s0) ∧ fn m m' := by
  have g := w.2.1
  have hw := w.1
  have hL := hw.1
  have hL2 := hw.2.1
  intro f
  induction f with
  | zero => intro k m _ _ _ hf; omega
  | succ f ih =>
    intro k m H N hk hf
    rw [r_turns_9, r_lockMany_ok H, bnd_some, w32_id (x := nL G) (by omega) (by omega), w32_id (x := (k : Int)) (by omega) (by omega)]
    by_cases he : nL G ≤ (k : Int)
    · rw [if_pos he]
      have : k = (nL G).toNat := by omega
      subst this
      exact ⟨m, rfl, N, fn_refl⟩
    · have hT := w.2.2.2.2.2.2.1 n (k : Int) (by omega) (by omega) (by omega) (by omega)
      have hvk := vs_afl hw (n := n) hv0 k
      have hx := wx_pos hw (k : Int)
      have hd := wd_rng hw (afl G n k s0) (k : Int)
      have hJ := w.2.2.2.2.2.1 (k : Int) (by omega) (by omega)
      have hjr := vs_j hw hvk
      have hg1 : G 1 (k : Int) = wx G k := (wx_in (by omega) (by omega)).symm
      rw [if_neg he, r_turnOf_ok w H hn1 hn2 (by omega) (by omega), bnd_some, w32_id (x := tT G n k) (by omega) (by omega)]
      have e86 : ∀ m, r_turns_86 (fun v1 v2 m => r_turns_9 f v1 v2 m) n (k : Int) m = r_turns_9 f n ((k + 1 : Nat) : Int) m := fun _ => rfl
      by_cases ht : tT G n k = 0
      · rw [if_pos ht, e86]
        have e : afl G n (k + 1) s0 = afl G n k s0 := by
          show tn G n k (afl G n k s0) = _
          unfold tn
          rw [if_neg (by omega)]
        exact ih (k + 1) H (by rw [e]; exact N) (by omega) (by omega)
      · generalize hs : afl G n k s0 = s at *
        have r1 := Int.emod_nonneg (wd G s k + tT G n k) (show wx G k ≠ 0 by omega)
        have r2 := Int.emod_lt_of_pos (wd G s k + tT G n k) (show 0 < wx G k by omega)
        have hu := ud_ok hw (s := s) (l := (k : Int)) (by omega) (by omega) r1 r2
        generalize hvv : (wd G s k + tT G n k) % wx G k = v at *
        rw [if_neg ht, r_wardNow_ok hw N (by omega) (by omega), bnd_some, r_turnOf_ok w H hn1 hn2 (by omega) (by omega), bnd_some, r_wardsOf_ok hw H (by omega) (by omega), bnd_some, w32_id (x := wx G k) (by omega) (by omega), if_neg (by omega), irm_nn (by omega) (by omega) (by omega) (by omega), hvv, ias_in (by omega) (by rw [al110]; omega)]
        have f1 : fn m (st m 110 (1 + (k : Int)) v) := fn_st (by omega) (by omega)
        have H1 := fn_RH f1 H
        have N1 : NR (st m 110 (1 + (k : Int)) v) G (ud G s k v) := by
          refine ⟨fun l g1 g2 => ?_, ?_⟩
          · rw [hu.1 l g1 (by omega)]
            by_cases hlk : l = (k : Int)
            · rw [if_pos hlk, hlk, ld_st_eq, w32_id (by omega) (by omega)]
            · rw [if_neg hlk, ld_st_ne (by omega)]
              exact N.1 l g1 g2
          · rw [hu.2, ld_st_ne (by omega)]
            exact N.2
        have hww := (hu.1 (k : Int) (by omega) (by omega))
        rw [if_pos rfl] at hww
        rw [r_wardNow_ok hw N1 (by omega) (by omega), bnd_some, ial_in (by omega) (by rw [al103]; omega), (H1.2.2.1 (k : Int) (by omega) (by omega)).2.2, hww, w32_id (x := v) (by omega) (by omega), w32_id (x := G 3 k) (by omega) (by omega)]
        have e : afl G n (k + 1) s0 = if v = G 3 k then sj G (ud G s k v) k else ud G s k v := by
          show tn G n k (afl G n k s0) = _
          unfold tn
          rw [hs, hvv, if_pos ⟨by omega, by omega⟩]
        by_cases hj : v = G 3 k
        · rw [if_pos hj] at e
          have f2 : fn (st m 110 (1 + (k : Int)) v) (st (st m 110 (1 + (k : Int)) v) 110 5 (bor (jm G (ud G s k v)) (shl 1 (k : Int)))) := fn_st (by decide) (by decide)
          have hsb := sj_ok hw (s := ud G s k v) (l := (k : Int))
          have hjr2 : jm G (ud G s k v) = jm G s := hu.2
          have hbor : bor (jm G (ud G s k v)) (shl 1 (k : Int)) = sb (jm G (ud G s k v)) k := bor_sb (by omega) (by omega) (by omega) (by omega)
          have hsbr := sb_bt0 (jm G s).toNat (by omega) k (by omega)
          have hsbr2 : 0 ≤ sb (jm G s) k ∧ sb (jm G s) k < 64 := by
            have := hsbr.2
            rwa [show (((jm G s).toNat : Nat) : Int) = jm G s by omega] at this
          rw [if_pos hj, ial_in (by decide) (by rw [al110]; decide), N1.2, ias_in (by decide) (by rw [al110]; decide), e86]
          obtain ⟨m', q1, q2, q3⟩ := ih (k + 1) (m := st (st m 110 (1 + (k : Int)) v) 110 5 (bor (jm G (ud G s k v)) (shl 1 (k : Int)))) (fn_RH f2 H1) (by
            rw [e]
            refine ⟨fun l g1 g2 => ?_, ?_⟩
            · rw [hsb.1 l g1 (by omega), ld_st_ne (by omega)]
              exact N1.1 l g1 g2
            · rw [hsb.2, ld_st_eq, hbor, hjr2, w32_id (by omega) (by omega)]) (by omega) (by omega)
          exact ⟨m', q1, q2, fn_trans f1 (fn_trans f2 q3)⟩
        · rw [if_neg hj] at e
          rw [if_neg hj, e86]
          obtain ⟨m', q1, q2, q3⟩ := ih (k + 1) (m := st m 110 (1 + (k : Int)) v) H1 (by rw [e]; exact N1) (by omega) (by omega)
          exact ⟨m', q1, q2, fn_trans f1 q3⟩
/-- the state behind a note or a rest -/
def ag (G : hv) (n s : Int) : Int := if n = 6 then s else af G n s
theorem vs_ag (w : wfS G) {n s : Int} (hv : vs G s) : vs G (ag G n s) := by
  unfold ag
  split
  · exact hv
  · exact vs_af w hv
theorem r_turns_ok (w : wfG G) (H : RH m G) {s n : Int} (hv : vs G s) (N : NR m G s) (hn : n = 6 ∨ (0 ≤ n ∧ n < nN G)) : ∃ m', r_turns n m = some (0, m') ∧ NR m' G (ag G n s) ∧ fn m m' := by
  have g := w.2.1
  have hL := w.1.1
  have hL2 := w.1.2.1
  unfold r_turns ag
  by_cases h6 : n = 6
  · subst h6
    rw [if_pos (by decide), if_pos rfl]
    exact ⟨m, rfl, N, fn_refl⟩
  · rw [w32_id (x := n) (by omega) (by omega), if_neg h6, if_neg h6]
    exact r_turns_loop w hv (by omega) (by omega) xLF 0 H N (by omega) (by rw [xLF_eq]; omega)
theorem cH_after_ag {h : Nat} {m : xm} (p : isH h) (w : wfG G) (c : CH m h G) {s n : Int} (hv : vs G s) (hn : n = 6 ∨ (0 ≤ n ∧ n < nN G)) : cH_after h s n m = some (ag G n s, m) := by
  have g := w.2.1
  unfold ag
  by_cases h6 : n = 6
  · subst h6
    rw [if_pos rfl]
    exact cH_after_rest p w c
  · rw [if_neg h6]
    exact cH_after_in p w c hv (by omega) (by omega)
end RQ
